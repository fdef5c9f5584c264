/-! the words of the tables, each by its place -/
/-- two private methods of the class above, as an object of StringBuilder finds them -/
def xSel : List Cond := [Cond.selects "java/lang/StringBuilder" yJ5_ensureCapacityInternal_d00df yJ5_ensureCapacityInternal_d00df, Cond.selects "java/lang/StringBuilder" yJ5_newCapacity_0f7a4 yJ5_newCapacity_0f7a4]
def GW : List Cond := (lw_tbl ++ xSel).filter goodWord
def nestLike : Cond → Bool
  | .methodLinkNest _ _ _ _ => true
  | .fieldLinkNest _ _ _ _ _ _ => true
  | .castable _ _ => true
  | .declares _ => true
  | _ => false
def NW : List Cond := lw_tbl.filter nestLike
theorem mw_of {i : Nat} {w : Cond} (h : lw_tbl[i]? = some w) (g : goodWord w = true) : w ∈ GW := List.mem_filter.mpr ⟨List.mem_append_left _ (List.mem_of_getElem? h), g⟩
theorem nw_of {i : Nat} {w : Cond} (h : lw_tbl[i]? = some w) (g : nestLike w = true) : w ∈ NW := List.mem_filter.mpr ⟨List.mem_of_getElem? h, g⟩
theorem mp_0 : Cond.selects "EveningLedger$Book" yX0_copyFrom yX0_copyFrom ∈ GW := mw_of (i := 0) (by decide +kernel) rfl
theorem mp_1 : Cond.selects "java/lang/Throwable" (⟨"java/lang/Throwable", "fillInStackTrace", "(I)Ljava/lang/Throwable;"⟩ : MethodName) (⟨"java/lang/Throwable", "fillInStackTrace", "(I)Ljava/lang/Throwable;"⟩ : MethodName) ∈ GW := mw_of (i := 1) (by decide +kernel) rfl
theorem mp_2 : Cond.selects "EveningLedger$Refusal" yX2_stopsAdding yX2_stopsAdding ∈ GW := mw_of (i := 2) (by decide +kernel) rfl
theorem mp_3 : Cond.selects "EveningLedger$Book" yX0_entriesOn yX0_entriesOn ∈ GW := mw_of (i := 3) (by decide +kernel) rfl
theorem mp_4 : Cond.selects "EveningLedger$Book" yX0_debtOn yX0_debtOn ∈ GW := mw_of (i := 4) (by decide +kernel) rfl
theorem mp_5 : Cond.selects "EveningLedger$Refusal" yX2_keepIf yX2_keepIf ∈ GW := mw_of (i := 5) (by decide +kernel) rfl
theorem mp_6 : Cond.selects "EveningLedger$History" yX1_rememberBook yX1_rememberBook ∈ GW := mw_of (i := 6) (by decide +kernel) rfl
theorem mp_7 : Cond.selects "EveningLedger$Book" yX0_firstEmptyPlace yX0_firstEmptyPlace ∈ GW := mw_of (i := 7) (by decide +kernel) rfl
theorem mp_8 : Cond.selects "EveningLedger$Book" yX0_writeEntry yX0_writeEntry ∈ GW := mw_of (i := 8) (by decide +kernel) rfl
theorem mp_9 : Cond.selects "EveningLedger$Book" yX0_put yX0_put ∈ GW := mw_of (i := 9) (by decide +kernel) rfl
theorem mp_10 : Cond.selects "EveningLedger$Book" yX0_makeSheetItsOwn yX0_makeSheetItsOwn ∈ GW := mw_of (i := 10) (by decide +kernel) rfl
theorem mp_11 : Cond.selects "EveningLedger$Book" yX0_sheetOn yX0_sheetOn ∈ GW := mw_of (i := 11) (by decide +kernel) rfl
theorem mp_12 : Cond.selects "EveningLedger$Book" yX0_daysWithSheet yX0_daysWithSheet ∈ GW := mw_of (i := 12) (by decide +kernel) rfl
theorem mp_13 : Cond.selects "EveningLedger$Refusal" yX2_stopsOwing yX2_stopsOwing ∈ GW := mw_of (i := 13) (by decide +kernel) rfl
theorem mp_14 : Cond.selects "EveningLedger$Refusal" yX2_stopsAtEmpty yX2_stopsAtEmpty ∈ GW := mw_of (i := 14) (by decide +kernel) rfl
theorem mp_15 : Cond.selects "EveningLedger$Book" yX0_oweMore yX0_oweMore ∈ GW := mw_of (i := 15) (by decide +kernel) rfl
theorem mp_16 : Cond.selects "EveningLedger$Book" yX0_strikeOut yX0_strikeOut ∈ GW := mw_of (i := 16) (by decide +kernel) rfl
theorem mp_17 : Cond.selects "EveningLedger$Book" yX0_personOn yX0_personOn ∈ GW := mw_of (i := 17) (by decide +kernel) rfl
theorem mp_18 : Cond.selects "EveningLedger$Refusal" yX2_stopsEvening yX2_stopsEvening ∈ GW := mw_of (i := 18) (by decide +kernel) rfl
theorem mp_19 : Cond.selects "EveningLedger$Book" yX0_keepEvening yX0_keepEvening ∈ GW := mw_of (i := 19) (by decide +kernel) rfl
theorem mp_20 : Cond.selects "EveningLedger$Book" yX0_moveDays yX0_moveDays ∈ GW := mw_of (i := 20) (by decide +kernel) rfl
theorem mp_21 : Cond.selects "EveningLedger" yX5_needDay yX5_needDay ∈ GW := mw_of (i := 21) (by decide +kernel) rfl
theorem mp_22 : Cond.selects "EveningLedger$Book" yX0_dayOf yX0_dayOf ∈ GW := mw_of (i := 22) (by decide +kernel) rfl
theorem mp_23 : Cond.selects "EveningLedger$Refusal" yX2_stopsTakingOver yX2_stopsTakingOver ∈ GW := mw_of (i := 23) (by decide +kernel) rfl
theorem mp_24 : Cond.selects "EveningLedger$Book" yX0_takePageFrom yX0_takePageFrom ∈ GW := mw_of (i := 24) (by decide +kernel) rfl
theorem mp_25 : Cond.selects "EveningLedger$Refusal" yX2_stopsForgetting yX2_stopsForgetting ∈ GW := mw_of (i := 25) (by decide +kernel) rfl
theorem mp_26 : Cond.selects "EveningLedger$Book" yX0_pagesAlone yX0_pagesAlone ∈ GW := mw_of (i := 26) (by decide +kernel) rfl
theorem mp_27 : Cond.selects "EveningLedger$Book" yX0_forgetDay yX0_forgetDay ∈ GW := mw_of (i := 27) (by decide +kernel) rfl
theorem mp_28 : Cond.selects "EveningLedger$Text" yX3_countCommands yX3_countCommands ∈ GW := mw_of (i := 28) (by decide +kernel) rfl
theorem mp_29 : Cond.selects "EveningLedger$Text" yX3_startAgain yX3_startAgain ∈ GW := mw_of (i := 29) (by decide +kernel) rfl
theorem mp_30 : Cond.selects "EveningLedger$Text" yX3_takeCommand yX3_takeCommand ∈ GW := mw_of (i := 30) (by decide +kernel) rfl
theorem mp_31 : Cond.selects "EveningLedger$Text" yX3_takeSign yX3_takeSign ∈ GW := mw_of (i := 31) (by decide +kernel) rfl
theorem mp_32 : Cond.selects "EveningLedger$Text" yX3_isAtSignFrom yX3_isAtSignFrom ∈ GW := mw_of (i := 32) (by decide +kernel) rfl
theorem mp_33 : Cond.selects "EveningLedger$Text" yX3_takeNumber yX3_takeNumber ∈ GW := mw_of (i := 33) (by decide +kernel) rfl
theorem mp_34 : Cond.selects "EveningLedger$Text" yX3_takeDigit yX3_takeDigit ∈ GW := mw_of (i := 34) (by decide +kernel) rfl
theorem mp_35 : Cond.selects "EveningLedger$Text" yX3_takePage yX3_takePage ∈ GW := mw_of (i := 35) (by decide +kernel) rfl
theorem mp_36 : Cond.selects "EveningLedger$Text" yX3_takeEntryCommand yX3_takeEntryCommand ∈ GW := mw_of (i := 36) (by decide +kernel) rfl
theorem mp_37 : Cond.selects "EveningLedger$Text" yX3_takeLetter yX3_takeLetter ∈ GW := mw_of (i := 37) (by decide +kernel) rfl
theorem mp_38 : Cond.selects "EveningLedger$Text" yX3_takePlace yX3_takePlace ∈ GW := mw_of (i := 38) (by decide +kernel) rfl
theorem mp_39 : Cond.selects "EveningLedger$Text" yX3_empty yX3_empty ∈ GW := mw_of (i := 39) (by decide +kernel) rfl
theorem mp_40 : Cond.selects "EveningLedger" yX5_carryOut yX5_carryOut ∈ GW := mw_of (i := 40) (by decide +kernel) rfl
theorem mp_41 : Cond.selects "EveningLedger" yX5_tellsWhatIs yX5_tellsWhatIs ∈ GW := mw_of (i := 41) (by decide +kernel) rfl
theorem mp_42 : Cond.selects "EveningLedger" yX5_commandIsRefused yX5_commandIsRefused ∈ GW := mw_of (i := 42) (by decide +kernel) rfl
theorem mp_43 : Cond.selects "EveningLedger$Refusal" yX2_stopsWriting yX2_stopsWriting ∈ GW := mw_of (i := 43) (by decide +kernel) rfl
theorem mp_44 : Cond.selects "EveningLedger" yX5_doCommand yX5_doCommand ∈ GW := mw_of (i := 44) (by decide +kernel) rfl
theorem mp_45 : Cond.selects "EveningLedger$History" yX1_giveBack yX1_giveBack ∈ GW := mw_of (i := 45) (by decide +kernel) rfl
theorem mp_46 : Cond.selects "EveningLedger$Book" yX0_swapEntries yX0_swapEntries ∈ GW := mw_of (i := 46) (by decide +kernel) rfl
theorem mp_47 : Cond.selects "EveningLedger$Book" yX0_sumOn yX0_sumOn ∈ GW := mw_of (i := 47) (by decide +kernel) rfl
theorem mp_48 : Cond.selects "EveningLedger$Book" yX0_peopleOn yX0_peopleOn ∈ GW := mw_of (i := 48) (by decide +kernel) rfl
theorem mp_49 : Cond.selects "EveningLedger$Book" yX0_sheetsLeft yX0_sheetsLeft ∈ GW := mw_of (i := 49) (by decide +kernel) rfl
theorem mp_50 : Cond.selects "EveningLedger$Book" yX0_allEntries yX0_allEntries ∈ GW := mw_of (i := 50) (by decide +kernel) rfl
theorem mp_51 : Cond.selects "EveningLedger$Book" yX0_sumOfAll yX0_sumOfAll ∈ GW := mw_of (i := 51) (by decide +kernel) rfl
theorem mp_52 : Cond.selects "EveningLedger" yX5_putPlace yX5_putPlace ∈ GW := mw_of (i := 52) (by decide +kernel) rfl
theorem mp_53 : Cond.selects "EveningLedger$Book" yX0_spotByRank yX0_spotByRank ∈ GW := mw_of (i := 53) (by decide +kernel) rfl
theorem mp_54 : Cond.selects "EveningLedger$Book" yX0_entriesAhead yX0_entriesAhead ∈ GW := mw_of (i := 54) (by decide +kernel) rfl
theorem mp_55 : Cond.selects "EveningLedger$Book" yX0_debtOf yX0_debtOf ∈ GW := mw_of (i := 55) (by decide +kernel) rfl
theorem mp_56 : Cond.selects "EveningLedger$Book" yX0_debtOnPage yX0_debtOnPage ∈ GW := mw_of (i := 56) (by decide +kernel) rfl
theorem mp_57 : Cond.selects "EveningLedger$Book" yX0_firstSpotOf yX0_firstSpotOf ∈ GW := mw_of (i := 57) (by decide +kernel) rfl
theorem mp_58 : Cond.selects "EveningLedger$Book" yX0_debtByDifferences yX0_debtByDifferences ∈ GW := mw_of (i := 58) (by decide +kernel) rfl
theorem mp_59 : Cond.selects "EveningLedger$Book" yX0_differenceSince yX0_differenceSince ∈ GW := mw_of (i := 59) (by decide +kernel) rfl
theorem mp_60 : Cond.selects "EveningLedger$Totals" yX4_sumUp yX4_sumUp ∈ GW := mw_of (i := 60) (by decide +kernel) rfl
theorem mp_61 : Cond.selects "EveningLedger$Totals" yX4_personByRank yX4_personByRank ∈ GW := mw_of (i := 61) (by decide +kernel) rfl
theorem mp_62 : Cond.selects "EveningLedger$Totals" yX4_peopleAhead yX4_peopleAhead ∈ GW := mw_of (i := 62) (by decide +kernel) rfl
theorem mp_63 : Cond.selects "EveningLedger$Book" yX0_differentSheets yX0_differentSheets ∈ GW := mw_of (i := 63) (by decide +kernel) rfl
theorem mp_64 : Cond.selects "EveningLedger$Book" yX0_differentPlaces yX0_differentPlaces ∈ GW := mw_of (i := 64) (by decide +kernel) rfl
theorem mp_65 : Cond.selects "EveningLedger" yX5_putSheet yX5_putSheet ∈ GW := mw_of (i := 65) (by decide +kernel) rfl
theorem mp_66 : Cond.selects "EveningLedger$Book" yX0_eveningOfGreatestDebt yX0_eveningOfGreatestDebt ∈ GW := mw_of (i := 66) (by decide +kernel) rfl
theorem mp_67 : Cond.selects "EveningLedger$Book" yX0_latestEveningWithout yX0_latestEveningWithout ∈ GW := mw_of (i := 67) (by decide +kernel) rfl
theorem mw_0 : Cond.initialized "EveningLedgerLaw" ∈ GW := mw_of (i := 68) (by decide +kernel) rfl
theorem mw_1 : Cond.initialized "EveningLedger" ∈ GW := mw_of (i := 69) (by decide +kernel) rfl
theorem mw_2 : Cond.initialized "EveningLedger$Book" ∈ GW := mw_of (i := 70) (by decide +kernel) rfl
theorem mw_3 : Cond.initialized "EveningLedger$History" ∈ GW := mw_of (i := 71) (by decide +kernel) rfl
theorem mw_4 : Cond.initialized "EveningLedger$Refusal" ∈ GW := mw_of (i := 72) (by decide +kernel) rfl
theorem mw_5 : Cond.initialized "EveningLedger$Totals" ∈ GW := mw_of (i := 73) (by decide +kernel) rfl
theorem mw_6 : Cond.initialized "EveningLedger$Text" ∈ GW := mw_of (i := 74) (by decide +kernel) rfl
theorem mw_7 : Cond.initialized "java/lang/AbstractStringBuilder" ∈ GW := mw_of (i := 75) (by decide +kernel) rfl
theorem mw_8 : Cond.initialized "java/lang/StringBuilder" ∈ GW := mw_of (i := 76) (by decide +kernel) rfl
theorem mw_9 : Cond.initialized "java/lang/String" ∈ GW := mw_of (i := 77) (by decide +kernel) rfl
theorem mw_10 : Cond.initialized "java/lang/StringUTF16" ∈ GW := mw_of (i := 78) (by decide +kernel) rfl
theorem mw_11 : Cond.initialized "java/lang/Throwable" ∈ GW := mw_of (i := 79) (by decide +kernel) rfl
theorem mw_12 : Cond.initialized "java/lang/Exception" ∈ GW := mw_of (i := 80) (by decide +kernel) rfl
theorem mw_13 : Cond.initialized "java/lang/RuntimeException" ∈ GW := mw_of (i := 81) (by decide +kernel) rfl
theorem mw_14 : Cond.initialized "java/lang/IndexOutOfBoundsException" ∈ GW := mw_of (i := 82) (by decide +kernel) rfl
theorem mw_15 : Cond.initialized "java/lang/ArrayIndexOutOfBoundsException" ∈ GW := mw_of (i := 83) (by decide +kernel) rfl
theorem mw_16 : Cond.initialized "java/lang/IllegalArgumentException" ∈ GW := mw_of (i := 84) (by decide +kernel) rfl
theorem mw_17 : Cond.initialized "java/lang/UnsupportedOperationException" ∈ GW := mw_of (i := 85) (by decide +kernel) rfl
theorem mw_18 : Cond.initialized "java/lang/System" ∈ GW := mw_of (i := 86) (by decide +kernel) rfl
theorem mw_19 : Cond.initialized "java/lang/Math" ∈ GW := mw_of (i := 87) (by decide +kernel) rfl
theorem mw_20 : Cond.initialized "java/util/NoSuchElementException" ∈ GW := mw_of (i := 88) (by decide +kernel) rfl
theorem mw_21 : Cond.initialized "java/lang/Number" ∈ GW := mw_of (i := 89) (by decide +kernel) rfl
theorem mw_22 : Cond.initialized "java/lang/Integer" ∈ GW := mw_of (i := 90) (by decide +kernel) rfl
theorem mw_23 : Cond.initialized "java/lang/StringLatin1" ∈ GW := mw_of (i := 91) (by decide +kernel) rfl
theorem mw_24 : Cond.initialized "jdk/internal/util/Preconditions" ∈ GW := mw_of (i := 92) (by decide +kernel) rfl
theorem mw_25 : Cond.initialized "java/lang/IllegalStateException" ∈ GW := mw_of (i := 93) (by decide +kernel) rfl
theorem mw_26 : Cond.initialized "jdk/internal/util/ArraysSupport" ∈ GW := mw_of (i := 94) (by decide +kernel) rfl
theorem mw_27 : Cond.initialized "java/util/Arrays" ∈ GW := mw_of (i := 95) (by decide +kernel) rfl
theorem mw_28 : Cond.initialized "java/lang/StringIndexOutOfBoundsException" ∈ GW := mw_of (i := 96) (by decide +kernel) rfl
theorem mw_29 : Cond.initialized "java/lang/ArithmeticException" ∈ GW := mw_of (i := 97) (by decide +kernel) rfl
theorem mw_30 : Cond.classLink "EveningLedgerLaw" 12 "EveningLedger" ∈ GW := mw_of (i := 98) (by decide +kernel) rfl
theorem mw_31 : Cond.instantiable "EveningLedger" 10 ∈ GW := mw_of (i := 99) (by decide +kernel) rfl
theorem mw_32 : Cond.methodLink "EveningLedgerLaw" 233 yX5_init ∈ GW := mw_of (i := 100) (by decide +kernel) rfl
theorem mw_33 : Cond.instanceMethod yX5_init ∈ GW := mw_of (i := 101) (by decide +kernel) rfl
theorem mw_34 : Cond.code yX5_init prog_1_method_1_code 1 none ∈ GW := mw_of (i := 102) (by decide +kernel) rfl
theorem mw_35 : Cond.methodLink "EveningLedger" 3 Lib.objectInit ∈ GW := mw_of (i := 103) (by decide +kernel) rfl
theorem mw_36 : Cond.instanceMethod Lib.objectInit ∈ GW := mw_of (i := 104) (by decide +kernel) rfl
theorem mw_37 : Cond.code Lib.objectInit object_method_1_code 1 none ∈ GW := mw_of (i := 105) (by decide +kernel) rfl
theorem mw_38 : Cond.classLink "EveningLedger" 9 "EveningLedger$Book" ∈ GW := mw_of (i := 106) (by decide +kernel) rfl
theorem mw_39 : Cond.instantiable "EveningLedger$Book" 10 ∈ GW := mw_of (i := 107) (by decide +kernel) rfl
theorem nw_40 : Cond.methodLinkNest "EveningLedger" 11 yX0_init "EveningLedger" ∈ NW := nw_of (i := 108) (by decide +kernel) rfl
theorem mw_41 : Cond.instanceMethod yX0_init ∈ GW := mw_of (i := 109) (by decide +kernel) rfl
theorem mw_42 : Cond.code yX0_init prog_2_method_1_code 2 none ∈ GW := mw_of (i := 110) (by decide +kernel) rfl
theorem mw_43 : Cond.methodLink "EveningLedger$Book" 3 Lib.objectInit ∈ GW := mw_of (i := 111) (by decide +kernel) rfl
theorem mw_44 : Cond.fieldLink "EveningLedger$Book" 9 "EveningLedger$Book" "numbers" "[I" ∈ GW := mw_of (i := 112) (by decide +kernel) rfl
theorem nw_45 : Cond.fieldLinkNest "EveningLedger" 192 "EveningLedger$Book" "numbers" "[I" "EveningLedger" ∈ NW := nw_of (i := 113) (by decide +kernel) rfl
theorem mw_46 : Cond.fieldLink "EveningLedger$Book" 15 "EveningLedger$Book" "sheets" "[I" ∈ GW := mw_of (i := 114) (by decide +kernel) rfl
theorem mw_47 : Cond.fieldLink "EveningLedger$Book" 18 "EveningLedger$Book" "people" "[C" ∈ GW := mw_of (i := 115) (by decide +kernel) rfl
theorem nw_48 : Cond.fieldLinkNest "EveningLedger$Totals" 18 "EveningLedger$Book" "people" "[C" "EveningLedger" ∈ NW := nw_of (i := 116) (by decide +kernel) rfl
theorem mw_49 : Cond.fieldLink "EveningLedger$Book" 22 "EveningLedger$Book" "debts" "[I" ∈ GW := mw_of (i := 117) (by decide +kernel) rfl
theorem nw_50 : Cond.fieldLinkNest "EveningLedger$Totals" 24 "EveningLedger$Book" "debts" "[I" "EveningLedger" ∈ NW := nw_of (i := 118) (by decide +kernel) rfl
theorem mw_51 : Cond.fieldLink "EveningLedger$Book" 25 "EveningLedger$Book" "kept" "I" ∈ GW := mw_of (i := 119) (by decide +kernel) rfl
theorem nw_52 : Cond.fieldLinkNest "EveningLedger" 89 "EveningLedger$Book" "kept" "I" "EveningLedger" ∈ NW := nw_of (i := 120) (by decide +kernel) rfl
theorem nw_53 : Cond.fieldLinkNest "EveningLedger$Refusal" 18 "EveningLedger$Book" "kept" "I" "EveningLedger" ∈ NW := nw_of (i := 121) (by decide +kernel) rfl
theorem mw_54 : Cond.fieldLink "EveningLedger$Book" 29 "EveningLedger$Book" "latest" "I" ∈ GW := mw_of (i := 122) (by decide +kernel) rfl
theorem nw_55 : Cond.fieldLinkNest "EveningLedger$Refusal" 48 "EveningLedger$Book" "latest" "I" "EveningLedger" ∈ NW := nw_of (i := 123) (by decide +kernel) rfl
theorem nw_56 : Cond.fieldLinkNest "EveningLedger" 173 "EveningLedger$Book" "latest" "I" "EveningLedger" ∈ NW := nw_of (i := 124) (by decide +kernel) rfl
theorem mw_57 : Cond.fieldLink "EveningLedger$Book" 32 "EveningLedger$Book" "sheetsMade" "I" ∈ GW := mw_of (i := 125) (by decide +kernel) rfl
theorem nw_58 : Cond.fieldLinkNest "EveningLedger" 269 "EveningLedger$Book" "sheetsMade" "I" "EveningLedger" ∈ NW := nw_of (i := 126) (by decide +kernel) rfl
theorem mw_59 : Cond.fieldLink "EveningLedger$Book" 35 "EveningLedger$Book" "written" "I" ∈ GW := mw_of (i := 127) (by decide +kernel) rfl
theorem nw_60 : Cond.fieldLinkNest "EveningLedger" 272 "EveningLedger$Book" "written" "I" "EveningLedger" ∈ NW := nw_of (i := 128) (by decide +kernel) rfl
theorem mw_61 : Cond.fieldLink "EveningLedger$Book" 38 "EveningLedger$Book" "struck" "I" ∈ GW := mw_of (i := 129) (by decide +kernel) rfl
theorem nw_62 : Cond.fieldLinkNest "EveningLedger" 275 "EveningLedger$Book" "struck" "I" "EveningLedger" ∈ NW := nw_of (i := 130) (by decide +kernel) rfl
theorem mw_63 : Cond.fieldLink "EveningLedger$Book" 41 "EveningLedger$Book" "takenOver" "I" ∈ GW := mw_of (i := 131) (by decide +kernel) rfl
theorem nw_64 : Cond.fieldLinkNest "EveningLedger" 278 "EveningLedger$Book" "takenOver" "I" "EveningLedger" ∈ NW := nw_of (i := 132) (by decide +kernel) rfl
theorem mw_85 : Cond.superclass "EveningLedger$Book" "java/lang/Object" ∈ GW := mw_of (i := 153) (by decide +kernel) rfl
theorem mw_86 : Cond.arrayClass FieldType.int ∈ GW := mw_of (i := 154) (by decide +kernel) rfl
theorem mw_87 : Cond.arrayClass FieldType.char ∈ GW := mw_of (i := 155) (by decide +kernel) rfl
theorem mw_88 : Cond.classLink "EveningLedger" 22 "EveningLedger$History" ∈ GW := mw_of (i := 156) (by decide +kernel) rfl
theorem mw_89 : Cond.instantiable "EveningLedger$History" 3 ∈ GW := mw_of (i := 157) (by decide +kernel) rfl
theorem nw_90 : Cond.methodLinkNest "EveningLedger" 24 yX1_init "EveningLedger" ∈ NW := nw_of (i := 158) (by decide +kernel) rfl
theorem mw_91 : Cond.instanceMethod yX1_init ∈ GW := mw_of (i := 159) (by decide +kernel) rfl
theorem mw_92 : Cond.code yX1_init prog_3_method_1_code 2 none ∈ GW := mw_of (i := 160) (by decide +kernel) rfl
theorem mw_93 : Cond.methodLink "EveningLedger$History" 3 Lib.objectInit ∈ GW := mw_of (i := 161) (by decide +kernel) rfl
theorem mw_94 : Cond.classLink "EveningLedger$History" 9 "EveningLedger$Book" ∈ GW := mw_of (i := 162) (by decide +kernel) rfl
theorem nw_96 : Cond.methodLinkNest "EveningLedger$History" 24 yX0_init "EveningLedger" ∈ NW := nw_of (i := 164) (by decide +kernel) rfl
theorem mw_97 : Cond.fieldLink "EveningLedger$History" 11 "EveningLedger$History" "books" "[LEveningLedger$Book;" ∈ GW := mw_of (i := 165) (by decide +kernel) rfl
theorem mw_98 : Cond.fieldLink "EveningLedger$History" 17 "EveningLedger$History" "next" "I" ∈ GW := mw_of (i := 166) (by decide +kernel) rfl
theorem mw_99 : Cond.fieldLink "EveningLedger$History" 21 "EveningLedger$History" "size" "I" ∈ GW := mw_of (i := 167) (by decide +kernel) rfl
theorem nw_100 : Cond.fieldLinkNest "EveningLedger" 284 "EveningLedger$History" "size" "I" "EveningLedger" ∈ NW := nw_of (i := 168) (by decide +kernel) rfl
theorem mw_107 : Cond.superclass "EveningLedger$History" "java/lang/Object" ∈ GW := mw_of (i := 175) (by decide +kernel) rfl
theorem mw_108 : Cond.classLink "EveningLedger" 29 "EveningLedger$Refusal" ∈ GW := mw_of (i := 176) (by decide +kernel) rfl
theorem mw_109 : Cond.instantiable "EveningLedger$Refusal" 2 ∈ GW := mw_of (i := 177) (by decide +kernel) rfl
theorem nw_110 : Cond.methodLinkNest "EveningLedger" 31 yX2_init "EveningLedger" ∈ NW := nw_of (i := 178) (by decide +kernel) rfl
theorem mw_111 : Cond.instanceMethod yX2_init ∈ GW := mw_of (i := 179) (by decide +kernel) rfl
theorem mw_112 : Cond.code yX2_init prog_4_method_1_code 1 none ∈ GW := mw_of (i := 180) (by decide +kernel) rfl
theorem mw_113 : Cond.methodLink "EveningLedger$Refusal" 3 Lib.objectInit ∈ GW := mw_of (i := 181) (by decide +kernel) rfl
theorem mw_114 : Cond.fieldLink "EveningLedger$Refusal" 9 "EveningLedger$Refusal" "number" "I" ∈ GW := mw_of (i := 182) (by decide +kernel) rfl
theorem mw_115 : Cond.fieldLink "EveningLedger$Refusal" 15 "EveningLedger$Refusal" "detail" "I" ∈ GW := mw_of (i := 183) (by decide +kernel) rfl
theorem mw_120 : Cond.superclass "EveningLedger$Refusal" "java/lang/Object" ∈ GW := mw_of (i := 188) (by decide +kernel) rfl
theorem mw_121 : Cond.classLink "EveningLedger" 36 "EveningLedger$Totals" ∈ GW := mw_of (i := 189) (by decide +kernel) rfl
theorem mw_122 : Cond.instantiable "EveningLedger$Totals" 2 ∈ GW := mw_of (i := 190) (by decide +kernel) rfl
theorem nw_123 : Cond.methodLinkNest "EveningLedger" 38 yX4_init "EveningLedger" ∈ NW := nw_of (i := 191) (by decide +kernel) rfl
theorem mw_124 : Cond.instanceMethod yX4_init ∈ GW := mw_of (i := 192) (by decide +kernel) rfl
theorem mw_125 : Cond.code yX4_init prog_6_method_1_code 1 none ∈ GW := mw_of (i := 193) (by decide +kernel) rfl
theorem mw_126 : Cond.methodLink "EveningLedger$Totals" 3 Lib.objectInit ∈ GW := mw_of (i := 194) (by decide +kernel) rfl
theorem mw_127 : Cond.fieldLink "EveningLedger$Totals" 9 "EveningLedger$Totals" "sums" "[I" ∈ GW := mw_of (i := 195) (by decide +kernel) rfl
theorem mw_128 : Cond.fieldLink "EveningLedger$Totals" 15 "EveningLedger$Totals" "entries" "[I" ∈ GW := mw_of (i := 196) (by decide +kernel) rfl
theorem mw_133 : Cond.superclass "EveningLedger$Totals" "java/lang/Object" ∈ GW := mw_of (i := 201) (by decide +kernel) rfl
theorem mw_134 : Cond.classLink "EveningLedger" 43 "EveningLedger$Text" ∈ GW := mw_of (i := 202) (by decide +kernel) rfl
theorem mw_135 : Cond.instantiable "EveningLedger$Text" 7 ∈ GW := mw_of (i := 203) (by decide +kernel) rfl
theorem nw_136 : Cond.methodLinkNest "EveningLedger" 45 yX3_init "EveningLedger" ∈ NW := nw_of (i := 204) (by decide +kernel) rfl
theorem mw_137 : Cond.instanceMethod yX3_init ∈ GW := mw_of (i := 205) (by decide +kernel) rfl
theorem mw_138 : Cond.code yX3_init prog_5_method_1_code 1 none ∈ GW := mw_of (i := 206) (by decide +kernel) rfl
theorem mw_139 : Cond.methodLink "EveningLedger$Text" 3 Lib.objectInit ∈ GW := mw_of (i := 207) (by decide +kernel) rfl
theorem mw_140 : Cond.classLink "EveningLedger$Text" 9 "java/lang/StringBuilder" ∈ GW := mw_of (i := 208) (by decide +kernel) rfl
theorem mw_141 : Cond.instantiable "java/lang/StringBuilder" 4 ∈ GW := mw_of (i := 209) (by decide +kernel) rfl
theorem mw_142 : Cond.methodLink "EveningLedger$Text" 11 yJ4_init_da8c8 ∈ GW := mw_of (i := 210) (by decide +kernel) rfl
theorem mw_143 : Cond.instanceMethod yJ4_init_da8c8 ∈ GW := mw_of (i := 211) (by decide +kernel) rfl
theorem mw_144 : Cond.code yJ4_init_da8c8 prog_26_method_1_code 1 none ∈ GW := mw_of (i := 212) (by decide +kernel) rfl
theorem mw_145 : Cond.methodLink "java/lang/StringBuilder" 1 yJ5_init_d00df ∈ GW := mw_of (i := 213) (by decide +kernel) rfl
theorem mw_146 : Cond.instanceMethod yJ5_init_d00df ∈ GW := mw_of (i := 214) (by decide +kernel) rfl
theorem mw_147 : Cond.code yJ5_init_d00df prog_10_method_2_code 2 none ∈ GW := mw_of (i := 215) (by decide +kernel) rfl
theorem mw_148 : Cond.methodLink "java/lang/AbstractStringBuilder" 3 Lib.objectInit ∈ GW := mw_of (i := 216) (by decide +kernel) rfl
theorem mw_149 : Cond.fieldLink "java/lang/AbstractStringBuilder" 18 "java/lang/String" "COMPACT_STRINGS" "Z" ∈ GW := mw_of (i := 217) (by decide +kernel) rfl
theorem mw_151 : Cond.methodLink "java/lang/AbstractStringBuilder" 26 yJ2_newBytesFor_77867 ∈ GW := mw_of (i := 219) (by decide +kernel) rfl
theorem mw_152 : Cond.static yJ2_newBytesFor_77867 ∈ GW := mw_of (i := 220) (by decide +kernel) rfl
theorem mw_153 : Cond.code yJ2_newBytesFor_77867 prog_29_method_2_code 1 (some (FieldType.array FieldType.byte)) ∈ GW := mw_of (i := 221) (by decide +kernel) rfl
theorem mw_154 : Cond.methodLink "java/lang/StringUTF16" 11 yJ2_newBytesLength_0f7a4 ∈ GW := mw_of (i := 222) (by decide +kernel) rfl
theorem mw_155 : Cond.static yJ2_newBytesLength_0f7a4 ∈ GW := mw_of (i := 223) (by decide +kernel) rfl
theorem mw_156 : Cond.code yJ2_newBytesLength_0f7a4 prog_29_method_3_code 1 (some .int) ∈ GW := mw_of (i := 224) (by decide +kernel) rfl
theorem mw_157 : Cond.constant "java/lang/StringUTF16" 20 (1073741823 : Int32) ∈ GW := mw_of (i := 225) (by decide +kernel) rfl
theorem mw_158 : Cond.fieldLink "java/lang/AbstractStringBuilder" 15 "java/lang/AbstractStringBuilder" "value" "[B" ∈ GW := mw_of (i := 226) (by decide +kernel) rfl
theorem mw_159 : Cond.fieldLink "java/lang/AbstractStringBuilder" 22 "java/lang/AbstractStringBuilder" "coder" "B" ∈ GW := mw_of (i := 227) (by decide +kernel) rfl
theorem mw_160 : Cond.fieldLink "java/lang/AbstractStringBuilder" 73 "java/lang/AbstractStringBuilder" "maybeLatin1" "Z" ∈ GW := mw_of (i := 228) (by decide +kernel) rfl
theorem mw_161 : Cond.fieldLink "java/lang/String" 1048 "java/lang/AbstractStringBuilder" "maybeLatin1" "Z" ∈ GW := mw_of (i := 229) (by decide +kernel) rfl
theorem mw_162 : Cond.fieldLink "java/lang/AbstractStringBuilder" 79 "java/lang/AbstractStringBuilder" "count" "I" ∈ GW := mw_of (i := 230) (by decide +kernel) rfl
theorem mw_171 : Cond.superclass "java/lang/StringBuilder" "java/lang/AbstractStringBuilder" ∈ GW := mw_of (i := 239) (by decide +kernel) rfl
theorem mw_172 : Cond.arrayClass FieldType.byte ∈ GW := mw_of (i := 240) (by decide +kernel) rfl
theorem mw_173 : Cond.fieldLink "EveningLedger$Text" 12 "EveningLedger$Text" "signs" "Ljava/lang/StringBuilder;" ∈ GW := mw_of (i := 241) (by decide +kernel) rfl
theorem nw_174 : Cond.fieldLinkNest "EveningLedger" 281 "EveningLedger$Text" "signs" "Ljava/lang/StringBuilder;" "EveningLedger" ∈ NW := nw_of (i := 242) (by decide +kernel) rfl
theorem mw_175 : Cond.fieldLink "EveningLedger$Text" 18 "EveningLedger$Text" "at" "I" ∈ GW := mw_of (i := 243) (by decide +kernel) rfl
theorem nw_176 : Cond.fieldLinkNest "EveningLedger" 293 "EveningLedger$Text" "at" "I" "EveningLedger" ∈ NW := nw_of (i := 244) (by decide +kernel) rfl
theorem mw_177 : Cond.fieldLink "EveningLedger$Text" 22 "EveningLedger$Text" "kind" "I" ∈ GW := mw_of (i := 245) (by decide +kernel) rfl
theorem nw_178 : Cond.fieldLinkNest "EveningLedger" 352 "EveningLedger$Text" "kind" "I" "EveningLedger" ∈ NW := nw_of (i := 246) (by decide +kernel) rfl
theorem mw_179 : Cond.fieldLink "EveningLedger$Text" 25 "EveningLedger$Text" "page" "I" ∈ GW := mw_of (i := 247) (by decide +kernel) rfl
theorem nw_180 : Cond.fieldLinkNest "EveningLedger" 355 "EveningLedger$Text" "page" "I" "EveningLedger" ∈ NW := nw_of (i := 248) (by decide +kernel) rfl
theorem mw_181 : Cond.fieldLink "EveningLedger$Text" 28 "EveningLedger$Text" "place" "I" ∈ GW := mw_of (i := 249) (by decide +kernel) rfl
theorem nw_182 : Cond.fieldLinkNest "EveningLedger" 358 "EveningLedger$Text" "place" "I" "EveningLedger" ∈ NW := nw_of (i := 250) (by decide +kernel) rfl
theorem mw_183 : Cond.fieldLink "EveningLedger$Text" 31 "EveningLedger$Text" "letter" "C" ∈ GW := mw_of (i := 251) (by decide +kernel) rfl
theorem nw_184 : Cond.fieldLinkNest "EveningLedger" 361 "EveningLedger$Text" "letter" "C" "EveningLedger" ∈ NW := nw_of (i := 252) (by decide +kernel) rfl
theorem mw_185 : Cond.fieldLink "EveningLedger$Text" 35 "EveningLedger$Text" "number" "I" ∈ GW := mw_of (i := 253) (by decide +kernel) rfl
theorem nw_186 : Cond.fieldLinkNest "EveningLedger" 365 "EveningLedger$Text" "number" "I" "EveningLedger" ∈ NW := nw_of (i := 254) (by decide +kernel) rfl
theorem mw_201 : Cond.superclass "EveningLedger$Text" "java/lang/Object" ∈ GW := mw_of (i := 269) (by decide +kernel) rfl
theorem mw_202 : Cond.classLink "EveningLedger" 50 "java/lang/StringBuilder" ∈ GW := mw_of (i := 270) (by decide +kernel) rfl
theorem mw_203 : Cond.methodLink "EveningLedger" 52 yJ4_init_da8c8 ∈ GW := mw_of (i := 271) (by decide +kernel) rfl
theorem mw_204 : Cond.fieldLink "EveningLedger" 12 "EveningLedger" "book" "LEveningLedger$Book;" ∈ GW := mw_of (i := 272) (by decide +kernel) rfl
theorem mw_205 : Cond.fieldLink "EveningLedger" 16 "EveningLedger" "draft" "LEveningLedger$Book;" ∈ GW := mw_of (i := 273) (by decide +kernel) rfl
theorem mw_206 : Cond.fieldLink "EveningLedger" 19 "EveningLedger" "saved" "LEveningLedger$Book;" ∈ GW := mw_of (i := 274) (by decide +kernel) rfl
theorem mw_207 : Cond.fieldLink "EveningLedger" 25 "EveningLedger" "history" "LEveningLedger$History;" ∈ GW := mw_of (i := 275) (by decide +kernel) rfl
theorem mw_208 : Cond.fieldLink "EveningLedger" 32 "EveningLedger" "refusal" "LEveningLedger$Refusal;" ∈ GW := mw_of (i := 276) (by decide +kernel) rfl
theorem mw_209 : Cond.fieldLink "EveningLedger" 39 "EveningLedger" "totals" "LEveningLedger$Totals;" ∈ GW := mw_of (i := 277) (by decide +kernel) rfl
theorem mw_210 : Cond.fieldLink "EveningLedger" 46 "EveningLedger" "text" "LEveningLedger$Text;" ∈ GW := mw_of (i := 278) (by decide +kernel) rfl
theorem mw_211 : Cond.fieldLink "EveningLedger" 53 "EveningLedger" "line" "Ljava/lang/StringBuilder;" ∈ GW := mw_of (i := 279) (by decide +kernel) rfl
theorem mw_212 : Cond.fieldLink "EveningLedger" 57 "EveningLedger" "isSaved" "Z" ∈ GW := mw_of (i := 280) (by decide +kernel) rfl
theorem mw_213 : Cond.fieldLink "EveningLedger" 61 "EveningLedger" "keptErrorPosition" "I" ∈ GW := mw_of (i := 281) (by decide +kernel) rfl
theorem mw_234 : Cond.superclass "EveningLedger" "java/lang/Object" ∈ GW := mw_of (i := 302) (by decide +kernel) rfl
theorem mw_235 : Cond.methodLink "EveningLedgerLaw" 140 yX5_save ∈ GW := mw_of (i := 303) (by decide +kernel) rfl
theorem mw_236 : Cond.instanceMethod yX5_save ∈ GW := mw_of (i := 304) (by decide +kernel) rfl
theorem mw_237 : Cond.selects "EveningLedger" yX5_save yX5_save ∈ GW := mw_of (i := 305) (by decide +kernel) rfl
theorem mw_238 : Cond.code yX5_save prog_1_method_35_code 1 (some .int) ∈ GW := mw_of (i := 306) (by decide +kernel) rfl
theorem nw_239 : Cond.methodLinkNest "EveningLedger" 299 yX0_copyFrom "EveningLedger" ∈ NW := nw_of (i := 307) (by decide +kernel) rfl
theorem mw_241 : Cond.instanceMethod yX0_copyFrom ∈ GW := mw_of (i := 309) (by decide +kernel) rfl
theorem mw_242 : Cond.code yX0_copyFrom prog_2_method_2_code 2 none ∈ GW := mw_of (i := 310) (by decide +kernel) rfl
theorem mw_243 : Cond.methodLink "EveningLedger$Book" 44 ({ cls := "java/lang/System", name := "arraycopy", desc := "(Ljava/lang/Object;ILjava/lang/Object;II)V" } : MethodName) ∈ GW := mw_of (i := 311) (by decide +kernel) rfl
theorem mw_244 : Cond.static ({ cls := "java/lang/System", name := "arraycopy", desc := "(Ljava/lang/Object;ILjava/lang/Object;II)V" } : MethodName) ∈ GW := mw_of (i := 312) (by decide +kernel) rfl
theorem mw_245 : Cond.native ({ cls := "java/lang/System", name := "arraycopy", desc := "(Ljava/lang/Object;ILjava/lang/Object;II)V" } : MethodName) ∈ GW := mw_of (i := 313) (by decide +kernel) rfl
theorem mw_246 : Cond.methodLink "EveningLedgerLaw" 238 yL_cell ∈ GW := mw_of (i := 314) (by decide +kernel) rfl
theorem mw_247 : Cond.static yL_cell ∈ GW := mw_of (i := 315) (by decide +kernel) rfl
theorem mw_248 : Cond.code yL_cell method_2_code 2 (some .int) ∈ GW := mw_of (i := 316) (by decide +kernel) rfl
theorem mw_249 : Cond.constant "EveningLedgerLaw" 7 (65535 : Int32) ∈ GW := mw_of (i := 317) (by decide +kernel) rfl
theorem mw_250 : Cond.methodLink "EveningLedgerLaw" 111 yL_add ∈ GW := mw_of (i := 318) (by decide +kernel) rfl
theorem mw_251 : Cond.static yL_add ∈ GW := mw_of (i := 319) (by decide +kernel) rfl
theorem mw_252 : Cond.codeWith yL_add method_4_code 6 (some .int) [(4, 13, 16, 17), (4, 13, 21, 19), (4, 13, 26, 21)] ∈ GW := mw_of (i := 320) (by decide +kernel) rfl
theorem mw_253 : Cond.classLink "EveningLedgerLaw" 17 "java/lang/IndexOutOfBoundsException" ∈ GW := mw_of (i := 321) (by decide +kernel) rfl
theorem mw_254 : Cond.instantiable "java/lang/ArrayIndexOutOfBoundsException" 6 ∈ GW := mw_of (i := 322) (by decide +kernel) rfl
theorem mw_255 : Cond.instanceMethod yJx00060_init_a7421 ∈ GW := mw_of (i := 323) (by decide +kernel) rfl
theorem mw_256 : Cond.code yJx00060_init_a7421 prog_13_method_2_code 2 none ∈ GW := mw_of (i := 324) (by decide +kernel) rfl
theorem mw_257 : Cond.methodLink "java/lang/ArrayIndexOutOfBoundsException" 7 ({ cls := "java/lang/IndexOutOfBoundsException", name := "<init>", desc := "(Ljava/lang/String;)V" } : MethodName) ∈ GW := mw_of (i := 325) (by decide +kernel) rfl
theorem mw_258 : Cond.instanceMethod ({ cls := "java/lang/IndexOutOfBoundsException", name := "<init>", desc := "(Ljava/lang/String;)V" } : MethodName) ∈ GW := mw_of (i := 326) (by decide +kernel) rfl
theorem mw_259 : Cond.code ({ cls := "java/lang/IndexOutOfBoundsException", name := "<init>", desc := "(Ljava/lang/String;)V" } : MethodName) prog_20_method_2_code 2 none ∈ GW := mw_of (i := 327) (by decide +kernel) rfl
theorem mw_260 : Cond.methodLink "java/lang/IndexOutOfBoundsException" 7 ({ cls := "java/lang/RuntimeException", name := "<init>", desc := "(Ljava/lang/String;)V" } : MethodName) ∈ GW := mw_of (i := 328) (by decide +kernel) rfl
theorem mw_261 : Cond.instanceMethod ({ cls := "java/lang/RuntimeException", name := "<init>", desc := "(Ljava/lang/String;)V" } : MethodName) ∈ GW := mw_of (i := 329) (by decide +kernel) rfl
theorem mw_262 : Cond.code ({ cls := "java/lang/RuntimeException", name := "<init>", desc := "(Ljava/lang/String;)V" } : MethodName) prog_24_method_2_code 2 none ∈ GW := mw_of (i := 330) (by decide +kernel) rfl
theorem mw_263 : Cond.methodLink "java/lang/RuntimeException" 7 ({ cls := "java/lang/Exception", name := "<init>", desc := "(Ljava/lang/String;)V" } : MethodName) ∈ GW := mw_of (i := 331) (by decide +kernel) rfl
theorem mw_264 : Cond.instanceMethod ({ cls := "java/lang/Exception", name := "<init>", desc := "(Ljava/lang/String;)V" } : MethodName) ∈ GW := mw_of (i := 332) (by decide +kernel) rfl
theorem mw_265 : Cond.code ({ cls := "java/lang/Exception", name := "<init>", desc := "(Ljava/lang/String;)V" } : MethodName) prog_17_method_2_code 2 none ∈ GW := mw_of (i := 333) (by decide +kernel) rfl
theorem mw_266 : Cond.methodLink "java/lang/Exception" 7 ({ cls := "java/lang/Throwable", name := "<init>", desc := "(Ljava/lang/String;)V" } : MethodName) ∈ GW := mw_of (i := 334) (by decide +kernel) rfl
theorem mw_267 : Cond.instanceMethod ({ cls := "java/lang/Throwable", name := "<init>", desc := "(Ljava/lang/String;)V" } : MethodName) ∈ GW := mw_of (i := 335) (by decide +kernel) rfl
theorem mw_268 : Cond.code ({ cls := "java/lang/Throwable", name := "<init>", desc := "(Ljava/lang/String;)V" } : MethodName) prog_31_method_2_code 2 none ∈ GW := mw_of (i := 336) (by decide +kernel) rfl
theorem mw_269 : Cond.methodLink "java/lang/Throwable" 1 Lib.objectInit ∈ GW := mw_of (i := 337) (by decide +kernel) rfl
theorem mw_270 : Cond.fieldLink "java/lang/Throwable" 13 "java/lang/Throwable" "UNASSIGNED_STACK" "[Ljava/lang/StackTraceElement;" ∈ GW := mw_of (i := 338) (by decide +kernel) rfl
theorem mw_272 : Cond.fieldLink "java/lang/Throwable" 20 "java/lang/Throwable" "SUPPRESSED_SENTINEL" "Ljava/util/List;" ∈ GW := mw_of (i := 340) (by decide +kernel) rfl
theorem mw_274 : Cond.methodLink "java/lang/Throwable" 27 ({ cls := "java/lang/Throwable", name := "fillInStackTrace", desc := "()Ljava/lang/Throwable;" } : MethodName) ∈ GW := mw_of (i := 342) (by decide +kernel) rfl
theorem mw_275 : Cond.instanceMethod ({ cls := "java/lang/Throwable", name := "fillInStackTrace", desc := "()Ljava/lang/Throwable;" } : MethodName) ∈ GW := mw_of (i := 343) (by decide +kernel) rfl
theorem mw_276 : Cond.sameMethod "java/lang/Throwable" "java/lang/Throwable" "fillInStackTrace" "()Ljava/lang/Throwable;" ∈ GW := mw_of (i := 344) (by decide +kernel) rfl
theorem mw_277 : Cond.selects "java/lang/ArithmeticException" ({ cls := "java/lang/Throwable", name := "fillInStackTrace", desc := "()Ljava/lang/Throwable;" } : MethodName) ({ cls := "java/lang/Throwable", name := "fillInStackTrace", desc := "()Ljava/lang/Throwable;" } : MethodName) ∈ GW := mw_of (i := 345) (by decide +kernel) rfl
theorem mw_278 : Cond.selects "java/lang/ArrayIndexOutOfBoundsException" ({ cls := "java/lang/Throwable", name := "fillInStackTrace", desc := "()Ljava/lang/Throwable;" } : MethodName) ({ cls := "java/lang/Throwable", name := "fillInStackTrace", desc := "()Ljava/lang/Throwable;" } : MethodName) ∈ GW := mw_of (i := 346) (by decide +kernel) rfl
theorem mw_279 : Cond.selects "java/lang/IllegalArgumentException" ({ cls := "java/lang/Throwable", name := "fillInStackTrace", desc := "()Ljava/lang/Throwable;" } : MethodName) ({ cls := "java/lang/Throwable", name := "fillInStackTrace", desc := "()Ljava/lang/Throwable;" } : MethodName) ∈ GW := mw_of (i := 347) (by decide +kernel) rfl
theorem mw_280 : Cond.selects "java/lang/IllegalStateException" ({ cls := "java/lang/Throwable", name := "fillInStackTrace", desc := "()Ljava/lang/Throwable;" } : MethodName) ({ cls := "java/lang/Throwable", name := "fillInStackTrace", desc := "()Ljava/lang/Throwable;" } : MethodName) ∈ GW := mw_of (i := 348) (by decide +kernel) rfl
theorem mw_281 : Cond.selects "java/lang/IndexOutOfBoundsException" ({ cls := "java/lang/Throwable", name := "fillInStackTrace", desc := "()Ljava/lang/Throwable;" } : MethodName) ({ cls := "java/lang/Throwable", name := "fillInStackTrace", desc := "()Ljava/lang/Throwable;" } : MethodName) ∈ GW := mw_of (i := 349) (by decide +kernel) rfl
theorem mw_282 : Cond.selects "java/lang/StringIndexOutOfBoundsException" ({ cls := "java/lang/Throwable", name := "fillInStackTrace", desc := "()Ljava/lang/Throwable;" } : MethodName) ({ cls := "java/lang/Throwable", name := "fillInStackTrace", desc := "()Ljava/lang/Throwable;" } : MethodName) ∈ GW := mw_of (i := 350) (by decide +kernel) rfl
theorem mw_283 : Cond.selects "java/lang/UnsupportedOperationException" ({ cls := "java/lang/Throwable", name := "fillInStackTrace", desc := "()Ljava/lang/Throwable;" } : MethodName) ({ cls := "java/lang/Throwable", name := "fillInStackTrace", desc := "()Ljava/lang/Throwable;" } : MethodName) ∈ GW := mw_of (i := 351) (by decide +kernel) rfl
theorem mw_284 : Cond.selects "java/util/NoSuchElementException" ({ cls := "java/lang/Throwable", name := "fillInStackTrace", desc := "()Ljava/lang/Throwable;" } : MethodName) ({ cls := "java/lang/Throwable", name := "fillInStackTrace", desc := "()Ljava/lang/Throwable;" } : MethodName) ∈ GW := mw_of (i := 352) (by decide +kernel) rfl
theorem mw_286 : Cond.methodLink "java/lang/Throwable" 202 ({ cls := "java/lang/Throwable", name := "fillInStackTrace", desc := "(I)Ljava/lang/Throwable;" } : MethodName) ∈ GW := mw_of (i := 354) (by decide +kernel) rfl
theorem mw_288 : Cond.instanceMethod ({ cls := "java/lang/Throwable", name := "fillInStackTrace", desc := "(I)Ljava/lang/Throwable;" } : MethodName) ∈ GW := mw_of (i := 356) (by decide +kernel) rfl
theorem mw_289 : Cond.instantiable "java/lang/Throwable" 6 ∈ GW := mw_of (i := 357) (by decide +kernel) rfl
theorem mw_290 : Cond.native ({ cls := "java/lang/Throwable", name := "fillInStackTrace", desc := "(I)Ljava/lang/Throwable;" } : MethodName) ∈ GW := mw_of (i := 358) (by decide +kernel) rfl
theorem mw_291 : Cond.fieldLink "java/lang/Throwable" 198 "java/lang/Throwable" "backtrace" "Ljava/lang/Object;" ∈ GW := mw_of (i := 359) (by decide +kernel) rfl
theorem mw_292 : Cond.fieldLink "java/lang/Throwable" 31 "java/lang/Throwable" "detailMessage" "Ljava/lang/String;" ∈ GW := mw_of (i := 360) (by decide +kernel) rfl
theorem mw_293 : Cond.fieldLink "java/lang/Throwable" 7 "java/lang/Throwable" "cause" "Ljava/lang/Throwable;" ∈ GW := mw_of (i := 361) (by decide +kernel) rfl
theorem mw_294 : Cond.fieldLink "java/lang/Throwable" 17 "java/lang/Throwable" "stackTrace" "[Ljava/lang/StackTraceElement;" ∈ GW := mw_of (i := 362) (by decide +kernel) rfl
theorem mw_295 : Cond.fieldLink "java/lang/Throwable" 24 "java/lang/Throwable" "suppressedExceptions" "Ljava/util/List;" ∈ GW := mw_of (i := 363) (by decide +kernel) rfl
theorem mw_308 : Cond.superclass "java/lang/ArrayIndexOutOfBoundsException" "java/lang/IndexOutOfBoundsException" ∈ GW := mw_of (i := 376) (by decide +kernel) rfl
theorem nw_309 : Cond.castable "java/lang/ArrayIndexOutOfBoundsException" "java/lang/ArrayIndexOutOfBoundsException" ∈ NW := nw_of (i := 377) (by decide +kernel) rfl
theorem nw_310 : Cond.declares ({ cls := "java/lang/IndexOutOfBoundsException", name := "<init>", desc := "()V" } : MethodName) ∈ NW := nw_of (i := 378) (by decide +kernel) rfl
theorem nw_311 : Cond.declares ({ cls := "java/lang/IndexOutOfBoundsException", name := "<init>", desc := "(Ljava/lang/String;)V" } : MethodName) ∈ NW := nw_of (i := 379) (by decide +kernel) rfl
theorem nw_312 : Cond.declares ({ cls := "java/lang/RuntimeException", name := "<init>", desc := "()V" } : MethodName) ∈ NW := nw_of (i := 380) (by decide +kernel) rfl
theorem nw_313 : Cond.declares ({ cls := "java/lang/RuntimeException", name := "<init>", desc := "(Ljava/lang/String;)V" } : MethodName) ∈ NW := nw_of (i := 381) (by decide +kernel) rfl
theorem nw_314 : Cond.declares ({ cls := "java/lang/Exception", name := "<init>", desc := "()V" } : MethodName) ∈ NW := nw_of (i := 382) (by decide +kernel) rfl
theorem nw_315 : Cond.declares ({ cls := "java/lang/Exception", name := "<init>", desc := "(Ljava/lang/String;)V" } : MethodName) ∈ NW := nw_of (i := 383) (by decide +kernel) rfl
theorem nw_316 : Cond.declares ({ cls := "java/lang/Throwable", name := "<init>", desc := "()V" } : MethodName) ∈ NW := nw_of (i := 384) (by decide +kernel) rfl
theorem nw_317 : Cond.declares ({ cls := "java/lang/Throwable", name := "<init>", desc := "(Ljava/lang/String;)V" } : MethodName) ∈ NW := nw_of (i := 385) (by decide +kernel) rfl
theorem mw_318 : Cond.selects "java/lang/ArrayIndexOutOfBoundsException" ({ cls := "java/lang/Throwable", name := "fillInStackTrace", desc := "(I)Ljava/lang/Throwable;" } : MethodName) ({ cls := "java/lang/Throwable", name := "fillInStackTrace", desc := "(I)Ljava/lang/Throwable;" } : MethodName) ∈ GW := mw_of (i := 386) (by decide +kernel) rfl
theorem mw_324 : Cond.fieldLink "java/lang/Throwable" 198 "java/lang/Throwable" "backtrace" "Ljava/lang/Object;" ∈ GW := mw_of (i := 392) (by decide +kernel) rfl
theorem mw_325 : Cond.superclass "java/lang/Throwable" "java/lang/Object" ∈ GW := mw_of (i := 393) (by decide +kernel) rfl
theorem mw_326 : Cond.instanceMethod ({ cls := "java/lang/Throwable", name := "<init>", desc := "()V" } : MethodName) ∈ GW := mw_of (i := 394) (by decide +kernel) rfl
theorem mw_327 : Cond.code ({ cls := "java/lang/Throwable", name := "<init>", desc := "()V" } : MethodName) prog_31_method_1_code 1 none ∈ GW := mw_of (i := 395) (by decide +kernel) rfl
theorem mw_328 : Cond.instantiable "java/lang/String" 4 ∈ GW := mw_of (i := 396) (by decide +kernel) rfl
theorem mw_333 : Cond.classLink "EveningLedgerLaw" 19 "java/lang/IllegalArgumentException" ∈ GW := mw_of (i := 401) (by decide +kernel) rfl
theorem mw_334 : Cond.classLink "EveningLedgerLaw" 21 "java/lang/UnsupportedOperationException" ∈ GW := mw_of (i := 402) (by decide +kernel) rfl
theorem mw_335 : Cond.constant "EveningLedgerLaw" 10 (-100000000 : Int32) ∈ GW := mw_of (i := 403) (by decide +kernel) rfl
theorem mw_336 : Cond.methodLink "EveningLedgerLaw" 23 yX5_add ∈ GW := mw_of (i := 404) (by decide +kernel) rfl
theorem mw_337 : Cond.instanceMethod yX5_add ∈ GW := mw_of (i := 405) (by decide +kernel) rfl
theorem mw_338 : Cond.selects "EveningLedger" yX5_add yX5_add ∈ GW := mw_of (i := 406) (by decide +kernel) rfl
theorem mw_339 : Cond.code yX5_add prog_1_method_3_code 5 (some .int) ∈ GW := mw_of (i := 407) (by decide +kernel) rfl
theorem mw_340 : Cond.methodLink "EveningLedger" 96 yX5_isPage ∈ GW := mw_of (i := 408) (by decide +kernel) rfl
theorem mw_341 : Cond.static yX5_isPage ∈ GW := mw_of (i := 409) (by decide +kernel) rfl
theorem mw_342 : Cond.code yX5_isPage prog_1_method_37_code 1 (some .boolean) ∈ GW := mw_of (i := 410) (by decide +kernel) rfl
theorem mw_343 : Cond.methodLink "EveningLedger" 100 yX5_needIndex ∈ GW := mw_of (i := 411) (by decide +kernel) rfl
theorem mw_344 : Cond.static yX5_needIndex ∈ GW := mw_of (i := 412) (by decide +kernel) rfl
theorem mw_345 : Cond.code yX5_needIndex prog_1_method_43_code 1 none ∈ GW := mw_of (i := 413) (by decide +kernel) rfl
theorem mw_346 : Cond.classLink "EveningLedger" 314 "java/lang/IndexOutOfBoundsException" ∈ GW := mw_of (i := 414) (by decide +kernel) rfl
theorem mw_347 : Cond.instantiable "java/lang/IndexOutOfBoundsException" 6 ∈ GW := mw_of (i := 415) (by decide +kernel) rfl
theorem nw_348 : Cond.castable "java/lang/IndexOutOfBoundsException" "java/lang/IndexOutOfBoundsException" ∈ NW := nw_of (i := 416) (by decide +kernel) rfl
theorem mw_349 : Cond.selects "java/lang/IndexOutOfBoundsException" ({ cls := "java/lang/Throwable", name := "fillInStackTrace", desc := "(I)Ljava/lang/Throwable;" } : MethodName) ({ cls := "java/lang/Throwable", name := "fillInStackTrace", desc := "(I)Ljava/lang/Throwable;" } : MethodName) ∈ GW := mw_of (i := 417) (by decide +kernel) rfl
theorem mw_355 : Cond.methodLink "EveningLedger" 316 ({ cls := "java/lang/IndexOutOfBoundsException", name := "<init>", desc := "()V" } : MethodName) ∈ GW := mw_of (i := 423) (by decide +kernel) rfl
theorem mw_356 : Cond.instanceMethod ({ cls := "java/lang/IndexOutOfBoundsException", name := "<init>", desc := "()V" } : MethodName) ∈ GW := mw_of (i := 424) (by decide +kernel) rfl
theorem mw_357 : Cond.code ({ cls := "java/lang/IndexOutOfBoundsException", name := "<init>", desc := "()V" } : MethodName) prog_20_method_1_code 1 none ∈ GW := mw_of (i := 425) (by decide +kernel) rfl
theorem mw_358 : Cond.methodLink "java/lang/IndexOutOfBoundsException" 1 ({ cls := "java/lang/RuntimeException", name := "<init>", desc := "()V" } : MethodName) ∈ GW := mw_of (i := 426) (by decide +kernel) rfl
theorem mw_359 : Cond.instanceMethod ({ cls := "java/lang/RuntimeException", name := "<init>", desc := "()V" } : MethodName) ∈ GW := mw_of (i := 427) (by decide +kernel) rfl
theorem mw_360 : Cond.code ({ cls := "java/lang/RuntimeException", name := "<init>", desc := "()V" } : MethodName) prog_24_method_1_code 1 none ∈ GW := mw_of (i := 428) (by decide +kernel) rfl
theorem mw_361 : Cond.methodLink "java/lang/RuntimeException" 1 ({ cls := "java/lang/Exception", name := "<init>", desc := "()V" } : MethodName) ∈ GW := mw_of (i := 429) (by decide +kernel) rfl
theorem mw_362 : Cond.instanceMethod ({ cls := "java/lang/Exception", name := "<init>", desc := "()V" } : MethodName) ∈ GW := mw_of (i := 430) (by decide +kernel) rfl
theorem mw_363 : Cond.code ({ cls := "java/lang/Exception", name := "<init>", desc := "()V" } : MethodName) prog_17_method_1_code 1 none ∈ GW := mw_of (i := 431) (by decide +kernel) rfl
theorem mw_364 : Cond.methodLink "java/lang/Exception" 1 ({ cls := "java/lang/Throwable", name := "<init>", desc := "()V" } : MethodName) ∈ GW := mw_of (i := 432) (by decide +kernel) rfl
theorem mw_366 : Cond.superclass "java/lang/IndexOutOfBoundsException" "java/lang/RuntimeException" ∈ GW := mw_of (i := 434) (by decide +kernel) rfl
theorem mw_367 : Cond.methodLink "EveningLedger" 69 yX5_needEntry ∈ GW := mw_of (i := 435) (by decide +kernel) rfl
theorem mw_368 : Cond.static yX5_needEntry ∈ GW := mw_of (i := 436) (by decide +kernel) rfl
theorem mw_369 : Cond.code yX5_needEntry prog_1_method_48_code 2 none ∈ GW := mw_of (i := 437) (by decide +kernel) rfl
theorem mw_370 : Cond.methodLink "EveningLedger" 323 yX5_isEntry ∈ GW := mw_of (i := 438) (by decide +kernel) rfl
theorem mw_371 : Cond.static yX5_isEntry ∈ GW := mw_of (i := 439) (by decide +kernel) rfl
theorem mw_372 : Cond.code yX5_isEntry prog_1_method_41_code 2 (some .boolean) ∈ GW := mw_of (i := 440) (by decide +kernel) rfl
theorem mw_373 : Cond.methodLink "EveningLedger" 202 yX5_isPerson ∈ GW := mw_of (i := 441) (by decide +kernel) rfl
theorem mw_374 : Cond.static yX5_isPerson ∈ GW := mw_of (i := 442) (by decide +kernel) rfl
theorem mw_375 : Cond.code yX5_isPerson prog_1_method_39_code 1 (some .boolean) ∈ GW := mw_of (i := 443) (by decide +kernel) rfl
theorem mw_376 : Cond.methodLink "EveningLedger" 111 yX5_isInDebtRange ∈ GW := mw_of (i := 444) (by decide +kernel) rfl
theorem mw_377 : Cond.static yX5_isInDebtRange ∈ GW := mw_of (i := 445) (by decide +kernel) rfl
theorem mw_378 : Cond.code yX5_isInDebtRange prog_1_method_40_code 1 (some .boolean) ∈ GW := mw_of (i := 446) (by decide +kernel) rfl
theorem mw_379 : Cond.methodLink "EveningLedger" 114 yX5_needArgument ∈ GW := mw_of (i := 447) (by decide +kernel) rfl
theorem mw_380 : Cond.static yX5_needArgument ∈ GW := mw_of (i := 448) (by decide +kernel) rfl
theorem mw_381 : Cond.code yX5_needArgument prog_1_method_44_code 1 none ∈ GW := mw_of (i := 449) (by decide +kernel) rfl
theorem mw_382 : Cond.classLink "EveningLedger" 163 "java/lang/IllegalArgumentException" ∈ GW := mw_of (i := 450) (by decide +kernel) rfl
theorem mw_383 : Cond.instantiable "java/lang/IllegalArgumentException" 6 ∈ GW := mw_of (i := 451) (by decide +kernel) rfl
theorem nw_384 : Cond.castable "java/lang/IllegalArgumentException" "java/lang/IllegalArgumentException" ∈ NW := nw_of (i := 452) (by decide +kernel) rfl
theorem mw_385 : Cond.selects "java/lang/IllegalArgumentException" ({ cls := "java/lang/Throwable", name := "fillInStackTrace", desc := "(I)Ljava/lang/Throwable;" } : MethodName) ({ cls := "java/lang/Throwable", name := "fillInStackTrace", desc := "(I)Ljava/lang/Throwable;" } : MethodName) ∈ GW := mw_of (i := 453) (by decide +kernel) rfl
theorem mw_391 : Cond.methodLink "EveningLedger" 165 ({ cls := "java/lang/IllegalArgumentException", name := "<init>", desc := "()V" } : MethodName) ∈ GW := mw_of (i := 459) (by decide +kernel) rfl
theorem mw_392 : Cond.instanceMethod ({ cls := "java/lang/IllegalArgumentException", name := "<init>", desc := "()V" } : MethodName) ∈ GW := mw_of (i := 460) (by decide +kernel) rfl
theorem mw_393 : Cond.code ({ cls := "java/lang/IllegalArgumentException", name := "<init>", desc := "()V" } : MethodName) prog_18_method_1_code 1 none ∈ GW := mw_of (i := 461) (by decide +kernel) rfl
theorem mw_394 : Cond.methodLink "java/lang/IllegalArgumentException" 1 ({ cls := "java/lang/RuntimeException", name := "<init>", desc := "()V" } : MethodName) ∈ GW := mw_of (i := 462) (by decide +kernel) rfl
theorem mw_396 : Cond.superclass "java/lang/IllegalArgumentException" "java/lang/RuntimeException" ∈ GW := mw_of (i := 464) (by decide +kernel) rfl
theorem nw_397 : Cond.methodLinkNest "EveningLedger" 103 yX2_stopsAdding "EveningLedger" ∈ NW := nw_of (i := 465) (by decide +kernel) rfl
theorem mw_399 : Cond.instanceMethod yX2_stopsAdding ∈ GW := mw_of (i := 467) (by decide +kernel) rfl
theorem mw_400 : Cond.code yX2_stopsAdding prog_4_method_4_code 4 (some .boolean) ∈ GW := mw_of (i := 468) (by decide +kernel) rfl
theorem nw_401 : Cond.methodLinkNest "EveningLedger$Refusal" 31 yX0_entriesOn "EveningLedger" ∈ NW := nw_of (i := 469) (by decide +kernel) rfl
theorem mw_403 : Cond.instanceMethod yX0_entriesOn ∈ GW := mw_of (i := 471) (by decide +kernel) rfl
theorem mw_404 : Cond.code yX0_entriesOn prog_2_method_22_code 5 (some .int) ∈ GW := mw_of (i := 472) (by decide +kernel) rfl
theorem mw_405 : Cond.methodLink "EveningLedger$Book" 65 yX0_debtOn ∈ GW := mw_of (i := 473) (by decide +kernel) rfl
theorem mw_407 : Cond.instanceMethod yX0_debtOn ∈ GW := mw_of (i := 475) (by decide +kernel) rfl
theorem mw_408 : Cond.code yX0_debtOn prog_2_method_6_code 4 (some .int) ∈ GW := mw_of (i := 476) (by decide +kernel) rfl
theorem mw_409 : Cond.methodLink "EveningLedger$Book" 50 yX0_indexOf ∈ GW := mw_of (i := 477) (by decide +kernel) rfl
theorem mw_410 : Cond.static yX0_indexOf ∈ GW := mw_of (i := 478) (by decide +kernel) rfl
theorem mw_411 : Cond.code yX0_indexOf prog_2_method_3_code 3 (some .int) ∈ GW := mw_of (i := 479) (by decide +kernel) rfl
theorem mw_412 : Cond.methodLink "EveningLedger$Refusal" 27 yX2_keepIf ∈ GW := mw_of (i := 480) (by decide +kernel) rfl
theorem mw_414 : Cond.instanceMethod yX2_keepIf ∈ GW := mw_of (i := 482) (by decide +kernel) rfl
theorem mw_415 : Cond.code yX2_keepIf prog_4_method_2_code 4 (some .boolean) ∈ GW := mw_of (i := 483) (by decide +kernel) rfl
theorem mw_416 : Cond.methodLink "EveningLedger" 77 yX5_refuseIf ∈ GW := mw_of (i := 484) (by decide +kernel) rfl
theorem mw_417 : Cond.static yX5_refuseIf ∈ GW := mw_of (i := 485) (by decide +kernel) rfl
theorem mw_418 : Cond.code yX5_refuseIf prog_1_method_46_code 1 none ∈ GW := mw_of (i := 486) (by decide +kernel) rfl
theorem mw_419 : Cond.classLink "EveningLedger" 320 "java/lang/UnsupportedOperationException" ∈ GW := mw_of (i := 487) (by decide +kernel) rfl
theorem mw_420 : Cond.instantiable "java/lang/UnsupportedOperationException" 6 ∈ GW := mw_of (i := 488) (by decide +kernel) rfl
theorem nw_421 : Cond.castable "java/lang/UnsupportedOperationException" "java/lang/UnsupportedOperationException" ∈ NW := nw_of (i := 489) (by decide +kernel) rfl
theorem mw_422 : Cond.selects "java/lang/UnsupportedOperationException" ({ cls := "java/lang/Throwable", name := "fillInStackTrace", desc := "(I)Ljava/lang/Throwable;" } : MethodName) ({ cls := "java/lang/Throwable", name := "fillInStackTrace", desc := "(I)Ljava/lang/Throwable;" } : MethodName) ∈ GW := mw_of (i := 490) (by decide +kernel) rfl
theorem mw_428 : Cond.methodLink "EveningLedger" 322 ({ cls := "java/lang/UnsupportedOperationException", name := "<init>", desc := "()V" } : MethodName) ∈ GW := mw_of (i := 496) (by decide +kernel) rfl
theorem mw_429 : Cond.instanceMethod ({ cls := "java/lang/UnsupportedOperationException", name := "<init>", desc := "()V" } : MethodName) ∈ GW := mw_of (i := 497) (by decide +kernel) rfl
theorem mw_430 : Cond.code ({ cls := "java/lang/UnsupportedOperationException", name := "<init>", desc := "()V" } : MethodName) prog_32_method_1_code 1 none ∈ GW := mw_of (i := 498) (by decide +kernel) rfl
theorem mw_431 : Cond.methodLink "java/lang/UnsupportedOperationException" 1 ({ cls := "java/lang/RuntimeException", name := "<init>", desc := "()V" } : MethodName) ∈ GW := mw_of (i := 499) (by decide +kernel) rfl
theorem mw_433 : Cond.superclass "java/lang/UnsupportedOperationException" "java/lang/RuntimeException" ∈ GW := mw_of (i := 501) (by decide +kernel) rfl
theorem nw_434 : Cond.methodLinkNest "EveningLedger" 81 yX1_rememberBook "EveningLedger" ∈ NW := nw_of (i := 502) (by decide +kernel) rfl
theorem mw_436 : Cond.instanceMethod yX1_rememberBook ∈ GW := mw_of (i := 504) (by decide +kernel) rfl
theorem mw_437 : Cond.code yX1_rememberBook prog_3_method_2_code 3 none ∈ GW := mw_of (i := 505) (by decide +kernel) rfl
theorem nw_438 : Cond.methodLinkNest "EveningLedger$History" 25 yX0_copyFrom "EveningLedger" ∈ NW := nw_of (i := 506) (by decide +kernel) rfl
theorem mw_439 : Cond.methodLink "EveningLedger$History" 29 yJ9_min_7cf53 ∈ GW := mw_of (i := 507) (by decide +kernel) rfl
theorem mw_440 : Cond.static yJ9_min_7cf53 ∈ GW := mw_of (i := 508) (by decide +kernel) rfl
theorem mw_441 : Cond.code yJ9_min_7cf53 prog_22_method_69_code 2 (some .int) ∈ GW := mw_of (i := 509) (by decide +kernel) rfl
theorem nw_442 : Cond.methodLinkNest "EveningLedger" 107 yX0_firstEmptyPlace "EveningLedger" ∈ NW := nw_of (i := 510) (by decide +kernel) rfl
theorem mw_444 : Cond.instanceMethod yX0_firstEmptyPlace ∈ GW := mw_of (i := 512) (by decide +kernel) rfl
theorem mw_445 : Cond.code yX0_firstEmptyPlace prog_2_method_12_code 3 (some .int) ∈ GW := mw_of (i := 513) (by decide +kernel) rfl
theorem nw_446 : Cond.methodLinkNest "EveningLedger" 85 yX0_writeEntry "EveningLedger" ∈ NW := nw_of (i := 514) (by decide +kernel) rfl
theorem mw_448 : Cond.instanceMethod yX0_writeEntry ∈ GW := mw_of (i := 516) (by decide +kernel) rfl
theorem mw_449 : Cond.code yX0_writeEntry prog_2_method_11_code 5 none ∈ GW := mw_of (i := 517) (by decide +kernel) rfl
theorem mw_450 : Cond.methodLink "EveningLedger$Book" 61 yX0_put ∈ GW := mw_of (i := 518) (by decide +kernel) rfl
theorem mw_452 : Cond.instanceMethod yX0_put ∈ GW := mw_of (i := 520) (by decide +kernel) rfl
theorem mw_453 : Cond.code yX0_put prog_2_method_16_code 6 none ∈ GW := mw_of (i := 521) (by decide +kernel) rfl
theorem mw_454 : Cond.methodLink "EveningLedger$Book" 75 yX0_makeSheetItsOwn ∈ GW := mw_of (i := 522) (by decide +kernel) rfl
theorem mw_456 : Cond.instanceMethod yX0_makeSheetItsOwn ∈ GW := mw_of (i := 524) (by decide +kernel) rfl
theorem mw_457 : Cond.code yX0_makeSheetItsOwn prog_2_method_17_code 2 none ∈ GW := mw_of (i := 525) (by decide +kernel) rfl
theorem mw_458 : Cond.methodLink "EveningLedger$Book" 54 yX0_sheetOn ∈ GW := mw_of (i := 526) (by decide +kernel) rfl
theorem mw_460 : Cond.instanceMethod yX0_sheetOn ∈ GW := mw_of (i := 528) (by decide +kernel) rfl
theorem mw_461 : Cond.code yX0_sheetOn prog_2_method_7_code 3 (some .int) ∈ GW := mw_of (i := 529) (by decide +kernel) rfl
theorem mw_462 : Cond.methodLink "EveningLedger$Book" 58 yX0_daysWithSheet ∈ GW := mw_of (i := 530) (by decide +kernel) rfl
theorem mw_464 : Cond.instanceMethod yX0_daysWithSheet ∈ GW := mw_of (i := 532) (by decide +kernel) rfl
theorem mw_465 : Cond.code yX0_daysWithSheet prog_2_method_8_code 6 (some .int) ∈ GW := mw_of (i := 533) (by decide +kernel) rfl
theorem mw_466 : Cond.methodLink "EveningLedgerLaw" 114 yL_owe ∈ GW := mw_of (i := 534) (by decide +kernel) rfl
theorem mw_467 : Cond.static yL_owe ∈ GW := mw_of (i := 535) (by decide +kernel) rfl
theorem mw_468 : Cond.codeWith yL_owe method_5_code 6 (some .int) [(4, 13, 16, 17), (4, 13, 21, 19), (4, 13, 26, 21)] ∈ GW := mw_of (i := 536) (by decide +kernel) rfl
theorem mw_469 : Cond.methodLink "EveningLedgerLaw" 27 yX5_owe ∈ GW := mw_of (i := 537) (by decide +kernel) rfl
theorem mw_470 : Cond.instanceMethod yX5_owe ∈ GW := mw_of (i := 538) (by decide +kernel) rfl
theorem mw_471 : Cond.selects "EveningLedger" yX5_owe yX5_owe ∈ GW := mw_of (i := 539) (by decide +kernel) rfl
theorem mw_472 : Cond.code yX5_owe prog_1_method_4_code 4 (some .int) ∈ GW := mw_of (i := 540) (by decide +kernel) rfl
theorem mw_473 : Cond.methodLink "EveningLedger" 65 yX5_needPlace ∈ GW := mw_of (i := 541) (by decide +kernel) rfl
theorem mw_474 : Cond.static yX5_needPlace ∈ GW := mw_of (i := 542) (by decide +kernel) rfl
theorem mw_475 : Cond.code yX5_needPlace prog_1_method_47_code 2 none ∈ GW := mw_of (i := 543) (by decide +kernel) rfl
theorem mw_476 : Cond.methodLink "EveningLedger" 138 yX5_isPlace ∈ GW := mw_of (i := 544) (by decide +kernel) rfl
theorem mw_477 : Cond.static yX5_isPlace ∈ GW := mw_of (i := 545) (by decide +kernel) rfl
theorem mw_478 : Cond.code yX5_isPlace prog_1_method_38_code 1 (some .boolean) ∈ GW := mw_of (i := 546) (by decide +kernel) rfl
theorem nw_479 : Cond.methodLinkNest "EveningLedger" 117 yX2_stopsOwing "EveningLedger" ∈ NW := nw_of (i := 547) (by decide +kernel) rfl
theorem mw_481 : Cond.instanceMethod yX2_stopsOwing ∈ GW := mw_of (i := 549) (by decide +kernel) rfl
theorem mw_482 : Cond.code yX2_stopsOwing prog_4_method_6_code 6 (some .boolean) ∈ GW := mw_of (i := 550) (by decide +kernel) rfl
theorem nw_483 : Cond.methodLinkNest "EveningLedger$Refusal" 23 yX0_debtOn "EveningLedger" ∈ NW := nw_of (i := 551) (by decide +kernel) rfl
theorem mw_484 : Cond.methodLink "EveningLedger$Refusal" 35 yJ9_abs_0f7a4 ∈ GW := mw_of (i := 552) (by decide +kernel) rfl
theorem mw_485 : Cond.static yJ9_abs_0f7a4 ∈ GW := mw_of (i := 553) (by decide +kernel) rfl
theorem mw_486 : Cond.code yJ9_abs_0f7a4 prog_22_method_59_code 1 (some .int) ∈ GW := mw_of (i := 554) (by decide +kernel) rfl
theorem mw_487 : Cond.methodLink "EveningLedger$Refusal" 41 yX2_stopsAtEmpty ∈ GW := mw_of (i := 555) (by decide +kernel) rfl
theorem mw_489 : Cond.instanceMethod yX2_stopsAtEmpty ∈ GW := mw_of (i := 557) (by decide +kernel) rfl
theorem mw_490 : Cond.code yX2_stopsAtEmpty prog_4_method_5_code 4 (some .boolean) ∈ GW := mw_of (i := 558) (by decide +kernel) rfl
theorem nw_491 : Cond.methodLinkNest "EveningLedger" 121 yX0_oweMore "EveningLedger" ∈ NW := nw_of (i := 559) (by decide +kernel) rfl
theorem mw_493 : Cond.instanceMethod yX0_oweMore ∈ GW := mw_of (i := 561) (by decide +kernel) rfl
theorem mw_494 : Cond.code yX0_oweMore prog_2_method_13_code 5 (some .int) ∈ GW := mw_of (i := 562) (by decide +kernel) rfl
theorem mw_495 : Cond.methodLink "EveningLedger$Book" 68 yX0_strikeOut ∈ GW := mw_of (i := 563) (by decide +kernel) rfl
theorem mw_497 : Cond.instanceMethod yX0_strikeOut ∈ GW := mw_of (i := 565) (by decide +kernel) rfl
theorem mw_498 : Cond.code yX0_strikeOut prog_2_method_14_code 4 (some .int) ∈ GW := mw_of (i := 566) (by decide +kernel) rfl
theorem mw_499 : Cond.methodLink "EveningLedger$Book" 71 yX0_personOn ∈ GW := mw_of (i := 567) (by decide +kernel) rfl
theorem mw_501 : Cond.instanceMethod yX0_personOn ∈ GW := mw_of (i := 569) (by decide +kernel) rfl
theorem mw_502 : Cond.code yX0_personOn prog_2_method_5_code 4 (some .char) ∈ GW := mw_of (i := 570) (by decide +kernel) rfl
theorem mw_503 : Cond.methodLink "EveningLedgerLaw" 122 yL_evening ∈ GW := mw_of (i := 571) (by decide +kernel) rfl
theorem mw_504 : Cond.static yL_evening ∈ GW := mw_of (i := 572) (by decide +kernel) rfl
theorem mw_505 : Cond.codeWith yL_evening method_8_code 3 (some .int) [(3, 8, 11, 21)] ∈ GW := mw_of (i := 573) (by decide +kernel) rfl
theorem mw_506 : Cond.methodLink "EveningLedgerLaw" 38 yX5_evening ∈ GW := mw_of (i := 574) (by decide +kernel) rfl
theorem mw_507 : Cond.instanceMethod yX5_evening ∈ GW := mw_of (i := 575) (by decide +kernel) rfl
theorem mw_508 : Cond.selects "EveningLedger" yX5_evening yX5_evening ∈ GW := mw_of (i := 576) (by decide +kernel) rfl
theorem mw_509 : Cond.code yX5_evening prog_1_method_10_code 1 (some .int) ∈ GW := mw_of (i := 577) (by decide +kernel) rfl
theorem nw_510 : Cond.methodLinkNest "EveningLedger" 166 yX2_stopsEvening "EveningLedger" ∈ NW := nw_of (i := 578) (by decide +kernel) rfl
theorem mw_512 : Cond.instanceMethod yX2_stopsEvening ∈ GW := mw_of (i := 580) (by decide +kernel) rfl
theorem mw_513 : Cond.code yX2_stopsEvening prog_4_method_7_code 2 (some .boolean) ∈ GW := mw_of (i := 581) (by decide +kernel) rfl
theorem nw_514 : Cond.methodLinkNest "EveningLedger" 170 yX0_keepEvening "EveningLedger" ∈ NW := nw_of (i := 582) (by decide +kernel) rfl
theorem mw_516 : Cond.instanceMethod yX0_keepEvening ∈ GW := mw_of (i := 584) (by decide +kernel) rfl
theorem mw_517 : Cond.code yX0_keepEvening prog_2_method_18_code 1 none ∈ GW := mw_of (i := 585) (by decide +kernel) rfl
theorem mw_518 : Cond.methodLink "EveningLedger$Book" 79 yX0_moveDays ∈ GW := mw_of (i := 586) (by decide +kernel) rfl
theorem mw_520 : Cond.instanceMethod yX0_moveDays ∈ GW := mw_of (i := 588) (by decide +kernel) rfl
theorem mw_521 : Cond.code yX0_moveDays prog_2_method_20_code 4 none ∈ GW := mw_of (i := 589) (by decide +kernel) rfl
theorem mw_522 : Cond.methodLink "EveningLedgerLaw" 125 yL_takeOver ∈ GW := mw_of (i := 590) (by decide +kernel) rfl
theorem mw_523 : Cond.static yL_takeOver ∈ GW := mw_of (i := 591) (by decide +kernel) rfl
theorem mw_524 : Cond.codeWith yL_takeOver method_9_code 5 (some .int) [(3, 10, 13, 17), (3, 10, 18, 21)] ∈ GW := mw_of (i := 592) (by decide +kernel) rfl
theorem mw_525 : Cond.methodLink "EveningLedgerLaw" 42 yX5_takeOver ∈ GW := mw_of (i := 593) (by decide +kernel) rfl
theorem mw_526 : Cond.instanceMethod yX5_takeOver ∈ GW := mw_of (i := 594) (by decide +kernel) rfl
theorem mw_527 : Cond.selects "EveningLedger" yX5_takeOver yX5_takeOver ∈ GW := mw_of (i := 595) (by decide +kernel) rfl
theorem mw_528 : Cond.code yX5_takeOver prog_1_method_11_code 4 (some .int) ∈ GW := mw_of (i := 596) (by decide +kernel) rfl
theorem mw_529 : Cond.methodLink "EveningLedger" 135 yX5_needDay ∈ GW := mw_of (i := 597) (by decide +kernel) rfl
theorem mw_531 : Cond.instanceMethod yX5_needDay ∈ GW := mw_of (i := 599) (by decide +kernel) rfl
theorem mw_532 : Cond.code yX5_needDay prog_1_method_49_code 3 (some .int) ∈ GW := mw_of (i := 600) (by decide +kernel) rfl
theorem nw_533 : Cond.methodLinkNest "EveningLedger" 327 yX0_dayOf "EveningLedger" ∈ NW := nw_of (i := 601) (by decide +kernel) rfl
theorem mw_535 : Cond.instanceMethod yX0_dayOf ∈ GW := mw_of (i := 603) (by decide +kernel) rfl
theorem mw_536 : Cond.code yX0_dayOf prog_2_method_4_code 3 (some .int) ∈ GW := mw_of (i := 604) (by decide +kernel) rfl
theorem nw_537 : Cond.methodLinkNest "EveningLedger" 176 yX2_stopsTakingOver "EveningLedger" ∈ NW := nw_of (i := 605) (by decide +kernel) rfl
theorem mw_539 : Cond.instanceMethod yX2_stopsTakingOver ∈ GW := mw_of (i := 607) (by decide +kernel) rfl
theorem mw_540 : Cond.code yX2_stopsTakingOver prog_4_method_8_code 5 (some .boolean) ∈ GW := mw_of (i := 608) (by decide +kernel) rfl
theorem nw_541 : Cond.methodLinkNest "EveningLedger$Refusal" 45 yX0_sheetOn "EveningLedger" ∈ NW := nw_of (i := 609) (by decide +kernel) rfl
theorem nw_542 : Cond.methodLinkNest "EveningLedger" 179 yX0_takePageFrom "EveningLedger" ∈ NW := nw_of (i := 610) (by decide +kernel) rfl
theorem mw_544 : Cond.instanceMethod yX0_takePageFrom ∈ GW := mw_of (i := 612) (by decide +kernel) rfl
theorem mw_545 : Cond.code yX0_takePageFrom prog_2_method_21_code 5 none ∈ GW := mw_of (i := 613) (by decide +kernel) rfl
theorem nw_546 : Cond.methodLinkNest "EveningLedger" 154 yX0_sheetOn "EveningLedger" ∈ NW := nw_of (i := 614) (by decide +kernel) rfl
theorem mw_547 : Cond.methodLink "EveningLedgerLaw" 127 yL_forget ∈ GW := mw_of (i := 615) (by decide +kernel) rfl
theorem mw_548 : Cond.static yL_forget ∈ GW := mw_of (i := 616) (by decide +kernel) rfl
theorem mw_549 : Cond.codeWith yL_forget method_10_code 4 (some .int) [(3, 9, 12, 17), (3, 9, 16, 21)] ∈ GW := mw_of (i := 617) (by decide +kernel) rfl
theorem mw_550 : Cond.methodLink "EveningLedgerLaw" 45 yX5_forget ∈ GW := mw_of (i := 618) (by decide +kernel) rfl
theorem mw_551 : Cond.instanceMethod yX5_forget ∈ GW := mw_of (i := 619) (by decide +kernel) rfl
theorem mw_552 : Cond.selects "EveningLedger" yX5_forget yX5_forget ∈ GW := mw_of (i := 620) (by decide +kernel) rfl
theorem mw_553 : Cond.code yX5_forget prog_1_method_12_code 4 (some .int) ∈ GW := mw_of (i := 621) (by decide +kernel) rfl
theorem nw_554 : Cond.methodLinkNest "EveningLedger" 182 yX2_stopsForgetting "EveningLedger" ∈ NW := nw_of (i := 622) (by decide +kernel) rfl
theorem mw_556 : Cond.instanceMethod yX2_stopsForgetting ∈ GW := mw_of (i := 624) (by decide +kernel) rfl
theorem mw_557 : Cond.code yX2_stopsForgetting prog_4_method_9_code 3 (some .boolean) ∈ GW := mw_of (i := 625) (by decide +kernel) rfl
theorem nw_558 : Cond.methodLinkNest "EveningLedger" 185 yX0_pagesAlone "EveningLedger" ∈ NW := nw_of (i := 626) (by decide +kernel) rfl
theorem mw_560 : Cond.instanceMethod yX0_pagesAlone ∈ GW := mw_of (i := 628) (by decide +kernel) rfl
theorem mw_561 : Cond.code yX0_pagesAlone prog_2_method_9_code 4 (some .int) ∈ GW := mw_of (i := 629) (by decide +kernel) rfl
theorem nw_562 : Cond.methodLinkNest "EveningLedger" 188 yX0_forgetDay "EveningLedger" ∈ NW := nw_of (i := 630) (by decide +kernel) rfl
theorem mw_564 : Cond.instanceMethod yX0_forgetDay ∈ GW := mw_of (i := 632) (by decide +kernel) rfl
theorem mw_565 : Cond.code yX0_forgetDay prog_2_method_19_code 2 none ∈ GW := mw_of (i := 633) (by decide +kernel) rfl
theorem mw_566 : Cond.methodLink "EveningLedgerLaw" 138 yL_read ∈ GW := mw_of (i := 634) (by decide +kernel) rfl
theorem mw_567 : Cond.static yL_read ∈ GW := mw_of (i := 635) (by decide +kernel) rfl
theorem mw_568 : Cond.codeWith yL_read method_18_code 3 (some .int) [(3, 8, 11, 19), (3, 8, 15, 84), (3, 8, 19, 21)] ∈ GW := mw_of (i := 636) (by decide +kernel) rfl
theorem mw_569 : Cond.classLink "EveningLedgerLaw" 84 "java/lang/IllegalStateException" ∈ GW := mw_of (i := 637) (by decide +kernel) rfl
theorem mw_570 : Cond.methodLink "EveningLedgerLaw" 81 yX5_read ∈ GW := mw_of (i := 638) (by decide +kernel) rfl
theorem mw_571 : Cond.instanceMethod yX5_read ∈ GW := mw_of (i := 639) (by decide +kernel) rfl
theorem mw_572 : Cond.selects "EveningLedger" yX5_read yX5_read ∈ GW := mw_of (i := 640) (by decide +kernel) rfl
theorem mw_573 : Cond.code yX5_read prog_1_method_31_code 3 (some .int) ∈ GW := mw_of (i := 641) (by decide +kernel) rfl
theorem nw_574 : Cond.methodLinkNest "EveningLedger" 290 yX3_countCommands "EveningLedger" ∈ NW := nw_of (i := 642) (by decide +kernel) rfl
theorem mw_576 : Cond.instanceMethod yX3_countCommands ∈ GW := mw_of (i := 644) (by decide +kernel) rfl
theorem mw_577 : Cond.code yX3_countCommands prog_5_method_4_code 2 (some .int) ∈ GW := mw_of (i := 645) (by decide +kernel) rfl
theorem mw_578 : Cond.methodLink "EveningLedger$Text" 42 yX3_startAgain ∈ GW := mw_of (i := 646) (by decide +kernel) rfl
theorem mw_580 : Cond.instanceMethod yX3_startAgain ∈ GW := mw_of (i := 648) (by decide +kernel) rfl
theorem mw_581 : Cond.code yX3_startAgain prog_5_method_3_code 1 none ∈ GW := mw_of (i := 649) (by decide +kernel) rfl
theorem mw_582 : Cond.methodLink "EveningLedger$Text" 45 yX3_takeCommand ∈ GW := mw_of (i := 650) (by decide +kernel) rfl
theorem mw_584 : Cond.instanceMethod yX3_takeCommand ∈ GW := mw_of (i := 652) (by decide +kernel) rfl
theorem mw_585 : Cond.code yX3_takeCommand prog_5_method_5_code 1 (some .boolean) ∈ GW := mw_of (i := 653) (by decide +kernel) rfl
theorem mw_586 : Cond.methodLink "EveningLedger$Text" 49 yX3_takeSign ∈ GW := mw_of (i := 654) (by decide +kernel) rfl
theorem mw_588 : Cond.instanceMethod yX3_takeSign ∈ GW := mw_of (i := 656) (by decide +kernel) rfl
theorem mw_589 : Cond.code yX3_takeSign prog_5_method_12_code 2 (some .boolean) ∈ GW := mw_of (i := 657) (by decide +kernel) rfl
theorem mw_590 : Cond.methodLink "EveningLedger$Text" 76 yX3_isAtSignFrom ∈ GW := mw_of (i := 658) (by decide +kernel) rfl
theorem mw_592 : Cond.instanceMethod yX3_isAtSignFrom ∈ GW := mw_of (i := 660) (by decide +kernel) rfl
theorem mw_593 : Cond.code yX3_isAtSignFrom prog_5_method_13_code 4 (some .boolean) ∈ GW := mw_of (i := 661) (by decide +kernel) rfl
theorem mw_594 : Cond.methodLink "EveningLedger$Text" 53 yJ4_length_8abf5 ∈ GW := mw_of (i := 662) (by decide +kernel) rfl
theorem mw_595 : Cond.instanceMethod yJ4_length_8abf5 ∈ GW := mw_of (i := 663) (by decide +kernel) rfl
theorem mw_596 : Cond.selects "java/lang/StringBuilder" yJ4_length_8abf5 yJ4_length_8abf5 ∈ GW := mw_of (i := 664) (by decide +kernel) rfl
theorem mw_597 : Cond.code yJ4_length_8abf5 prog_26_method_93_code 1 (some .int) ∈ GW := mw_of (i := 665) (by decide +kernel) rfl
theorem mw_598 : Cond.methodLink "java/lang/StringBuilder" 343 yJ5_length_8abf5 ∈ GW := mw_of (i := 666) (by decide +kernel) rfl
theorem mw_599 : Cond.instanceMethod yJ5_length_8abf5 ∈ GW := mw_of (i := 667) (by decide +kernel) rfl
theorem mw_600 : Cond.code yJ5_length_8abf5 prog_10_method_6_code 1 (some .int) ∈ GW := mw_of (i := 668) (by decide +kernel) rfl
theorem mw_601 : Cond.methodLink "EveningLedger$Text" 80 yJ4_charAt_5068e ∈ GW := mw_of (i := 669) (by decide +kernel) rfl
theorem mw_602 : Cond.instanceMethod yJ4_charAt_5068e ∈ GW := mw_of (i := 670) (by decide +kernel) rfl
theorem mw_603 : Cond.selects "java/lang/StringBuilder" yJ4_charAt_5068e yJ4_charAt_5068e ∈ GW := mw_of (i := 671) (by decide +kernel) rfl
theorem mw_604 : Cond.code yJ4_charAt_5068e prog_26_method_88_code 2 (some .char) ∈ GW := mw_of (i := 672) (by decide +kernel) rfl
theorem mw_605 : Cond.methodLink "java/lang/StringBuilder" 329 yJ5_charAt_5068e ∈ GW := mw_of (i := 673) (by decide +kernel) rfl
theorem mw_606 : Cond.instanceMethod yJ5_charAt_5068e ∈ GW := mw_of (i := 674) (by decide +kernel) rfl
theorem mw_607 : Cond.code yJ5_charAt_5068e prog_10_method_14_code 5 (some .char) ∈ GW := mw_of (i := 675) (by decide +kernel) rfl
theorem mw_608 : Cond.methodLink "java/lang/AbstractStringBuilder" 138 yJ9_min_7cf53 ∈ GW := mw_of (i := 676) (by decide +kernel) rfl
theorem mw_609 : Cond.methodLink "java/lang/AbstractStringBuilder" 144 yJ0_checkIndex_df160 ∈ GW := mw_of (i := 677) (by decide +kernel) rfl
theorem mw_610 : Cond.static yJ0_checkIndex_df160 ∈ GW := mw_of (i := 678) (by decide +kernel) rfl
theorem mw_611 : Cond.code yJ0_checkIndex_df160 prog_25_method_155_code 2 none ∈ GW := mw_of (i := 679) (by decide +kernel) rfl
theorem mw_612 : Cond.fieldLink "java/lang/String" 1053 "jdk/internal/util/Preconditions" "SIOOBE_FORMATTER" "Ljava/util/function/BiFunction;" ∈ GW := mw_of (i := 680) (by decide +kernel) rfl
theorem mw_614 : Cond.methodLink "java/lang/String" 1059 yJ3_checkIndex_8e157 ∈ GW := mw_of (i := 682) (by decide +kernel) rfl
theorem mw_615 : Cond.static yJ3_checkIndex_8e157 ∈ GW := mw_of (i := 683) (by decide +kernel) rfl
theorem mw_616 : Cond.code yJ3_checkIndex_8e157 prog_38_method_11_code 3 (some .int) ∈ GW := mw_of (i := 684) (by decide +kernel) rfl
theorem mw_617 : Cond.methodLink "java/lang/AbstractStringBuilder" 148 yJ2_getChar_3b067 ∈ GW := mw_of (i := 685) (by decide +kernel) rfl
theorem mw_618 : Cond.static yJ2_getChar_3b067 ∈ GW := mw_of (i := 686) (by decide +kernel) rfl
theorem mw_619 : Cond.code yJ2_getChar_3b067 prog_29_method_5_code 2 (some .char) ∈ GW := mw_of (i := 687) (by decide +kernel) rfl
theorem mw_620 : Cond.fieldLink "java/lang/StringUTF16" 44 "java/lang/StringUTF16" "$assertionsDisabled" "Z" ∈ GW := mw_of (i := 688) (by decide +kernel) rfl
theorem mw_622 : Cond.methodLink "java/lang/StringUTF16" 48 yJ2_length_9d52b ∈ GW := mw_of (i := 690) (by decide +kernel) rfl
theorem mw_623 : Cond.static yJ2_length_9d52b ∈ GW := mw_of (i := 691) (by decide +kernel) rfl
theorem mw_624 : Cond.code yJ2_length_9d52b prog_29_method_6_code 1 (some .int) ∈ GW := mw_of (i := 692) (by decide +kernel) rfl
theorem mw_625 : Cond.fieldLink "java/lang/StringUTF16" 59 "java/lang/StringUTF16" "HI_BYTE_SHIFT" "I" ∈ GW := mw_of (i := 693) (by decide +kernel) rfl
theorem mw_627 : Cond.fieldLink "java/lang/StringUTF16" 63 "java/lang/StringUTF16" "LO_BYTE_SHIFT" "I" ∈ GW := mw_of (i := 695) (by decide +kernel) rfl
theorem mw_629 : Cond.methodLink "EveningLedger$Text" 57 yX3_takeNumber ∈ GW := mw_of (i := 697) (by decide +kernel) rfl
theorem mw_631 : Cond.instanceMethod yX3_takeNumber ∈ GW := mw_of (i := 699) (by decide +kernel) rfl
theorem mw_632 : Cond.code yX3_takeNumber prog_5_method_10_code 5 (some .boolean) ∈ GW := mw_of (i := 700) (by decide +kernel) rfl
theorem mw_633 : Cond.methodLink "EveningLedger$Text" 73 yX3_takeDigit ∈ GW := mw_of (i := 701) (by decide +kernel) rfl
theorem mw_635 : Cond.instanceMethod yX3_takeDigit ∈ GW := mw_of (i := 703) (by decide +kernel) rfl
theorem mw_636 : Cond.code yX3_takeDigit prog_5_method_11_code 2 (some .int) ∈ GW := mw_of (i := 704) (by decide +kernel) rfl
theorem mw_637 : Cond.methodLink "EveningLedger$Text" 61 yX3_takePage ∈ GW := mw_of (i := 705) (by decide +kernel) rfl
theorem mw_639 : Cond.instanceMethod yX3_takePage ∈ GW := mw_of (i := 707) (by decide +kernel) rfl
theorem mw_640 : Cond.code yX3_takePage prog_5_method_7_code 1 (some .boolean) ∈ GW := mw_of (i := 708) (by decide +kernel) rfl
theorem mw_641 : Cond.methodLink "EveningLedger$Text" 64 yX3_takeEntryCommand ∈ GW := mw_of (i := 709) (by decide +kernel) rfl
theorem mw_643 : Cond.instanceMethod yX3_takeEntryCommand ∈ GW := mw_of (i := 711) (by decide +kernel) rfl
theorem mw_644 : Cond.code yX3_takeEntryCommand prog_5_method_6_code 1 (some .boolean) ∈ GW := mw_of (i := 712) (by decide +kernel) rfl
theorem mw_645 : Cond.methodLink "EveningLedger$Text" 67 yX3_takeLetter ∈ GW := mw_of (i := 713) (by decide +kernel) rfl
theorem mw_647 : Cond.instanceMethod yX3_takeLetter ∈ GW := mw_of (i := 715) (by decide +kernel) rfl
theorem mw_648 : Cond.code yX3_takeLetter prog_5_method_9_code 1 (some .boolean) ∈ GW := mw_of (i := 716) (by decide +kernel) rfl
theorem mw_649 : Cond.methodLink "EveningLedger$Text" 70 yX3_takePlace ∈ GW := mw_of (i := 717) (by decide +kernel) rfl
theorem mw_651 : Cond.instanceMethod yX3_takePlace ∈ GW := mw_of (i := 719) (by decide +kernel) rfl
theorem mw_652 : Cond.code yX3_takePlace prog_5_method_8_code 1 (some .boolean) ∈ GW := mw_of (i := 720) (by decide +kernel) rfl
theorem nw_653 : Cond.methodLinkNest "EveningLedger" 296 yX3_empty "EveningLedger" ∈ NW := nw_of (i := 721) (by decide +kernel) rfl
theorem mw_655 : Cond.instanceMethod yX3_empty ∈ GW := mw_of (i := 723) (by decide +kernel) rfl
theorem mw_656 : Cond.code yX3_empty prog_5_method_2_code 1 none ∈ GW := mw_of (i := 724) (by decide +kernel) rfl
theorem mw_657 : Cond.methodLink "EveningLedger$Text" 38 yJ4_setLength_d00df ∈ GW := mw_of (i := 725) (by decide +kernel) rfl
theorem mw_658 : Cond.instanceMethod yJ4_setLength_d00df ∈ GW := mw_of (i := 726) (by decide +kernel) rfl
theorem mw_659 : Cond.selects "java/lang/StringBuilder" yJ4_setLength_d00df yJ4_setLength_d00df ∈ GW := mw_of (i := 727) (by decide +kernel) rfl
theorem mw_660 : Cond.code yJ4_setLength_d00df prog_26_method_89_code 2 none ∈ GW := mw_of (i := 728) (by decide +kernel) rfl
theorem mw_661 : Cond.methodLink "java/lang/StringBuilder" 333 yJ5_setLength_d00df ∈ GW := mw_of (i := 729) (by decide +kernel) rfl
theorem mw_662 : Cond.instanceMethod yJ5_setLength_d00df ∈ GW := mw_of (i := 730) (by decide +kernel) rfl
theorem mw_663 : Cond.code yJ5_setLength_d00df prog_10_method_13_code 2 none ∈ GW := mw_of (i := 731) (by decide +kernel) rfl
theorem mw_664 : Cond.classLink "java/lang/AbstractStringBuilder" 129 "java/lang/StringIndexOutOfBoundsException" ∈ GW := mw_of (i := 732) (by decide +kernel) rfl
theorem mw_665 : Cond.instantiable "java/lang/StringIndexOutOfBoundsException" 6 ∈ GW := mw_of (i := 733) (by decide +kernel) rfl
theorem mw_666 : Cond.methodLink "java/lang/AbstractStringBuilder" 131 yJx7c733_init_d00df ∈ GW := mw_of (i := 734) (by decide +kernel) rfl
theorem mw_667 : Cond.instanceMethod yJx7c733_init_d00df ∈ GW := mw_of (i := 735) (by decide +kernel) rfl
theorem mw_668 : Cond.code yJx7c733_init_d00df prog_27_method_3_code 2 none ∈ GW := mw_of (i := 736) (by decide +kernel) rfl
theorem mw_669 : Cond.classLink "java/lang/StringIndexOutOfBoundsException" 10 "java/lang/StringBuilder" ∈ GW := mw_of (i := 737) (by decide +kernel) rfl
theorem mw_670 : Cond.methodLink "java/lang/StringIndexOutOfBoundsException" 12 yJ4_init_da8c8 ∈ GW := mw_of (i := 738) (by decide +kernel) rfl
theorem mw_672 : Cond.methodLink "java/lang/StringIndexOutOfBoundsException" 15 yJ4_append_15ec4 ∈ GW := mw_of (i := 740) (by decide +kernel) rfl
theorem mw_673 : Cond.instanceMethod yJ4_append_15ec4 ∈ GW := mw_of (i := 741) (by decide +kernel) rfl
theorem mw_674 : Cond.selects "java/lang/StringBuilder" yJ4_append_15ec4 yJ4_append_15ec4 ∈ GW := mw_of (i := 742) (by decide +kernel) rfl
theorem mw_675 : Cond.code yJ4_append_15ec4 prog_26_method_7_code 2 (some (FieldType.object "java/lang/StringBuilder")) ∈ GW := mw_of (i := 743) (by decide +kernel) rfl
theorem mw_676 : Cond.methodLink "java/lang/StringBuilder" 29 yJ5_append_cf1ce ∈ GW := mw_of (i := 744) (by decide +kernel) rfl
theorem mw_677 : Cond.instanceMethod yJ5_append_cf1ce ∈ GW := mw_of (i := 745) (by decide +kernel) rfl
theorem mw_678 : Cond.code yJ5_append_cf1ce prog_10_method_22_code 3 (some (FieldType.object "java/lang/AbstractStringBuilder")) ∈ GW := mw_of (i := 746) (by decide +kernel) rfl
theorem mw_679 : Cond.methodLink "java/lang/AbstractStringBuilder" 204 yJ5_appendNull_278bc ∈ GW := mw_of (i := 747) (by decide +kernel) rfl
theorem mw_681 : Cond.instanceMethod yJ5_appendNull_278bc ∈ GW := mw_of (i := 749) (by decide +kernel) rfl
theorem mw_682 : Cond.code yJ5_appendNull_278bc prog_10_method_26_code 3 (some (FieldType.object "java/lang/AbstractStringBuilder")) ∈ GW := mw_of (i := 750) (by decide +kernel) rfl
theorem mw_683 : Cond.methodLink "java/lang/AbstractStringBuilder" 100 yJ5_ensureCapacityInternal_d00df ∈ GW := mw_of (i := 751) (by decide +kernel) rfl
theorem mw_685 : Cond.instanceMethod yJ5_ensureCapacityInternal_d00df ∈ GW := mw_of (i := 753) (by decide +kernel) rfl
theorem mw_686 : Cond.code yJ5_ensureCapacityInternal_d00df prog_10_method_9_code 3 none ∈ GW := mw_of (i := 754) (by decide +kernel) rfl
theorem mw_687 : Cond.methodLink "java/lang/AbstractStringBuilder" 104 yJ5_newCapacity_0f7a4 ∈ GW := mw_of (i := 755) (by decide +kernel) rfl
theorem mw_689 : Cond.instanceMethod yJ5_newCapacity_0f7a4 ∈ GW := mw_of (i := 757) (by decide +kernel) rfl
theorem mw_690 : Cond.code yJ5_newCapacity_0f7a4 prog_10_method_10_code 6 (some .int) ∈ GW := mw_of (i := 758) (by decide +kernel) rfl
theorem mw_691 : Cond.methodLink "java/lang/AbstractStringBuilder" 114 yJ8_newLength_cabcc ∈ GW := mw_of (i := 759) (by decide +kernel) rfl
theorem mw_692 : Cond.static yJ8_newLength_cabcc ∈ GW := mw_of (i := 760) (by decide +kernel) rfl
theorem mw_693 : Cond.code yJ8_newLength_cabcc prog_37_method_27_code 4 (some .int) ∈ GW := mw_of (i := 761) (by decide +kernel) rfl
theorem mw_694 : Cond.methodLink "jdk/internal/util/ArraysSupport" 194 yJ9_max_7cf53 ∈ GW := mw_of (i := 762) (by decide +kernel) rfl
theorem mw_695 : Cond.static yJ9_max_7cf53 ∈ GW := mw_of (i := 763) (by decide +kernel) rfl
theorem mw_696 : Cond.code yJ9_max_7cf53 prog_22_method_65_code 2 (some .int) ∈ GW := mw_of (i := 764) (by decide +kernel) rfl
theorem mw_697 : Cond.constant "jdk/internal/util/ArraysSupport" 200 (2147483639 : Int32) ∈ GW := mw_of (i := 765) (by decide +kernel) rfl
theorem mw_698 : Cond.methodLink "jdk/internal/util/ArraysSupport" 201 yJ8_hugeLength_7cf53 ∈ GW := mw_of (i := 766) (by decide +kernel) rfl
theorem mw_699 : Cond.static yJ8_hugeLength_7cf53 ∈ GW := mw_of (i := 767) (by decide +kernel) rfl
theorem mw_700 : Cond.code yJ8_hugeLength_7cf53 prog_37_method_28_code 3 (some .int) ∈ GW := mw_of (i := 768) (by decide +kernel) rfl
theorem mw_701 : Cond.constant "java/lang/AbstractStringBuilder" 39 (2147483647 : Int32) ∈ GW := mw_of (i := 769) (by decide +kernel) rfl
theorem mw_702 : Cond.methodLink "java/lang/AbstractStringBuilder" 108 yJ7_copyOf_9075b ∈ GW := mw_of (i := 770) (by decide +kernel) rfl
theorem mw_703 : Cond.static yJ7_copyOf_9075b ∈ GW := mw_of (i := 771) (by decide +kernel) rfl
theorem mw_704 : Cond.code yJ7_copyOf_9075b prog_35_method_121_code 3 (some (FieldType.array FieldType.byte)) ∈ GW := mw_of (i := 772) (by decide +kernel) rfl
theorem mw_705 : Cond.methodLink "java/util/Arrays" 310 ({ cls := "[B", name := "clone", desc := "()Ljava/lang/Object;" } : MethodName) ∈ GW := mw_of (i := 773) (by decide +kernel) rfl
theorem mw_706 : Cond.sameMethod "[B" "java/lang/Object" "clone" "()Ljava/lang/Object;" ∈ GW := mw_of (i := 774) (by decide +kernel) rfl
theorem mw_707 : Cond.native ({ cls := "java/lang/Object", name := "clone", desc := "()Ljava/lang/Object;" } : MethodName) ∈ GW := mw_of (i := 775) (by decide +kernel) rfl
theorem mw_708 : Cond.instanceMethod ({ cls := "java/lang/Object", name := "clone", desc := "()Ljava/lang/Object;" } : MethodName) ∈ GW := mw_of (i := 776) (by decide +kernel) rfl
theorem mw_709 : Cond.selects "[B" ({ cls := "[B", name := "clone", desc := "()Ljava/lang/Object;" } : MethodName) ({ cls := "java/lang/Object", name := "clone", desc := "()Ljava/lang/Object;" } : MethodName) ∈ GW := mw_of (i := 777) (by decide +kernel) rfl
theorem nw_710 : Cond.castable "[B" "java/lang/Cloneable" ∈ NW := nw_of (i := 778) (by decide +kernel) rfl
theorem mw_711 : Cond.classLink "java/util/Arrays" 311 "[B" ∈ GW := mw_of (i := 779) (by decide +kernel) rfl
theorem mw_712 : Cond.methodLink "java/util/Arrays" 304 yJ9_min_7cf53 ∈ GW := mw_of (i := 780) (by decide +kernel) rfl
theorem mw_713 : Cond.methodLink "java/util/Arrays" 150 ({ cls := "java/lang/System", name := "arraycopy", desc := "(Ljava/lang/Object;ILjava/lang/Object;II)V" } : MethodName) ∈ GW := mw_of (i := 781) (by decide +kernel) rfl
theorem mw_714 : Cond.methodLink "java/lang/AbstractStringBuilder" 83 yJ5_isLatin1_aae02 ∈ GW := mw_of (i := 782) (by decide +kernel) rfl
theorem mw_715 : Cond.instanceMethod yJ5_isLatin1_aae02 ∈ GW := mw_of (i := 783) (by decide +kernel) rfl
theorem mw_716 : Cond.sameMethod "java/lang/AbstractStringBuilder" "java/lang/AbstractStringBuilder" "isLatin1" "()Z" ∈ GW := mw_of (i := 784) (by decide +kernel) rfl
theorem mw_717 : Cond.selects "java/lang/StringBuilder" yJ5_isLatin1_aae02 yJ5_isLatin1_aae02 ∈ GW := mw_of (i := 785) (by decide +kernel) rfl
theorem mw_718 : Cond.code yJ5_isLatin1_aae02 prog_10_method_68_code 1 (some .boolean) ∈ GW := mw_of (i := 786) (by decide +kernel) rfl
theorem mw_719 : Cond.methodLink "java/lang/AbstractStringBuilder" 226 yJ2_putCharsAt_cd4e5 ∈ GW := mw_of (i := 787) (by decide +kernel) rfl
theorem mw_720 : Cond.static yJ2_putCharsAt_cd4e5 ∈ GW := mw_of (i := 788) (by decide +kernel) rfl
theorem mw_721 : Cond.code yJ2_putCharsAt_cd4e5 prog_29_method_81_code 7 (some .int) ∈ GW := mw_of (i := 789) (by decide +kernel) rfl
theorem mw_722 : Cond.methodLink "java/lang/StringUTF16" 96 yJ2_checkBoundsBeginEnd_d044e ∈ GW := mw_of (i := 790) (by decide +kernel) rfl
theorem mw_723 : Cond.static yJ2_checkBoundsBeginEnd_d044e ∈ GW := mw_of (i := 791) (by decide +kernel) rfl
theorem mw_724 : Cond.code yJ2_checkBoundsBeginEnd_d044e prog_29_method_93_code 3 none ∈ GW := mw_of (i := 792) (by decide +kernel) rfl
theorem mw_725 : Cond.methodLink "java/lang/StringUTF16" 241 yJ0_checkBoundsBeginEnd_23922 ∈ GW := mw_of (i := 793) (by decide +kernel) rfl
theorem mw_726 : Cond.static yJ0_checkBoundsBeginEnd_23922 ∈ GW := mw_of (i := 794) (by decide +kernel) rfl
theorem mw_727 : Cond.code yJ0_checkBoundsBeginEnd_23922 prog_25_method_158_code 3 none ∈ GW := mw_of (i := 795) (by decide +kernel) rfl
theorem mw_728 : Cond.methodLink "java/lang/String" 1062 yJ3_checkFromToIndex_8c36e ∈ GW := mw_of (i := 796) (by decide +kernel) rfl
theorem mw_729 : Cond.static yJ3_checkFromToIndex_8c36e ∈ GW := mw_of (i := 797) (by decide +kernel) rfl
theorem mw_730 : Cond.code yJ3_checkFromToIndex_8c36e prog_38_method_12_code 4 (some .int) ∈ GW := mw_of (i := 798) (by decide +kernel) rfl
theorem mw_731 : Cond.methodLink "java/lang/StringUTF16" 111 yJ2_putChar_b72d1 ∈ GW := mw_of (i := 799) (by decide +kernel) rfl
theorem mw_732 : Cond.static yJ2_putChar_b72d1 ∈ GW := mw_of (i := 800) (by decide +kernel) rfl
theorem mw_733 : Cond.code yJ2_putChar_b72d1 prog_29_method_4_code 3 none ∈ GW := mw_of (i := 801) (by decide +kernel) rfl
theorem mw_734 : Cond.methodLink "java/lang/AbstractStringBuilder" 32 yJ0_length_8abf5 ∈ GW := mw_of (i := 802) (by decide +kernel) rfl
theorem mw_735 : Cond.instanceMethod yJ0_length_8abf5 ∈ GW := mw_of (i := 803) (by decide +kernel) rfl
theorem mw_736 : Cond.selects "java/lang/String" yJ0_length_8abf5 yJ0_length_8abf5 ∈ GW := mw_of (i := 804) (by decide +kernel) rfl
theorem mw_737 : Cond.code yJ0_length_8abf5 prog_25_method_54_code 1 (some .int) ∈ GW := mw_of (i := 805) (by decide +kernel) rfl
theorem mw_738 : Cond.methodLink "java/lang/String" 335 yJ0_coder_7d493 ∈ GW := mw_of (i := 806) (by decide +kernel) rfl
theorem mw_739 : Cond.instanceMethod yJ0_coder_7d493 ∈ GW := mw_of (i := 807) (by decide +kernel) rfl
theorem mw_740 : Cond.selects "java/lang/String" yJ0_coder_7d493 yJ0_coder_7d493 ∈ GW := mw_of (i := 808) (by decide +kernel) rfl
theorem mw_741 : Cond.code yJ0_coder_7d493 prog_25_method_152_code 1 (some .byte) ∈ GW := mw_of (i := 809) (by decide +kernel) rfl
theorem mw_742 : Cond.fieldLink "java/lang/String" 38 "java/lang/String" "COMPACT_STRINGS" "Z" ∈ GW := mw_of (i := 810) (by decide +kernel) rfl
theorem mw_743 : Cond.methodLink "java/lang/AbstractStringBuilder" 208 yJ5_putStringAt_47b60 ∈ GW := mw_of (i := 811) (by decide +kernel) rfl
theorem mw_745 : Cond.instanceMethod yJ5_putStringAt_47b60 ∈ GW := mw_of (i := 813) (by decide +kernel) rfl
theorem mw_746 : Cond.code yJ5_putStringAt_47b60 prog_10_method_73_code 3 none ∈ GW := mw_of (i := 814) (by decide +kernel) rfl
theorem mw_747 : Cond.methodLink "java/lang/AbstractStringBuilder" 397 yJ5_inflateIfNeededFor_a7421 ∈ GW := mw_of (i := 815) (by decide +kernel) rfl
theorem mw_749 : Cond.instanceMethod yJ5_inflateIfNeededFor_a7421 ∈ GW := mw_of (i := 817) (by decide +kernel) rfl
theorem mw_750 : Cond.code yJ5_inflateIfNeededFor_a7421 prog_10_method_71_code 2 none ∈ GW := mw_of (i := 818) (by decide +kernel) rfl
theorem mw_751 : Cond.methodLink "java/lang/AbstractStringBuilder" 40 yJ0_coder_7d493 ∈ GW := mw_of (i := 819) (by decide +kernel) rfl
theorem mw_752 : Cond.methodLink "java/lang/AbstractStringBuilder" 195 yJ5_inflate_da8c8 ∈ GW := mw_of (i := 820) (by decide +kernel) rfl
theorem mw_754 : Cond.instanceMethod yJ5_inflate_da8c8 ∈ GW := mw_of (i := 822) (by decide +kernel) rfl
theorem mw_755 : Cond.code yJ5_inflate_da8c8 prog_10_method_11_code 2 none ∈ GW := mw_of (i := 823) (by decide +kernel) rfl
theorem mw_756 : Cond.methodLink "java/lang/AbstractStringBuilder" 125 yJ1_inflate_0e8fd ∈ GW := mw_of (i := 824) (by decide +kernel) rfl
theorem mw_757 : Cond.static yJ1_inflate_0e8fd ∈ GW := mw_of (i := 825) (by decide +kernel) rfl
theorem mw_758 : Cond.code yJ1_inflate_0e8fd prog_28_method_50_code 5 none ∈ GW := mw_of (i := 826) (by decide +kernel) rfl
theorem mw_759 : Cond.methodLink "java/lang/StringLatin1" 240 yJ2_inflate_0e8fd ∈ GW := mw_of (i := 827) (by decide +kernel) rfl
theorem mw_760 : Cond.static yJ2_inflate_0e8fd ∈ GW := mw_of (i := 828) (by decide +kernel) rfl
theorem mw_761 : Cond.code yJ2_inflate_0e8fd prog_29_method_86_code 6 none ∈ GW := mw_of (i := 829) (by decide +kernel) rfl
theorem mw_762 : Cond.methodLink "java/lang/StringUTF16" 173 yJ2_checkBoundsOffCount_d044e ∈ GW := mw_of (i := 830) (by decide +kernel) rfl
theorem mw_763 : Cond.static yJ2_checkBoundsOffCount_d044e ∈ GW := mw_of (i := 831) (by decide +kernel) rfl
theorem mw_764 : Cond.code yJ2_checkBoundsOffCount_d044e prog_29_method_94_code 3 none ∈ GW := mw_of (i := 832) (by decide +kernel) rfl
theorem mw_765 : Cond.methodLink "java/lang/StringUTF16" 419 yJ0_checkBoundsOffCount_cabcc ∈ GW := mw_of (i := 833) (by decide +kernel) rfl
theorem mw_766 : Cond.static yJ0_checkBoundsOffCount_cabcc ∈ GW := mw_of (i := 834) (by decide +kernel) rfl
theorem mw_767 : Cond.code yJ0_checkBoundsOffCount_cabcc prog_25_method_157_code 3 (some .int) ∈ GW := mw_of (i := 835) (by decide +kernel) rfl
theorem mw_768 : Cond.methodLink "java/lang/String" 1065 yJ3_checkFromIndexSize_8c36e ∈ GW := mw_of (i := 836) (by decide +kernel) rfl
theorem mw_769 : Cond.static yJ3_checkFromIndexSize_8c36e ∈ GW := mw_of (i := 837) (by decide +kernel) rfl
theorem mw_770 : Cond.code yJ3_checkFromIndexSize_8c36e prog_38_method_13_code 4 (some .int) ∈ GW := mw_of (i := 838) (by decide +kernel) rfl
theorem mw_771 : Cond.methodLink "java/lang/AbstractStringBuilder" 399 yJ0_getBytes_840e7 ∈ GW := mw_of (i := 839) (by decide +kernel) rfl
theorem mw_772 : Cond.instanceMethod yJ0_getBytes_840e7 ∈ GW := mw_of (i := 840) (by decide +kernel) rfl
theorem mw_773 : Cond.selects "java/lang/String" yJ0_getBytes_840e7 yJ0_getBytes_840e7 ∈ GW := mw_of (i := 841) (by decide +kernel) rfl
theorem mw_774 : Cond.code yJ0_getBytes_840e7 prog_25_method_147_code 4 none ∈ GW := mw_of (i := 842) (by decide +kernel) rfl
theorem mw_775 : Cond.methodLink "java/lang/String" 212 ({ cls := "java/lang/System", name := "arraycopy", desc := "(Ljava/lang/Object;ILjava/lang/Object;II)V" } : MethodName) ∈ GW := mw_of (i := 843) (by decide +kernel) rfl
theorem mw_776 : Cond.methodLink "java/lang/String" 106 yJ1_inflate_0e8fd ∈ GW := mw_of (i := 844) (by decide +kernel) rfl
theorem mw_777 : Cond.methodLink "java/lang/StringIndexOutOfBoundsException" 19 yJ4_append_bf812 ∈ GW := mw_of (i := 845) (by decide +kernel) rfl
theorem mw_778 : Cond.instanceMethod yJ4_append_bf812 ∈ GW := mw_of (i := 846) (by decide +kernel) rfl
theorem mw_779 : Cond.selects "java/lang/StringBuilder" yJ4_append_bf812 yJ4_append_bf812 ∈ GW := mw_of (i := 847) (by decide +kernel) rfl
theorem mw_780 : Cond.code yJ4_append_bf812 prog_26_method_15_code 2 (some (FieldType.object "java/lang/StringBuilder")) ∈ GW := mw_of (i := 848) (by decide +kernel) rfl
theorem mw_781 : Cond.methodLink "java/lang/StringBuilder" 53 yJ5_append_c97b9 ∈ GW := mw_of (i := 849) (by decide +kernel) rfl
theorem mw_782 : Cond.instanceMethod yJ5_append_c97b9 ∈ GW := mw_of (i := 850) (by decide +kernel) rfl
theorem mw_783 : Cond.code yJ5_append_c97b9 prog_10_method_32_code 4 (some (FieldType.object "java/lang/AbstractStringBuilder")) ∈ GW := mw_of (i := 851) (by decide +kernel) rfl
theorem mw_784 : Cond.methodLink "java/lang/AbstractStringBuilder" 245 yJ6_stringSize_0f7a4 ∈ GW := mw_of (i := 852) (by decide +kernel) rfl
theorem mw_785 : Cond.static yJ6_stringSize_0f7a4 ∈ GW := mw_of (i := 853) (by decide +kernel) rfl
theorem mw_786 : Cond.code yJ6_stringSize_0f7a4 prog_21_method_13_code 4 (some .int) ∈ GW := mw_of (i := 854) (by decide +kernel) rfl
theorem mw_787 : Cond.methodLink "java/lang/AbstractStringBuilder" 248 yJ6_getChars_ba4f3 ∈ GW := mw_of (i := 855) (by decide +kernel) rfl
theorem mw_788 : Cond.static yJ6_getChars_ba4f3 ∈ GW := mw_of (i := 856) (by decide +kernel) rfl
theorem mw_789 : Cond.code yJ6_getChars_ba4f3 prog_21_method_12_code 7 (some .int) ∈ GW := mw_of (i := 857) (by decide +kernel) rfl
theorem mw_790 : Cond.fieldLink "java/lang/Integer" 83 "java/lang/Integer" "DigitOnes" "[B" ∈ GW := mw_of (i := 858) (by decide +kernel) rfl
theorem mw_792 : Cond.fieldLink "java/lang/Integer" 87 "java/lang/Integer" "DigitTens" "[B" ∈ GW := mw_of (i := 860) (by decide +kernel) rfl
theorem mw_794 : Cond.methodLink "java/lang/AbstractStringBuilder" 251 yJ2_getChars_46870 ∈ GW := mw_of (i := 862) (by decide +kernel) rfl
theorem mw_795 : Cond.static yJ2_getChars_46870 ∈ GW := mw_of (i := 863) (by decide +kernel) rfl
theorem mw_796 : Cond.code yJ2_getChars_46870 prog_29_method_77_code 5 (some .int) ∈ GW := mw_of (i := 864) (by decide +kernel) rfl
theorem mw_797 : Cond.methodLink "java/lang/StringUTF16" 393 yJ2_getChars_ba4f3 ∈ GW := mw_of (i := 865) (by decide +kernel) rfl
theorem mw_798 : Cond.static yJ2_getChars_ba4f3 ∈ GW := mw_of (i := 866) (by decide +kernel) rfl
theorem mw_799 : Cond.code yJ2_getChars_ba4f3 prog_29_method_89_code 7 (some .int) ∈ GW := mw_of (i := 867) (by decide +kernel) rfl
theorem mw_800 : Cond.fieldLink "java/lang/StringUTF16" 403 "java/lang/Integer" "DigitOnes" "[B" ∈ GW := mw_of (i := 868) (by decide +kernel) rfl
theorem mw_801 : Cond.fieldLink "java/lang/StringUTF16" 407 "java/lang/Integer" "DigitTens" "[B" ∈ GW := mw_of (i := 869) (by decide +kernel) rfl
theorem mw_802 : Cond.methodLink "java/lang/StringIndexOutOfBoundsException" 22 yJ4_toString_0e30d ∈ GW := mw_of (i := 870) (by decide +kernel) rfl
theorem mw_803 : Cond.instanceMethod yJ4_toString_0e30d ∈ GW := mw_of (i := 871) (by decide +kernel) rfl
theorem mw_804 : Cond.selects "java/lang/StringBuilder" yJ4_toString_0e30d yJ4_toString_0e30d ∈ GW := mw_of (i := 872) (by decide +kernel) rfl
theorem mw_805 : Cond.code yJ4_toString_0e30d prog_26_method_42_code 1 (some (FieldType.object "java/lang/String")) ∈ GW := mw_of (i := 873) (by decide +kernel) rfl
theorem mw_806 : Cond.classLink "java/lang/StringBuilder" 18 "java/lang/String" ∈ GW := mw_of (i := 874) (by decide +kernel) rfl
theorem mw_807 : Cond.methodLink "java/lang/StringBuilder" 137 yJ0_init_81219 ∈ GW := mw_of (i := 875) (by decide +kernel) rfl
theorem mw_808 : Cond.instanceMethod yJ0_init_81219 ∈ GW := mw_of (i := 876) (by decide +kernel) rfl
theorem mw_809 : Cond.code yJ0_init_81219 prog_25_method_53_code 2 none ∈ GW := mw_of (i := 877) (by decide +kernel) rfl
theorem mw_810 : Cond.methodLink "java/lang/String" 489 yJ0_init_db425 ∈ GW := mw_of (i := 878) (by decide +kernel) rfl
theorem mw_811 : Cond.instanceMethod yJ0_init_db425 ∈ GW := mw_of (i := 879) (by decide +kernel) rfl
theorem mw_812 : Cond.code yJ0_init_db425 prog_25_method_150_code 5 none ∈ GW := mw_of (i := 880) (by decide +kernel) rfl
theorem mw_813 : Cond.methodLink "java/lang/String" 1 Lib.objectInit ∈ GW := mw_of (i := 881) (by decide +kernel) rfl
theorem mw_814 : Cond.methodLink "java/lang/String" 552 yJ5_getValue_6d5f1 ∈ GW := mw_of (i := 882) (by decide +kernel) rfl
theorem mw_815 : Cond.instanceMethod yJ5_getValue_6d5f1 ∈ GW := mw_of (i := 883) (by decide +kernel) rfl
theorem mw_816 : Cond.sameMethod "java/lang/AbstractStringBuilder" "java/lang/AbstractStringBuilder" "getValue" "()[B" ∈ GW := mw_of (i := 884) (by decide +kernel) rfl
theorem mw_817 : Cond.selects "java/lang/StringBuilder" yJ5_getValue_6d5f1 yJ5_getValue_6d5f1 ∈ GW := mw_of (i := 885) (by decide +kernel) rfl
theorem mw_818 : Cond.code yJ5_getValue_6d5f1 prog_10_method_64_code 1 (some (FieldType.array FieldType.byte)) ∈ GW := mw_of (i := 886) (by decide +kernel) rfl
theorem mw_819 : Cond.methodLink "java/lang/String" 549 yJ5_length_8abf5 ∈ GW := mw_of (i := 887) (by decide +kernel) rfl
theorem mw_820 : Cond.methodLink "java/lang/String" 1047 yJ5_isLatin1_aae02 ∈ GW := mw_of (i := 888) (by decide +kernel) rfl
theorem mw_821 : Cond.methodLink "java/lang/String" 54 yJ7_copyOfRange_39247 ∈ GW := mw_of (i := 889) (by decide +kernel) rfl
theorem mw_822 : Cond.static yJ7_copyOfRange_39247 ∈ GW := mw_of (i := 890) (by decide +kernel) rfl
theorem mw_823 : Cond.code yJ7_copyOfRange_39247 prog_35_method_132_code 3 (some (FieldType.array FieldType.byte)) ∈ GW := mw_of (i := 891) (by decide +kernel) rfl
theorem mw_824 : Cond.methodLink "java/util/Arrays" 339 yJ7_copyOfRangeByte_39247 ∈ GW := mw_of (i := 892) (by decide +kernel) rfl
theorem mw_825 : Cond.static yJ7_copyOfRangeByte_39247 ∈ GW := mw_of (i := 893) (by decide +kernel) rfl
theorem mw_826 : Cond.code yJ7_copyOfRangeByte_39247 prog_35_method_133_code 5 (some (FieldType.array FieldType.byte)) ∈ GW := mw_of (i := 894) (by decide +kernel) rfl
theorem mw_827 : Cond.methodLink "java/util/Arrays" 343 yJ7_checkLength_df160 ∈ GW := mw_of (i := 895) (by decide +kernel) rfl
theorem mw_828 : Cond.static yJ7_checkLength_df160 ∈ GW := mw_of (i := 896) (by decide +kernel) rfl
theorem mw_829 : Cond.code yJ7_checkLength_df160 prog_35_method_131_code 2 none ∈ GW := mw_of (i := 897) (by decide +kernel) rfl
theorem mw_830 : Cond.classLink "java/util/Arrays" 43 "java/lang/IllegalArgumentException" ∈ GW := mw_of (i := 898) (by decide +kernel) rfl
theorem mw_831 : Cond.classLink "java/util/Arrays" 45 "java/lang/StringBuilder" ∈ GW := mw_of (i := 899) (by decide +kernel) rfl
theorem mw_832 : Cond.methodLink "java/util/Arrays" 47 yJ4_init_da8c8 ∈ GW := mw_of (i := 900) (by decide +kernel) rfl
theorem mw_833 : Cond.methodLink "java/util/Arrays" 54 yJ4_append_bf812 ∈ GW := mw_of (i := 901) (by decide +kernel) rfl
theorem mw_835 : Cond.methodLink "java/util/Arrays" 50 yJ4_append_15ec4 ∈ GW := mw_of (i := 903) (by decide +kernel) rfl
theorem mw_836 : Cond.methodLink "java/util/Arrays" 61 yJ4_toString_0e30d ∈ GW := mw_of (i := 904) (by decide +kernel) rfl
theorem mw_837 : Cond.methodLink "java/util/Arrays" 65 ({ cls := "java/lang/IllegalArgumentException", name := "<init>", desc := "(Ljava/lang/String;)V" } : MethodName) ∈ GW := mw_of (i := 905) (by decide +kernel) rfl
theorem mw_838 : Cond.instanceMethod ({ cls := "java/lang/IllegalArgumentException", name := "<init>", desc := "(Ljava/lang/String;)V" } : MethodName) ∈ GW := mw_of (i := 906) (by decide +kernel) rfl
theorem mw_839 : Cond.code ({ cls := "java/lang/IllegalArgumentException", name := "<init>", desc := "(Ljava/lang/String;)V" } : MethodName) prog_18_method_2_code 2 none ∈ GW := mw_of (i := 907) (by decide +kernel) rfl
theorem mw_840 : Cond.methodLink "java/lang/IllegalArgumentException" 7 ({ cls := "java/lang/RuntimeException", name := "<init>", desc := "(Ljava/lang/String;)V" } : MethodName) ∈ GW := mw_of (i := 908) (by decide +kernel) rfl
theorem mw_841 : Cond.methodLink "java/lang/String" 1051 yJ2_compress_39247 ∈ GW := mw_of (i := 909) (by decide +kernel) rfl
theorem mw_842 : Cond.static yJ2_compress_39247 ∈ GW := mw_of (i := 910) (by decide +kernel) rfl
theorem mw_843 : Cond.code yJ2_compress_39247 prog_29_method_17_code 6 (some (FieldType.array FieldType.byte)) ∈ GW := mw_of (i := 911) (by decide +kernel) rfl
theorem mw_844 : Cond.methodLink "java/lang/StringUTF16" 123 yJ2_compress_5af95 ∈ GW := mw_of (i := 912) (by decide +kernel) rfl
theorem mw_845 : Cond.static yJ2_compress_5af95 ∈ GW := mw_of (i := 913) (by decide +kernel) rfl
theorem mw_846 : Cond.code yJ2_compress_5af95 prog_29_method_22_code 7 (some .int) ∈ GW := mw_of (i := 914) (by decide +kernel) rfl
theorem mw_847 : Cond.methodLink "java/lang/StringUTF16" 71 yJ2_getChar_3b067 ∈ GW := mw_of (i := 915) (by decide +kernel) rfl
theorem mw_848 : Cond.methodLink "java/lang/StringUTF16" 126 yJ7_copyOfRange_39247 ∈ GW := mw_of (i := 916) (by decide +kernel) rfl
theorem mw_849 : Cond.methodLink "java/lang/String" 47 yJ2_coderFromArrayLen_85cad ∈ GW := mw_of (i := 917) (by decide +kernel) rfl
theorem mw_850 : Cond.static yJ2_coderFromArrayLen_85cad ∈ GW := mw_of (i := 918) (by decide +kernel) rfl
theorem mw_851 : Cond.code yJ2_coderFromArrayLen_85cad prog_29_method_15_code 2 (some .byte) ∈ GW := mw_of (i := 919) (by decide +kernel) rfl
theorem mw_852 : Cond.fieldLink "java/lang/String" 9 "java/lang/String" "value" "[B" ∈ GW := mw_of (i := 920) (by decide +kernel) rfl
theorem mw_853 : Cond.fieldLink "java/lang/String" 15 "java/lang/String" "coder" "B" ∈ GW := mw_of (i := 921) (by decide +kernel) rfl
theorem mw_858 : Cond.superclass "java/lang/String" "java/lang/Object" ∈ GW := mw_of (i := 926) (by decide +kernel) rfl
theorem mw_859 : Cond.methodLink "java/lang/StringIndexOutOfBoundsException" 7 ({ cls := "java/lang/IndexOutOfBoundsException", name := "<init>", desc := "(Ljava/lang/String;)V" } : MethodName) ∈ GW := mw_of (i := 927) (by decide +kernel) rfl
theorem mw_866 : Cond.superclass "java/lang/StringIndexOutOfBoundsException" "java/lang/IndexOutOfBoundsException" ∈ GW := mw_of (i := 934) (by decide +kernel) rfl
theorem mw_867 : Cond.methodLink "java/lang/AbstractStringBuilder" 133 yJ1_fillNull_b72d1 ∈ GW := mw_of (i := 935) (by decide +kernel) rfl
theorem mw_868 : Cond.static yJ1_fillNull_b72d1 ∈ GW := mw_of (i := 936) (by decide +kernel) rfl
theorem mw_869 : Cond.code yJ1_fillNull_b72d1 prog_28_method_48_code 3 none ∈ GW := mw_of (i := 937) (by decide +kernel) rfl
theorem mw_870 : Cond.methodLink "java/lang/StringLatin1" 236 yJ7_fill_eb02e ∈ GW := mw_of (i := 938) (by decide +kernel) rfl
theorem mw_871 : Cond.static yJ7_fill_eb02e ∈ GW := mw_of (i := 939) (by decide +kernel) rfl
theorem mw_872 : Cond.code yJ7_fill_eb02e prog_35_method_110_code 5 none ∈ GW := mw_of (i := 940) (by decide +kernel) rfl
theorem mw_873 : Cond.methodLink "java/util/Arrays" 13 yJ7_rangeCheck_23922 ∈ GW := mw_of (i := 941) (by decide +kernel) rfl
theorem mw_874 : Cond.static yJ7_rangeCheck_23922 ∈ GW := mw_of (i := 942) (by decide +kernel) rfl
theorem mw_875 : Cond.code yJ7_rangeCheck_23922 prog_35_method_30_code 3 none ∈ GW := mw_of (i := 943) (by decide +kernel) rfl
theorem mw_879 : Cond.classLink "java/util/Arrays" 68 "java/lang/ArrayIndexOutOfBoundsException" ∈ GW := mw_of (i := 947) (by decide +kernel) rfl
theorem mw_880 : Cond.methodLink "java/util/Arrays" 70 yJx00060_init_d00df ∈ GW := mw_of (i := 948) (by decide +kernel) rfl
theorem mw_881 : Cond.instanceMethod yJx00060_init_d00df ∈ GW := mw_of (i := 949) (by decide +kernel) rfl
theorem mw_882 : Cond.code yJx00060_init_d00df prog_13_method_3_code 2 none ∈ GW := mw_of (i := 950) (by decide +kernel) rfl
theorem mw_883 : Cond.classLink "java/lang/ArrayIndexOutOfBoundsException" 10 "java/lang/StringBuilder" ∈ GW := mw_of (i := 951) (by decide +kernel) rfl
theorem mw_884 : Cond.methodLink "java/lang/ArrayIndexOutOfBoundsException" 12 yJ4_init_da8c8 ∈ GW := mw_of (i := 952) (by decide +kernel) rfl
theorem mw_886 : Cond.methodLink "java/lang/ArrayIndexOutOfBoundsException" 15 yJ4_append_15ec4 ∈ GW := mw_of (i := 954) (by decide +kernel) rfl
theorem mw_887 : Cond.methodLink "java/lang/ArrayIndexOutOfBoundsException" 19 yJ4_append_bf812 ∈ GW := mw_of (i := 955) (by decide +kernel) rfl
theorem mw_888 : Cond.methodLink "java/lang/ArrayIndexOutOfBoundsException" 22 yJ4_toString_0e30d ∈ GW := mw_of (i := 956) (by decide +kernel) rfl
theorem mw_889 : Cond.methodLink "java/lang/AbstractStringBuilder" 137 yJ2_fillNull_b72d1 ∈ GW := mw_of (i := 957) (by decide +kernel) rfl
theorem mw_890 : Cond.static yJ2_fillNull_b72d1 ∈ GW := mw_of (i := 958) (by decide +kernel) rfl
theorem mw_891 : Cond.code yJ2_fillNull_b72d1 prog_29_method_70_code 3 none ∈ GW := mw_of (i := 959) (by decide +kernel) rfl
theorem mw_892 : Cond.methodLink "java/lang/StringUTF16" 380 yJ7_fill_eb02e ∈ GW := mw_of (i := 960) (by decide +kernel) rfl
theorem mw_893 : Cond.methodLink "EveningLedger" 302 yX5_carryOut ∈ GW := mw_of (i := 961) (by decide +kernel) rfl
theorem mw_895 : Cond.instanceMethod yX5_carryOut ∈ GW := mw_of (i := 963) (by decide +kernel) rfl
theorem mw_896 : Cond.code yX5_carryOut prog_1_method_52_code 3 (some .int) ∈ GW := mw_of (i := 964) (by decide +kernel) rfl
theorem nw_897 : Cond.methodLinkNest "EveningLedger" 333 yX3_startAgain "EveningLedger" ∈ NW := nw_of (i := 965) (by decide +kernel) rfl
theorem nw_898 : Cond.methodLinkNest "EveningLedger" 336 yX3_takeCommand "EveningLedger" ∈ NW := nw_of (i := 966) (by decide +kernel) rfl
theorem mw_899 : Cond.methodLink "EveningLedger" 340 yX5_tellsWhatIs ∈ GW := mw_of (i := 967) (by decide +kernel) rfl
theorem mw_901 : Cond.instanceMethod yX5_tellsWhatIs ∈ GW := mw_of (i := 969) (by decide +kernel) rfl
theorem mw_902 : Cond.code yX5_tellsWhatIs prog_1_method_53_code 1 (some .boolean) ∈ GW := mw_of (i := 970) (by decide +kernel) rfl
theorem mw_903 : Cond.methodLink "EveningLedger" 343 yX5_commandIsRefused ∈ GW := mw_of (i := 971) (by decide +kernel) rfl
theorem mw_905 : Cond.instanceMethod yX5_commandIsRefused ∈ GW := mw_of (i := 973) (by decide +kernel) rfl
theorem mw_906 : Cond.code yX5_commandIsRefused prog_1_method_54_code 1 (some .boolean) ∈ GW := mw_of (i := 974) (by decide +kernel) rfl
theorem nw_907 : Cond.methodLinkNest "EveningLedger" 73 yX2_stopsWriting "EveningLedger" ∈ NW := nw_of (i := 975) (by decide +kernel) rfl
theorem mw_909 : Cond.instanceMethod yX2_stopsWriting ∈ GW := mw_of (i := 977) (by decide +kernel) rfl
theorem mw_910 : Cond.code yX2_stopsWriting prog_4_method_3_code 5 (some .boolean) ∈ GW := mw_of (i := 978) (by decide +kernel) rfl
theorem nw_911 : Cond.methodLinkNest "EveningLedger" 125 yX2_stopsAtEmpty "EveningLedger" ∈ NW := nw_of (i := 979) (by decide +kernel) rfl
theorem mw_912 : Cond.methodLink "EveningLedger" 346 yX5_doCommand ∈ GW := mw_of (i := 980) (by decide +kernel) rfl
theorem mw_914 : Cond.instanceMethod yX5_doCommand ∈ GW := mw_of (i := 982) (by decide +kernel) rfl
theorem mw_915 : Cond.code yX5_doCommand prog_1_method_55_code 1 none ∈ GW := mw_of (i := 983) (by decide +kernel) rfl
theorem nw_916 : Cond.methodLinkNest "EveningLedger" 128 yX0_strikeOut "EveningLedger" ∈ NW := nw_of (i := 984) (by decide +kernel) rfl
theorem nw_917 : Cond.methodLinkNest "EveningLedger" 349 yX3_takeSign "EveningLedger" ∈ NW := nw_of (i := 985) (by decide +kernel) rfl
theorem mw_918 : Cond.classLink "EveningLedger" 287 "java/lang/IllegalStateException" ∈ GW := mw_of (i := 986) (by decide +kernel) rfl
theorem mw_919 : Cond.instantiable "java/lang/IllegalStateException" 6 ∈ GW := mw_of (i := 987) (by decide +kernel) rfl
theorem nw_920 : Cond.castable "java/lang/IllegalStateException" "java/lang/IllegalStateException" ∈ NW := nw_of (i := 988) (by decide +kernel) rfl
theorem mw_921 : Cond.selects "java/lang/IllegalStateException" ({ cls := "java/lang/Throwable", name := "fillInStackTrace", desc := "(I)Ljava/lang/Throwable;" } : MethodName) ({ cls := "java/lang/Throwable", name := "fillInStackTrace", desc := "(I)Ljava/lang/Throwable;" } : MethodName) ∈ GW := mw_of (i := 989) (by decide +kernel) rfl
theorem mw_927 : Cond.methodLink "EveningLedger" 289 ({ cls := "java/lang/IllegalStateException", name := "<init>", desc := "()V" } : MethodName) ∈ GW := mw_of (i := 995) (by decide +kernel) rfl
theorem mw_928 : Cond.instanceMethod ({ cls := "java/lang/IllegalStateException", name := "<init>", desc := "()V" } : MethodName) ∈ GW := mw_of (i := 996) (by decide +kernel) rfl
theorem mw_929 : Cond.code ({ cls := "java/lang/IllegalStateException", name := "<init>", desc := "()V" } : MethodName) prog_19_method_1_code 1 none ∈ GW := mw_of (i := 997) (by decide +kernel) rfl
theorem mw_930 : Cond.methodLink "java/lang/IllegalStateException" 1 ({ cls := "java/lang/RuntimeException", name := "<init>", desc := "()V" } : MethodName) ∈ GW := mw_of (i := 998) (by decide +kernel) rfl
theorem mw_932 : Cond.superclass "java/lang/IllegalStateException" "java/lang/RuntimeException" ∈ GW := mw_of (i := 1000) (by decide +kernel) rfl
theorem mw_933 : Cond.methodLink "EveningLedgerLaw" 145 yL_undo ∈ GW := mw_of (i := 1001) (by decide +kernel) rfl
theorem mw_934 : Cond.static yL_undo ∈ GW := mw_of (i := 1002) (by decide +kernel) rfl
theorem mw_935 : Cond.codeWith yL_undo method_19_code 3 (some .int) [(3, 8, 11, 52)] ∈ GW := mw_of (i := 1003) (by decide +kernel) rfl
theorem mw_936 : Cond.classLink "EveningLedgerLaw" 52 "java/util/NoSuchElementException" ∈ GW := mw_of (i := 1004) (by decide +kernel) rfl
theorem mw_937 : Cond.methodLink "EveningLedgerLaw" 86 yX5_undo ∈ GW := mw_of (i := 1005) (by decide +kernel) rfl
theorem mw_938 : Cond.instanceMethod yX5_undo ∈ GW := mw_of (i := 1006) (by decide +kernel) rfl
theorem mw_939 : Cond.selects "EveningLedger" yX5_undo yX5_undo ∈ GW := mw_of (i := 1007) (by decide +kernel) rfl
theorem mw_940 : Cond.code yX5_undo prog_1_method_34_code 1 (some .int) ∈ GW := mw_of (i := 1008) (by decide +kernel) rfl
theorem mw_941 : Cond.methodLink "EveningLedger" 144 yX5_needElement ∈ GW := mw_of (i := 1009) (by decide +kernel) rfl
theorem mw_942 : Cond.static yX5_needElement ∈ GW := mw_of (i := 1010) (by decide +kernel) rfl
theorem mw_943 : Cond.code yX5_needElement prog_1_method_45_code 1 none ∈ GW := mw_of (i := 1011) (by decide +kernel) rfl
theorem mw_944 : Cond.classLink "EveningLedger" 317 "java/util/NoSuchElementException" ∈ GW := mw_of (i := 1012) (by decide +kernel) rfl
theorem mw_945 : Cond.instantiable "java/util/NoSuchElementException" 6 ∈ GW := mw_of (i := 1013) (by decide +kernel) rfl
theorem nw_946 : Cond.castable "java/util/NoSuchElementException" "java/util/NoSuchElementException" ∈ NW := nw_of (i := 1014) (by decide +kernel) rfl
theorem mw_947 : Cond.selects "java/util/NoSuchElementException" ({ cls := "java/lang/Throwable", name := "fillInStackTrace", desc := "(I)Ljava/lang/Throwable;" } : MethodName) ({ cls := "java/lang/Throwable", name := "fillInStackTrace", desc := "(I)Ljava/lang/Throwable;" } : MethodName) ∈ GW := mw_of (i := 1015) (by decide +kernel) rfl
theorem mw_953 : Cond.methodLink "EveningLedger" 319 ({ cls := "java/util/NoSuchElementException", name := "<init>", desc := "()V" } : MethodName) ∈ GW := mw_of (i := 1021) (by decide +kernel) rfl
theorem mw_954 : Cond.instanceMethod ({ cls := "java/util/NoSuchElementException", name := "<init>", desc := "()V" } : MethodName) ∈ GW := mw_of (i := 1022) (by decide +kernel) rfl
theorem mw_955 : Cond.code ({ cls := "java/util/NoSuchElementException", name := "<init>", desc := "()V" } : MethodName) prog_36_method_1_code 1 none ∈ GW := mw_of (i := 1023) (by decide +kernel) rfl
theorem mw_956 : Cond.methodLink "java/util/NoSuchElementException" 1 ({ cls := "java/lang/RuntimeException", name := "<init>", desc := "()V" } : MethodName) ∈ GW := mw_of (i := 1024) (by decide +kernel) rfl
theorem mw_958 : Cond.superclass "java/util/NoSuchElementException" "java/lang/RuntimeException" ∈ GW := mw_of (i := 1026) (by decide +kernel) rfl
theorem nw_959 : Cond.methodLinkNest "EveningLedger" 311 yX1_giveBack "EveningLedger" ∈ NW := nw_of (i := 1027) (by decide +kernel) rfl
theorem mw_961 : Cond.instanceMethod yX1_giveBack ∈ GW := mw_of (i := 1029) (by decide +kernel) rfl
theorem mw_962 : Cond.code yX1_giveBack prog_3_method_3_code 3 none ∈ GW := mw_of (i := 1030) (by decide +kernel) rfl
theorem mw_963 : Cond.methodLink "EveningLedgerLaw" 143 yL_restore ∈ GW := mw_of (i := 1031) (by decide +kernel) rfl
theorem mw_964 : Cond.static yL_restore ∈ GW := mw_of (i := 1032) (by decide +kernel) rfl
theorem mw_965 : Cond.codeWith yL_restore method_20_code 3 (some .int) [(3, 8, 11, 84)] ∈ GW := mw_of (i := 1033) (by decide +kernel) rfl
theorem mw_966 : Cond.methodLink "EveningLedgerLaw" 89 yX5_restore ∈ GW := mw_of (i := 1034) (by decide +kernel) rfl
theorem mw_967 : Cond.instanceMethod yX5_restore ∈ GW := mw_of (i := 1035) (by decide +kernel) rfl
theorem mw_968 : Cond.selects "EveningLedger" yX5_restore yX5_restore ∈ GW := mw_of (i := 1036) (by decide +kernel) rfl
theorem mw_969 : Cond.code yX5_restore prog_1_method_36_code 1 (some .int) ∈ GW := mw_of (i := 1037) (by decide +kernel) rfl
theorem mw_970 : Cond.methodLink "EveningLedgerLaw" 134 yL_feed ∈ GW := mw_of (i := 1038) (by decide +kernel) rfl
theorem mw_971 : Cond.static yL_feed ∈ GW := mw_of (i := 1039) (by decide +kernel) rfl
theorem mw_972 : Cond.code yL_feed method_22_code 3 (some (FieldType.object "EveningLedger")) ∈ GW := mw_of (i := 1040) (by decide +kernel) rfl
theorem mw_973 : Cond.methodLink "EveningLedgerLaw" 95 yJ0_length_8abf5 ∈ GW := mw_of (i := 1041) (by decide +kernel) rfl
theorem mw_974 : Cond.methodLink "EveningLedgerLaw" 100 yJ0_charAt_5068e ∈ GW := mw_of (i := 1042) (by decide +kernel) rfl
theorem mw_975 : Cond.instanceMethod yJ0_charAt_5068e ∈ GW := mw_of (i := 1043) (by decide +kernel) rfl
theorem mw_976 : Cond.selects "java/lang/String" yJ0_charAt_5068e yJ0_charAt_5068e ∈ GW := mw_of (i := 1044) (by decide +kernel) rfl
theorem mw_977 : Cond.code yJ0_charAt_5068e prog_25_method_56_code 2 (some .char) ∈ GW := mw_of (i := 1045) (by decide +kernel) rfl
theorem mw_978 : Cond.methodLink "java/lang/String" 492 yJ0_isLatin1_aae02 ∈ GW := mw_of (i := 1046) (by decide +kernel) rfl
theorem mw_979 : Cond.instanceMethod yJ0_isLatin1_aae02 ∈ GW := mw_of (i := 1047) (by decide +kernel) rfl
theorem mw_980 : Cond.selects "java/lang/String" yJ0_isLatin1_aae02 yJ0_isLatin1_aae02 ∈ GW := mw_of (i := 1048) (by decide +kernel) rfl
theorem mw_981 : Cond.code yJ0_isLatin1_aae02 prog_25_method_154_code 1 (some .boolean) ∈ GW := mw_of (i := 1049) (by decide +kernel) rfl
theorem mw_982 : Cond.methodLink "java/lang/String" 495 yJ1_charAt_3b067 ∈ GW := mw_of (i := 1050) (by decide +kernel) rfl
theorem mw_983 : Cond.static yJ1_charAt_3b067 ∈ GW := mw_of (i := 1051) (by decide +kernel) rfl
theorem mw_984 : Cond.code yJ1_charAt_3b067 prog_28_method_2_code 2 (some .char) ∈ GW := mw_of (i := 1052) (by decide +kernel) rfl
theorem mw_985 : Cond.methodLink "java/lang/StringLatin1" 9 yJ0_checkIndex_df160 ∈ GW := mw_of (i := 1053) (by decide +kernel) rfl
theorem mw_986 : Cond.methodLink "java/lang/String" 498 yJ2_charAt_3b067 ∈ GW := mw_of (i := 1054) (by decide +kernel) rfl
theorem mw_987 : Cond.static yJ2_charAt_3b067 ∈ GW := mw_of (i := 1055) (by decide +kernel) rfl
theorem mw_988 : Cond.code yJ2_charAt_3b067 prog_29_method_83_code 2 (some .char) ∈ GW := mw_of (i := 1056) (by decide +kernel) rfl
theorem mw_989 : Cond.methodLink "java/lang/StringUTF16" 67 yJ2_checkIndex_2214a ∈ GW := mw_of (i := 1057) (by decide +kernel) rfl
theorem mw_990 : Cond.static yJ2_checkIndex_2214a ∈ GW := mw_of (i := 1058) (by decide +kernel) rfl
theorem mw_991 : Cond.code yJ2_checkIndex_2214a prog_29_method_91_code 2 none ∈ GW := mw_of (i := 1059) (by decide +kernel) rfl
theorem mw_992 : Cond.methodLink "java/lang/StringUTF16" 414 yJ0_checkIndex_df160 ∈ GW := mw_of (i := 1060) (by decide +kernel) rfl
theorem mw_993 : Cond.methodLink "EveningLedgerLaw" 104 yL_put ∈ GW := mw_of (i := 1061) (by decide +kernel) rfl
theorem mw_994 : Cond.static yL_put ∈ GW := mw_of (i := 1062) (by decide +kernel) rfl
theorem mw_995 : Cond.codeWith yL_put method_21_code 3 (some .boolean) [(0, 6, 9, 84)] ∈ GW := mw_of (i := 1063) (by decide +kernel) rfl
theorem mw_996 : Cond.methodLink "EveningLedgerLaw" 92 yX5_append ∈ GW := mw_of (i := 1064) (by decide +kernel) rfl
theorem mw_997 : Cond.instanceMethod yX5_append ∈ GW := mw_of (i := 1065) (by decide +kernel) rfl
theorem mw_998 : Cond.selects "EveningLedger" yX5_append yX5_append ∈ GW := mw_of (i := 1066) (by decide +kernel) rfl
theorem mw_999 : Cond.code yX5_append prog_1_method_30_code 2 (some .int) ∈ GW := mw_of (i := 1067) (by decide +kernel) rfl
theorem mw_1000 : Cond.methodLink "EveningLedger" 247 yJ4_length_8abf5 ∈ GW := mw_of (i := 1068) (by decide +kernel) rfl
theorem mw_1001 : Cond.methodLink "EveningLedger" 240 yJ4_append_cf468 ∈ GW := mw_of (i := 1069) (by decide +kernel) rfl
theorem mw_1002 : Cond.instanceMethod yJ4_append_cf468 ∈ GW := mw_of (i := 1070) (by decide +kernel) rfl
theorem mw_1003 : Cond.selects "java/lang/StringBuilder" yJ4_append_cf468 yJ4_append_cf468 ∈ GW := mw_of (i := 1071) (by decide +kernel) rfl
theorem mw_1004 : Cond.code yJ4_append_cf468 prog_26_method_14_code 2 (some (FieldType.object "java/lang/StringBuilder")) ∈ GW := mw_of (i := 1072) (by decide +kernel) rfl
theorem mw_1005 : Cond.methodLink "java/lang/StringBuilder" 50 yJ5_append_3fe6f ∈ GW := mw_of (i := 1073) (by decide +kernel) rfl
theorem mw_1006 : Cond.instanceMethod yJ5_append_3fe6f ∈ GW := mw_of (i := 1074) (by decide +kernel) rfl
theorem mw_1007 : Cond.code yJ5_append_3fe6f prog_10_method_31_code 2 (some (FieldType.object "java/lang/AbstractStringBuilder")) ∈ GW := mw_of (i := 1075) (by decide +kernel) rfl
theorem mw_1008 : Cond.methodLink "java/lang/AbstractStringBuilder" 191 yJ1_canEncode_fc78d ∈ GW := mw_of (i := 1076) (by decide +kernel) rfl
theorem mw_1009 : Cond.static yJ1_canEncode_fc78d ∈ GW := mw_of (i := 1077) (by decide +kernel) rfl
theorem mw_1010 : Cond.code yJ1_canEncode_fc78d prog_28_method_3_code 1 (some .boolean) ∈ GW := mw_of (i := 1078) (by decide +kernel) rfl
theorem mw_1011 : Cond.methodLink "java/lang/AbstractStringBuilder" 197 yJ2_putCharSB_b72d1 ∈ GW := mw_of (i := 1079) (by decide +kernel) rfl
theorem mw_1012 : Cond.static yJ2_putCharSB_b72d1 ∈ GW := mw_of (i := 1080) (by decide +kernel) rfl
theorem mw_1013 : Cond.code yJ2_putCharSB_b72d1 prog_29_method_71_code 3 none ∈ GW := mw_of (i := 1081) (by decide +kernel) rfl
theorem mw_1014 : Cond.methodLink "EveningLedgerLaw" 242 yL_act ∈ GW := mw_of (i := 1082) (by decide +kernel) rfl
theorem mw_1015 : Cond.static yL_act ∈ GW := mw_of (i := 1083) (by decide +kernel) rfl
theorem mw_1016 : Cond.code yL_act method_23_code 7 (some .int) ∈ GW := mw_of (i := 1084) (by decide +kernel) rfl
theorem mw_1017 : Cond.methodLink "EveningLedgerLaw" 108 yL_write ∈ GW := mw_of (i := 1085) (by decide +kernel) rfl
theorem mw_1018 : Cond.static yL_write ∈ GW := mw_of (i := 1086) (by decide +kernel) rfl
theorem mw_1019 : Cond.codeWith yL_write method_3_code 7 (some .int) [(4, 15, 18, 17), (4, 15, 23, 19), (4, 15, 28, 21)] ∈ GW := mw_of (i := 1087) (by decide +kernel) rfl
theorem mw_1020 : Cond.methodLink "EveningLedgerLaw" 11 yX5_write ∈ GW := mw_of (i := 1088) (by decide +kernel) rfl
theorem mw_1021 : Cond.instanceMethod yX5_write ∈ GW := mw_of (i := 1089) (by decide +kernel) rfl
theorem mw_1022 : Cond.selects "EveningLedger" yX5_write yX5_write ∈ GW := mw_of (i := 1090) (by decide +kernel) rfl
theorem mw_1023 : Cond.code yX5_write prog_1_method_2_code 5 (some .int) ∈ GW := mw_of (i := 1091) (by decide +kernel) rfl
theorem nw_1024 : Cond.methodLinkNest "EveningLedger" 92 yX0_entriesOn "EveningLedger" ∈ NW := nw_of (i := 1092) (by decide +kernel) rfl
theorem mw_1025 : Cond.methodLink "EveningLedgerLaw" 117 yL_strike ∈ GW := mw_of (i := 1093) (by decide +kernel) rfl
theorem mw_1026 : Cond.static yL_strike ∈ GW := mw_of (i := 1094) (by decide +kernel) rfl
theorem mw_1027 : Cond.codeWith yL_strike method_6_code 5 (some .int) [(3, 10, 13, 17), (3, 10, 18, 21)] ∈ GW := mw_of (i := 1095) (by decide +kernel) rfl
theorem mw_1028 : Cond.methodLink "EveningLedgerLaw" 31 yX5_strike ∈ GW := mw_of (i := 1096) (by decide +kernel) rfl
theorem mw_1029 : Cond.instanceMethod yX5_strike ∈ GW := mw_of (i := 1097) (by decide +kernel) rfl
theorem mw_1030 : Cond.selects "EveningLedger" yX5_strike yX5_strike ∈ GW := mw_of (i := 1098) (by decide +kernel) rfl
theorem mw_1031 : Cond.code yX5_strike prog_1_method_5_code 3 (some .int) ∈ GW := mw_of (i := 1099) (by decide +kernel) rfl
theorem mw_1032 : Cond.methodLink "EveningLedgerLaw" 120 yL_swap ∈ GW := mw_of (i := 1100) (by decide +kernel) rfl
theorem mw_1033 : Cond.static yL_swap ∈ GW := mw_of (i := 1101) (by decide +kernel) rfl
theorem mw_1034 : Cond.codeWith yL_swap method_7_code 6 (some .int) [(4, 13, 16, 17), (4, 13, 21, 21)] ∈ GW := mw_of (i := 1102) (by decide +kernel) rfl
theorem mw_1035 : Cond.methodLink "EveningLedgerLaw" 35 yX5_swap ∈ GW := mw_of (i := 1103) (by decide +kernel) rfl
theorem mw_1036 : Cond.instanceMethod yX5_swap ∈ GW := mw_of (i := 1104) (by decide +kernel) rfl
theorem mw_1037 : Cond.selects "EveningLedger" yX5_swap yX5_swap ∈ GW := mw_of (i := 1105) (by decide +kernel) rfl
theorem mw_1038 : Cond.code yX5_swap prog_1_method_6_code 4 (some .int) ∈ GW := mw_of (i := 1106) (by decide +kernel) rfl
theorem nw_1039 : Cond.methodLinkNest "EveningLedger" 131 yX0_swapEntries "EveningLedger" ∈ NW := nw_of (i := 1107) (by decide +kernel) rfl
theorem mw_1041 : Cond.instanceMethod yX0_swapEntries ∈ GW := mw_of (i := 1109) (by decide +kernel) rfl
theorem mw_1042 : Cond.code yX0_swapEntries prog_2_method_15_code 6 none ∈ GW := mw_of (i := 1110) (by decide +kernel) rfl
theorem mw_1043 : Cond.fieldLink "EveningLedgerLaw" 130 "EveningLedgerLaw" "TEXTS" "[Ljava/lang/String;" ∈ GW := mw_of (i := 1111) (by decide +kernel) rfl
theorem mw_1045 : Cond.methodLink "EveningLedgerLaw" 234 yL_digest ∈ GW := mw_of (i := 1113) (by decide +kernel) rfl
theorem mw_1046 : Cond.static yL_digest ∈ GW := mw_of (i := 1114) (by decide +kernel) rfl
theorem mw_1047 : Cond.code yL_digest method_25_code 4 (some .long) ∈ GW := mw_of (i := 1115) (by decide +kernel) rfl
theorem mw_1048 : Cond.methodLink "EveningLedgerLaw" 160 yL_digestOf ∈ GW := mw_of (i := 1116) (by decide +kernel) rfl
theorem mw_1049 : Cond.static yL_digestOf ∈ GW := mw_of (i := 1117) (by decide +kernel) rfl
theorem mw_1050 : Cond.code yL_digestOf method_24_code 5 (some .long) ∈ GW := mw_of (i := 1118) (by decide +kernel) rfl
theorem mw_1051 : Cond.constantLong "EveningLedgerLaw" 147 (7 : Int64) ∈ GW := mw_of (i := 1119) (by decide +kernel) rfl
theorem mw_1052 : Cond.constantLong "EveningLedgerLaw" 149 (31 : Int64) ∈ GW := mw_of (i := 1120) (by decide +kernel) rfl
theorem mw_1053 : Cond.methodLink "EveningLedgerLaw" 151 yL_personAt ∈ GW := mw_of (i := 1121) (by decide +kernel) rfl
theorem mw_1054 : Cond.static yL_personAt ∈ GW := mw_of (i := 1122) (by decide +kernel) rfl
theorem mw_1055 : Cond.codeWith yL_personAt method_16_code 6 (some .char) [(4, 13, 16, 17), (4, 13, 21, 19), (4, 13, 26, 52)] ∈ GW := mw_of (i := 1123) (by decide +kernel) rfl
theorem mw_1056 : Cond.methodLink "EveningLedgerLaw" 69 yX5_personAt ∈ GW := mw_of (i := 1124) (by decide +kernel) rfl
theorem mw_1057 : Cond.instanceMethod yX5_personAt ∈ GW := mw_of (i := 1125) (by decide +kernel) rfl
theorem mw_1058 : Cond.selects "EveningLedger" yX5_personAt yX5_personAt ∈ GW := mw_of (i := 1126) (by decide +kernel) rfl
theorem mw_1059 : Cond.code yX5_personAt prog_1_method_7_code 5 (some .char) ∈ GW := mw_of (i := 1127) (by decide +kernel) rfl
theorem nw_1060 : Cond.methodLinkNest "EveningLedger" 141 yX0_debtOn "EveningLedger" ∈ NW := nw_of (i := 1128) (by decide +kernel) rfl
theorem nw_1061 : Cond.methodLinkNest "EveningLedger" 147 yX0_personOn "EveningLedger" ∈ NW := nw_of (i := 1129) (by decide +kernel) rfl
theorem mw_1062 : Cond.methodLink "EveningLedgerLaw" 154 yX5_debtAt ∈ GW := mw_of (i := 1130) (by decide +kernel) rfl
theorem mw_1063 : Cond.instanceMethod yX5_debtAt ∈ GW := mw_of (i := 1131) (by decide +kernel) rfl
theorem mw_1064 : Cond.selects "EveningLedger" yX5_debtAt yX5_debtAt ∈ GW := mw_of (i := 1132) (by decide +kernel) rfl
theorem mw_1065 : Cond.code yX5_debtAt prog_1_method_8_code 5 (some .int) ∈ GW := mw_of (i := 1133) (by decide +kernel) rfl
theorem mw_1066 : Cond.methodLink "EveningLedgerLaw" 157 yX5_pageOf ∈ GW := mw_of (i := 1134) (by decide +kernel) rfl
theorem mw_1067 : Cond.instanceMethod yX5_pageOf ∈ GW := mw_of (i := 1135) (by decide +kernel) rfl
theorem mw_1068 : Cond.selects "EveningLedger" yX5_pageOf yX5_pageOf ∈ GW := mw_of (i := 1136) (by decide +kernel) rfl
theorem mw_1069 : Cond.code yX5_pageOf prog_1_method_9_code 5 (some .int) ∈ GW := mw_of (i := 1137) (by decide +kernel) rfl
theorem nw_1070 : Cond.methodLinkNest "EveningLedger" 151 yX0_sumOn "EveningLedger" ∈ NW := nw_of (i := 1138) (by decide +kernel) rfl
theorem mw_1072 : Cond.instanceMethod yX0_sumOn ∈ GW := mw_of (i := 1140) (by decide +kernel) rfl
theorem mw_1073 : Cond.code yX0_sumOn prog_2_method_23_code 5 (some .int) ∈ GW := mw_of (i := 1141) (by decide +kernel) rfl
theorem nw_1074 : Cond.methodLinkNest "EveningLedger" 157 yX0_daysWithSheet "EveningLedger" ∈ NW := nw_of (i := 1142) (by decide +kernel) rfl
theorem nw_1075 : Cond.methodLinkNest "EveningLedger" 160 yX0_peopleOn "EveningLedger" ∈ NW := nw_of (i := 1143) (by decide +kernel) rfl
theorem mw_1077 : Cond.instanceMethod yX0_peopleOn ∈ GW := mw_of (i := 1145) (by decide +kernel) rfl
theorem mw_1078 : Cond.code yX0_peopleOn prog_2_method_24_code 5 (some .int) ∈ GW := mw_of (i := 1146) (by decide +kernel) rfl
theorem mw_1079 : Cond.methodLink "EveningLedger$Book" 83 yJ6_bitCount_0f7a4 ∈ GW := mw_of (i := 1147) (by decide +kernel) rfl
theorem mw_1080 : Cond.static yJ6_bitCount_0f7a4 ∈ GW := mw_of (i := 1148) (by decide +kernel) rfl
theorem mw_1081 : Cond.code yJ6_bitCount_0f7a4 prog_21_method_49_code 1 (some .int) ∈ GW := mw_of (i := 1149) (by decide +kernel) rfl
theorem mw_1082 : Cond.constant "java/lang/Integer" 265 (1431655765 : Int32) ∈ GW := mw_of (i := 1150) (by decide +kernel) rfl
theorem mw_1083 : Cond.constant "java/lang/Integer" 266 (858993459 : Int32) ∈ GW := mw_of (i := 1151) (by decide +kernel) rfl
theorem mw_1084 : Cond.constant "java/lang/Integer" 267 (252645135 : Int32) ∈ GW := mw_of (i := 1152) (by decide +kernel) rfl
theorem mw_1085 : Cond.methodLink "EveningLedgerLaw" 164 yX5_account ∈ GW := mw_of (i := 1153) (by decide +kernel) rfl
theorem mw_1086 : Cond.instanceMethod yX5_account ∈ GW := mw_of (i := 1154) (by decide +kernel) rfl
theorem mw_1087 : Cond.selects "EveningLedger" yX5_account yX5_account ∈ GW := mw_of (i := 1155) (by decide +kernel) rfl
theorem mw_1088 : Cond.code yX5_account prog_1_method_29_code 2 (some .int) ∈ GW := mw_of (i := 1156) (by decide +kernel) rfl
theorem nw_1089 : Cond.methodLinkNest "EveningLedger" 266 yX0_sheetsLeft "EveningLedger" ∈ NW := nw_of (i := 1157) (by decide +kernel) rfl
theorem mw_1091 : Cond.instanceMethod yX0_sheetsLeft ∈ GW := mw_of (i := 1159) (by decide +kernel) rfl
theorem mw_1092 : Cond.code yX0_sheetsLeft prog_2_method_10_code 4 (some .int) ∈ GW := mw_of (i := 1160) (by decide +kernel) rfl
theorem nw_1093 : Cond.methodLinkNest "EveningLedger" 257 yX0_allEntries "EveningLedger" ∈ NW := nw_of (i := 1161) (by decide +kernel) rfl
theorem mw_1095 : Cond.instanceMethod yX0_allEntries ∈ GW := mw_of (i := 1163) (by decide +kernel) rfl
theorem mw_1096 : Cond.code yX0_allEntries prog_2_method_25_code 4 (some .int) ∈ GW := mw_of (i := 1164) (by decide +kernel) rfl
theorem mw_1097 : Cond.methodLink "EveningLedger$Book" 89 yX0_entriesOn ∈ GW := mw_of (i := 1165) (by decide +kernel) rfl
theorem nw_1098 : Cond.methodLinkNest "EveningLedger" 263 yX0_sumOfAll "EveningLedger" ∈ NW := nw_of (i := 1166) (by decide +kernel) rfl
theorem mw_1100 : Cond.instanceMethod yX0_sumOfAll ∈ GW := mw_of (i := 1168) (by decide +kernel) rfl
theorem mw_1101 : Cond.code yX0_sumOfAll prog_2_method_26_code 4 (some .int) ∈ GW := mw_of (i := 1169) (by decide +kernel) rfl
theorem mw_1102 : Cond.methodLink "EveningLedger$Book" 92 yX0_sumOn ∈ GW := mw_of (i := 1170) (by decide +kernel) rfl
theorem mw_1103 : Cond.methodLink "EveningLedgerLaw" 167 yL_keptAt ∈ GW := mw_of (i := 1171) (by decide +kernel) rfl
theorem mw_1104 : Cond.static yL_keptAt ∈ GW := mw_of (i := 1172) (by decide +kernel) rfl
theorem mw_1105 : Cond.codeWith yL_keptAt method_11_code 4 (some .int) [(4, 10, 13, 52)] ∈ GW := mw_of (i := 1173) (by decide +kernel) rfl
theorem mw_1106 : Cond.methodLink "EveningLedgerLaw" 49 yX5_keptAt ∈ GW := mw_of (i := 1174) (by decide +kernel) rfl
theorem mw_1107 : Cond.instanceMethod yX5_keptAt ∈ GW := mw_of (i := 1175) (by decide +kernel) rfl
theorem mw_1108 : Cond.selects "EveningLedger" yX5_keptAt yX5_keptAt ∈ GW := mw_of (i := 1176) (by decide +kernel) rfl
theorem mw_1109 : Cond.code yX5_keptAt prog_1_method_13_code 2 (some .int) ∈ GW := mw_of (i := 1177) (by decide +kernel) rfl
theorem mw_1110 : Cond.methodLink "EveningLedgerLaw" 248 yL_isKept ∈ GW := mw_of (i := 1178) (by decide +kernel) rfl
theorem mw_1111 : Cond.static yL_isKept ∈ GW := mw_of (i := 1179) (by decide +kernel) rfl
theorem mw_1112 : Cond.code yL_isKept method_31_code 9 (some .boolean) ∈ GW := mw_of (i := 1180) (by decide +kernel) rfl
theorem mw_1113 : Cond.arrayClass FieldType.long ∈ GW := mw_of (i := 1181) (by decide +kernel) rfl
theorem mw_1114 : Cond.methodLink "EveningLedgerLaw" 245 yL_isFit ∈ GW := mw_of (i := 1182) (by decide +kernel) rfl
theorem mw_1115 : Cond.static yL_isFit ∈ GW := mw_of (i := 1183) (by decide +kernel) rfl
theorem mw_1116 : Cond.code yL_isFit method_32_code 1 (some .boolean) ∈ GW := mw_of (i := 1184) (by decide +kernel) rfl
theorem mw_1117 : Cond.methodLink "EveningLedgerLaw" 226 yL_areEvenings ∈ GW := mw_of (i := 1185) (by decide +kernel) rfl
theorem mw_1118 : Cond.static yL_areEvenings ∈ GW := mw_of (i := 1186) (by decide +kernel) rfl
theorem mw_1119 : Cond.code yL_areEvenings method_28_code 10 (some .boolean) ∈ GW := mw_of (i := 1187) (by decide +kernel) rfl
theorem mw_1120 : Cond.methodLink "EveningLedgerLaw" 193 yL_isEvening ∈ GW := mw_of (i := 1188) (by decide +kernel) rfl
theorem mw_1121 : Cond.static yL_isEvening ∈ GW := mw_of (i := 1189) (by decide +kernel) rfl
theorem mw_1122 : Cond.code yL_isEvening method_26_code 10 (some .boolean) ∈ GW := mw_of (i := 1190) (by decide +kernel) rfl
theorem mw_1123 : Cond.methodLink "EveningLedgerLaw" 169 yX5_tell ∈ GW := mw_of (i := 1191) (by decide +kernel) rfl
theorem mw_1124 : Cond.instanceMethod yX5_tell ∈ GW := mw_of (i := 1192) (by decide +kernel) rfl
theorem mw_1125 : Cond.selects "EveningLedger" yX5_tell yX5_tell ∈ GW := mw_of (i := 1193) (by decide +kernel) rfl
theorem mw_1126 : Cond.code yX5_tell prog_1_method_24_code 5 (some .int) ∈ GW := mw_of (i := 1194) (by decide +kernel) rfl
theorem mw_1127 : Cond.methodLink "EveningLedger" 237 yJ4_setLength_d00df ∈ GW := mw_of (i := 1195) (by decide +kernel) rfl
theorem mw_1128 : Cond.methodLink "EveningLedger" 244 yX5_putPlace ∈ GW := mw_of (i := 1196) (by decide +kernel) rfl
theorem mw_1130 : Cond.instanceMethod yX5_putPlace ∈ GW := mw_of (i := 1198) (by decide +kernel) rfl
theorem mw_1131 : Cond.code yX5_putPlace prog_1_method_50_code 5 none ∈ GW := mw_of (i := 1199) (by decide +kernel) rfl
theorem mw_1132 : Cond.methodLink "EveningLedger" 330 yJ4_append_bf812 ∈ GW := mw_of (i := 1200) (by decide +kernel) rfl
theorem mw_1133 : Cond.constantDouble "EveningLedgerLaw" 73 (13885591609694748672 : UInt64) ∈ GW := mw_of (i := 1201) (by decide +kernel) rfl
theorem mw_1134 : Cond.methodLink "EveningLedgerLaw" 172 yL_meanDebt ∈ GW := mw_of (i := 1202) (by decide +kernel) rfl
theorem mw_1135 : Cond.static yL_meanDebt ∈ GW := mw_of (i := 1203) (by decide +kernel) rfl
theorem mw_1136 : Cond.codeWith yL_meanDebt method_17_code 5 (some .double) [(4, 10, 13, 17), (4, 10, 19, 79)] ∈ GW := mw_of (i := 1204) (by decide +kernel) rfl
theorem mw_1137 : Cond.classLink "EveningLedgerLaw" 79 "java/lang/ArithmeticException" ∈ GW := mw_of (i := 1205) (by decide +kernel) rfl
theorem mw_1138 : Cond.instantiable "java/lang/ArithmeticException" 6 ∈ GW := mw_of (i := 1206) (by decide +kernel) rfl
theorem mw_1139 : Cond.instanceMethod ({ cls := "java/lang/ArithmeticException", name := "<init>", desc := "(Ljava/lang/String;)V" } : MethodName) ∈ GW := mw_of (i := 1207) (by decide +kernel) rfl
theorem mw_1140 : Cond.code ({ cls := "java/lang/ArithmeticException", name := "<init>", desc := "(Ljava/lang/String;)V" } : MethodName) prog_12_method_2_code 2 none ∈ GW := mw_of (i := 1208) (by decide +kernel) rfl
theorem mw_1141 : Cond.methodLink "java/lang/ArithmeticException" 7 ({ cls := "java/lang/RuntimeException", name := "<init>", desc := "(Ljava/lang/String;)V" } : MethodName) ∈ GW := mw_of (i := 1209) (by decide +kernel) rfl
theorem mw_1148 : Cond.superclass "java/lang/ArithmeticException" "java/lang/RuntimeException" ∈ GW := mw_of (i := 1216) (by decide +kernel) rfl
theorem nw_1149 : Cond.castable "java/lang/ArithmeticException" "java/lang/ArithmeticException" ∈ NW := nw_of (i := 1217) (by decide +kernel) rfl
theorem mw_1150 : Cond.selects "java/lang/ArithmeticException" ({ cls := "java/lang/Throwable", name := "fillInStackTrace", desc := "(I)Ljava/lang/Throwable;" } : MethodName) ({ cls := "java/lang/Throwable", name := "fillInStackTrace", desc := "(I)Ljava/lang/Throwable;" } : MethodName) ∈ GW := mw_of (i := 1218) (by decide +kernel) rfl
theorem mw_1151 : Cond.methodLink "EveningLedgerLaw" 75 yX5_meanDebt ∈ GW := mw_of (i := 1219) (by decide +kernel) rfl
theorem mw_1152 : Cond.instanceMethod yX5_meanDebt ∈ GW := mw_of (i := 1220) (by decide +kernel) rfl
theorem mw_1153 : Cond.selects "EveningLedger" yX5_meanDebt yX5_meanDebt ∈ GW := mw_of (i := 1221) (by decide +kernel) rfl
theorem mw_1154 : Cond.code yX5_meanDebt prog_1_method_27_code 4 (some .double) ∈ GW := mw_of (i := 1222) (by decide +kernel) rfl
theorem mw_1155 : Cond.classLink "EveningLedger" 260 "java/lang/ArithmeticException" ∈ GW := mw_of (i := 1223) (by decide +kernel) rfl
theorem mw_1156 : Cond.methodLink "EveningLedger" 262 ({ cls := "java/lang/ArithmeticException", name := "<init>", desc := "()V" } : MethodName) ∈ GW := mw_of (i := 1224) (by decide +kernel) rfl
theorem mw_1157 : Cond.instanceMethod ({ cls := "java/lang/ArithmeticException", name := "<init>", desc := "()V" } : MethodName) ∈ GW := mw_of (i := 1225) (by decide +kernel) rfl
theorem mw_1158 : Cond.code ({ cls := "java/lang/ArithmeticException", name := "<init>", desc := "()V" } : MethodName) prog_12_method_1_code 1 none ∈ GW := mw_of (i := 1226) (by decide +kernel) rfl
theorem mw_1159 : Cond.methodLink "java/lang/ArithmeticException" 1 ({ cls := "java/lang/RuntimeException", name := "<init>", desc := "()V" } : MethodName) ∈ GW := mw_of (i := 1227) (by decide +kernel) rfl
theorem mw_1160 : Cond.methodLink "EveningLedgerLaw" 175 yL_areDebts ∈ GW := mw_of (i := 1228) (by decide +kernel) rfl
theorem mw_1161 : Cond.static yL_areDebts ∈ GW := mw_of (i := 1229) (by decide +kernel) rfl
theorem mw_1162 : Cond.code yL_areDebts method_27_code 11 (some .boolean) ∈ GW := mw_of (i := 1230) (by decide +kernel) rfl
theorem mw_1163 : Cond.methodLink "EveningLedgerLaw" 179 yL_greatest ∈ GW := mw_of (i := 1231) (by decide +kernel) rfl
theorem mw_1164 : Cond.static yL_greatest ∈ GW := mw_of (i := 1232) (by decide +kernel) rfl
theorem mw_1165 : Cond.codeWith yL_greatest method_14_code 5 (some .int) [(4, 11, 14, 17), (4, 11, 20, 52)] ∈ GW := mw_of (i := 1233) (by decide +kernel) rfl
theorem mw_1166 : Cond.methodLink "EveningLedgerLaw" 62 yX5_greatest ∈ GW := mw_of (i := 1234) (by decide +kernel) rfl
theorem mw_1167 : Cond.instanceMethod yX5_greatest ∈ GW := mw_of (i := 1235) (by decide +kernel) rfl
theorem mw_1168 : Cond.selects "EveningLedger" yX5_greatest yX5_greatest ∈ GW := mw_of (i := 1236) (by decide +kernel) rfl
theorem mw_1169 : Cond.code yX5_greatest prog_1_method_22_code 5 (some .int) ∈ GW := mw_of (i := 1237) (by decide +kernel) rfl
theorem nw_1170 : Cond.methodLinkNest "EveningLedger" 228 yX0_spotByRank "EveningLedger" ∈ NW := nw_of (i := 1238) (by decide +kernel) rfl
theorem mw_1172 : Cond.instanceMethod yX0_spotByRank ∈ GW := mw_of (i := 1240) (by decide +kernel) rfl
theorem mw_1173 : Cond.code yX0_spotByRank prog_2_method_36_code 4 (some .int) ∈ GW := mw_of (i := 1241) (by decide +kernel) rfl
theorem mw_1174 : Cond.methodLink "EveningLedger$Book" 109 yX0_entriesAhead ∈ GW := mw_of (i := 1242) (by decide +kernel) rfl
theorem mw_1176 : Cond.instanceMethod yX0_entriesAhead ∈ GW := mw_of (i := 1244) (by decide +kernel) rfl
theorem mw_1177 : Cond.code yX0_entriesAhead prog_2_method_37_code 8 (some .int) ∈ GW := mw_of (i := 1245) (by decide +kernel) rfl
theorem mw_1178 : Cond.methodLink "EveningLedger" 231 yX5_pageAndPlace ∈ GW := mw_of (i := 1246) (by decide +kernel) rfl
theorem mw_1179 : Cond.static yX5_pageAndPlace ∈ GW := mw_of (i := 1247) (by decide +kernel) rfl
theorem mw_1180 : Cond.code yX5_pageAndPlace prog_1_method_42_code 1 (some .int) ∈ GW := mw_of (i := 1248) (by decide +kernel) rfl
theorem mw_1181 : Cond.methodLink "EveningLedgerLaw" 181 yX5_debt ∈ GW := mw_of (i := 1249) (by decide +kernel) rfl
theorem mw_1182 : Cond.instanceMethod yX5_debt ∈ GW := mw_of (i := 1250) (by decide +kernel) rfl
theorem mw_1183 : Cond.selects "EveningLedger" yX5_debt yX5_debt ∈ GW := mw_of (i := 1251) (by decide +kernel) rfl
theorem mw_1184 : Cond.code yX5_debt prog_1_method_17_code 4 (some .int) ∈ GW := mw_of (i := 1252) (by decide +kernel) rfl
theorem nw_1185 : Cond.methodLinkNest "EveningLedger" 206 yX0_debtOf "EveningLedger" ∈ NW := nw_of (i := 1253) (by decide +kernel) rfl
theorem mw_1187 : Cond.instanceMethod yX0_debtOf ∈ GW := mw_of (i := 1255) (by decide +kernel) rfl
theorem mw_1188 : Cond.code yX0_debtOf prog_2_method_29_code 5 (some .int) ∈ GW := mw_of (i := 1256) (by decide +kernel) rfl
theorem mw_1189 : Cond.methodLink "EveningLedger$Book" 95 yX0_debtOnPage ∈ GW := mw_of (i := 1257) (by decide +kernel) rfl
theorem mw_1191 : Cond.instanceMethod yX0_debtOnPage ∈ GW := mw_of (i := 1259) (by decide +kernel) rfl
theorem mw_1192 : Cond.code yX0_debtOnPage prog_2_method_30_code 6 (some .int) ∈ GW := mw_of (i := 1260) (by decide +kernel) rfl
theorem mw_1193 : Cond.methodLink "EveningLedgerLaw" 184 yL_find ∈ GW := mw_of (i := 1261) (by decide +kernel) rfl
theorem mw_1194 : Cond.static yL_find ∈ GW := mw_of (i := 1262) (by decide +kernel) rfl
theorem mw_1195 : Cond.codeWith yL_find method_15_code 5 (some .int) [(4, 11, 14, 17), (4, 11, 20, 19), (4, 11, 26, 52)] ∈ GW := mw_of (i := 1263) (by decide +kernel) rfl
theorem mw_1196 : Cond.methodLink "EveningLedgerLaw" 65 yX5_find ∈ GW := mw_of (i := 1264) (by decide +kernel) rfl
theorem mw_1197 : Cond.instanceMethod yX5_find ∈ GW := mw_of (i := 1265) (by decide +kernel) rfl
theorem mw_1198 : Cond.selects "EveningLedger" yX5_find yX5_find ∈ GW := mw_of (i := 1266) (by decide +kernel) rfl
theorem mw_1199 : Cond.code yX5_find prog_1_method_23_code 5 (some .int) ∈ GW := mw_of (i := 1267) (by decide +kernel) rfl
theorem nw_1200 : Cond.methodLinkNest "EveningLedger" 234 yX0_firstSpotOf "EveningLedger" ∈ NW := nw_of (i := 1268) (by decide +kernel) rfl
theorem mw_1202 : Cond.instanceMethod yX0_firstSpotOf ∈ GW := mw_of (i := 1270) (by decide +kernel) rfl
theorem mw_1203 : Cond.code yX0_firstSpotOf prog_2_method_35_code 4 (some .int) ∈ GW := mw_of (i := 1271) (by decide +kernel) rfl
theorem mw_1204 : Cond.methodLink "EveningLedgerLaw" 187 yX5_debtAgain ∈ GW := mw_of (i := 1272) (by decide +kernel) rfl
theorem mw_1205 : Cond.instanceMethod yX5_debtAgain ∈ GW := mw_of (i := 1273) (by decide +kernel) rfl
theorem mw_1206 : Cond.selects "EveningLedger" yX5_debtAgain yX5_debtAgain ∈ GW := mw_of (i := 1274) (by decide +kernel) rfl
theorem mw_1207 : Cond.code yX5_debtAgain prog_1_method_18_code 4 (some .int) ∈ GW := mw_of (i := 1275) (by decide +kernel) rfl
theorem nw_1208 : Cond.methodLinkNest "EveningLedger" 210 yX0_debtByDifferences "EveningLedger" ∈ NW := nw_of (i := 1276) (by decide +kernel) rfl
theorem mw_1210 : Cond.instanceMethod yX0_debtByDifferences ∈ GW := mw_of (i := 1278) (by decide +kernel) rfl
theorem mw_1211 : Cond.code yX0_debtByDifferences prog_2_method_31_code 5 (some .int) ∈ GW := mw_of (i := 1279) (by decide +kernel) rfl
theorem mw_1212 : Cond.methodLink "EveningLedger$Book" 99 yX0_debtOf ∈ GW := mw_of (i := 1280) (by decide +kernel) rfl
theorem mw_1213 : Cond.methodLink "EveningLedger$Book" 103 yX0_differenceSince ∈ GW := mw_of (i := 1281) (by decide +kernel) rfl
theorem mw_1215 : Cond.instanceMethod yX0_differenceSince ∈ GW := mw_of (i := 1283) (by decide +kernel) rfl
theorem mw_1216 : Cond.code yX0_differenceSince prog_2_method_32_code 5 (some .int) ∈ GW := mw_of (i := 1284) (by decide +kernel) rfl
theorem mw_1217 : Cond.methodLink "EveningLedgerLaw" 190 yL_owing ∈ GW := mw_of (i := 1285) (by decide +kernel) rfl
theorem mw_1218 : Cond.static yL_owing ∈ GW := mw_of (i := 1286) (by decide +kernel) rfl
theorem mw_1219 : Cond.codeWith yL_owing method_13_code 5 (some .char) [(3, 10, 13, 17), (3, 10, 18, 52)] ∈ GW := mw_of (i := 1287) (by decide +kernel) rfl
theorem mw_1220 : Cond.methodLink "EveningLedgerLaw" 58 yX5_owing ∈ GW := mw_of (i := 1288) (by decide +kernel) rfl
theorem mw_1221 : Cond.instanceMethod yX5_owing ∈ GW := mw_of (i := 1289) (by decide +kernel) rfl
theorem mw_1222 : Cond.selects "EveningLedger" yX5_owing yX5_owing ∈ GW := mw_of (i := 1290) (by decide +kernel) rfl
theorem mw_1223 : Cond.code yX5_owing prog_1_method_21_code 5 (some .char) ∈ GW := mw_of (i := 1291) (by decide +kernel) rfl
theorem nw_1224 : Cond.methodLinkNest "EveningLedger" 220 yX4_sumUp "EveningLedger" ∈ NW := nw_of (i := 1292) (by decide +kernel) rfl
theorem mw_1226 : Cond.instanceMethod yX4_sumUp ∈ GW := mw_of (i := 1294) (by decide +kernel) rfl
theorem mw_1227 : Cond.code yX4_sumUp prog_6_method_2_code 5 none ∈ GW := mw_of (i := 1295) (by decide +kernel) rfl
theorem nw_1228 : Cond.methodLinkNest "EveningLedger" 224 yX4_personByRank "EveningLedger" ∈ NW := nw_of (i := 1296) (by decide +kernel) rfl
theorem mw_1230 : Cond.instanceMethod yX4_personByRank ∈ GW := mw_of (i := 1298) (by decide +kernel) rfl
theorem mw_1231 : Cond.code yX4_personByRank prog_6_method_3_code 3 (some .char) ∈ GW := mw_of (i := 1299) (by decide +kernel) rfl
theorem mw_1232 : Cond.methodLink "EveningLedger$Totals" 27 yX4_peopleAhead ∈ GW := mw_of (i := 1300) (by decide +kernel) rfl
theorem mw_1234 : Cond.instanceMethod yX4_peopleAhead ∈ GW := mw_of (i := 1302) (by decide +kernel) rfl
theorem mw_1235 : Cond.code yX4_peopleAhead prog_6_method_4_code 5 (some .int) ∈ GW := mw_of (i := 1303) (by decide +kernel) rfl
theorem mw_1236 : Cond.methodLink "EveningLedgerLaw" 197 yX5_sheetsApart ∈ GW := mw_of (i := 1304) (by decide +kernel) rfl
theorem mw_1237 : Cond.instanceMethod yX5_sheetsApart ∈ GW := mw_of (i := 1305) (by decide +kernel) rfl
theorem mw_1238 : Cond.selects "EveningLedger" yX5_sheetsApart yX5_sheetsApart ∈ GW := mw_of (i := 1306) (by decide +kernel) rfl
theorem mw_1239 : Cond.code yX5_sheetsApart prog_1_method_14_code 5 (some .int) ∈ GW := mw_of (i := 1307) (by decide +kernel) rfl
theorem nw_1240 : Cond.methodLinkNest "EveningLedger" 196 yX0_differentSheets "EveningLedger" ∈ NW := nw_of (i := 1308) (by decide +kernel) rfl
theorem mw_1242 : Cond.instanceMethod yX0_differentSheets ∈ GW := mw_of (i := 1310) (by decide +kernel) rfl
theorem mw_1243 : Cond.code yX0_differentSheets prog_2_method_27_code 5 (some .int) ∈ GW := mw_of (i := 1311) (by decide +kernel) rfl
theorem mw_1244 : Cond.methodLink "EveningLedgerLaw" 200 yX5_isLike ∈ GW := mw_of (i := 1312) (by decide +kernel) rfl
theorem mw_1245 : Cond.instanceMethod yX5_isLike ∈ GW := mw_of (i := 1313) (by decide +kernel) rfl
theorem mw_1246 : Cond.selects "EveningLedger" yX5_isLike yX5_isLike ∈ GW := mw_of (i := 1314) (by decide +kernel) rfl
theorem mw_1247 : Cond.code yX5_isLike prog_1_method_16_code 6 (some .boolean) ∈ GW := mw_of (i := 1315) (by decide +kernel) rfl
theorem nw_1248 : Cond.methodLinkNest "EveningLedger" 199 yX0_differentPlaces "EveningLedger" ∈ NW := nw_of (i := 1316) (by decide +kernel) rfl
theorem mw_1250 : Cond.instanceMethod yX0_differentPlaces ∈ GW := mw_of (i := 1318) (by decide +kernel) rfl
theorem mw_1251 : Cond.code yX0_differentPlaces prog_2_method_28_code 6 (some .int) ∈ GW := mw_of (i := 1319) (by decide +kernel) rfl
theorem mw_1252 : Cond.methodLink "EveningLedgerLaw" 204 yX5_placesApart ∈ GW := mw_of (i := 1320) (by decide +kernel) rfl
theorem mw_1253 : Cond.instanceMethod yX5_placesApart ∈ GW := mw_of (i := 1321) (by decide +kernel) rfl
theorem mw_1254 : Cond.selects "EveningLedger" yX5_placesApart yX5_placesApart ∈ GW := mw_of (i := 1322) (by decide +kernel) rfl
theorem mw_1255 : Cond.code yX5_placesApart prog_1_method_15_code 7 (some .int) ∈ GW := mw_of (i := 1323) (by decide +kernel) rfl
theorem mw_1256 : Cond.methodLink "EveningLedgerLaw" 207 yL_marks ∈ GW := mw_of (i := 1324) (by decide +kernel) rfl
theorem mw_1257 : Cond.static yL_marks ∈ GW := mw_of (i := 1325) (by decide +kernel) rfl
theorem mw_1258 : Cond.code yL_marks method_29_code 5 (some .int) ∈ GW := mw_of (i := 1326) (by decide +kernel) rfl
theorem mw_1259 : Cond.methodLink "EveningLedgerLaw" 214 yX5_show ∈ GW := mw_of (i := 1327) (by decide +kernel) rfl
theorem mw_1260 : Cond.instanceMethod yX5_show ∈ GW := mw_of (i := 1328) (by decide +kernel) rfl
theorem mw_1261 : Cond.selects "EveningLedger" yX5_show yX5_show ∈ GW := mw_of (i := 1329) (by decide +kernel) rfl
theorem mw_1262 : Cond.code yX5_show prog_1_method_25_code 4 (some .int) ∈ GW := mw_of (i := 1330) (by decide +kernel) rfl
theorem mw_1263 : Cond.methodLink "EveningLedger" 251 yX5_putSheet ∈ GW := mw_of (i := 1331) (by decide +kernel) rfl
theorem mw_1265 : Cond.instanceMethod yX5_putSheet ∈ GW := mw_of (i := 1333) (by decide +kernel) rfl
theorem mw_1266 : Cond.code yX5_putSheet prog_1_method_51_code 4 none ∈ GW := mw_of (i := 1334) (by decide +kernel) rfl
theorem mw_1267 : Cond.methodLink "EveningLedgerLaw" 217 yX5_character ∈ GW := mw_of (i := 1335) (by decide +kernel) rfl
theorem mw_1268 : Cond.instanceMethod yX5_character ∈ GW := mw_of (i := 1336) (by decide +kernel) rfl
theorem mw_1269 : Cond.selects "EveningLedger" yX5_character yX5_character ∈ GW := mw_of (i := 1337) (by decide +kernel) rfl
theorem mw_1270 : Cond.code yX5_character prog_1_method_26_code 2 (some .char) ∈ GW := mw_of (i := 1338) (by decide +kernel) rfl
theorem mw_1271 : Cond.methodLink "EveningLedger" 254 yJ4_charAt_5068e ∈ GW := mw_of (i := 1339) (by decide +kernel) rfl
theorem mw_1272 : Cond.methodLink "EveningLedgerLaw" 210 yX5_aloneShare ∈ GW := mw_of (i := 1340) (by decide +kernel) rfl
theorem mw_1273 : Cond.instanceMethod yX5_aloneShare ∈ GW := mw_of (i := 1341) (by decide +kernel) rfl
theorem mw_1274 : Cond.selects "EveningLedger" yX5_aloneShare yX5_aloneShare ∈ GW := mw_of (i := 1342) (by decide +kernel) rfl
theorem mw_1275 : Cond.code yX5_aloneShare prog_1_method_28_code 4 (some .float) ∈ GW := mw_of (i := 1343) (by decide +kernel) rfl
theorem mw_1276 : Cond.methodLink "EveningLedgerLaw" 230 yL_areGreatest ∈ GW := mw_of (i := 1344) (by decide +kernel) rfl
theorem mw_1277 : Cond.static yL_areGreatest ∈ GW := mw_of (i := 1345) (by decide +kernel) rfl
theorem mw_1278 : Cond.code yL_areGreatest method_30_code 6 (some .boolean) ∈ GW := mw_of (i := 1346) (by decide +kernel) rfl
theorem mw_1279 : Cond.methodLink "EveningLedgerLaw" 220 yX5_greatestOn ∈ GW := mw_of (i := 1347) (by decide +kernel) rfl
theorem mw_1280 : Cond.instanceMethod yX5_greatestOn ∈ GW := mw_of (i := 1348) (by decide +kernel) rfl
theorem mw_1281 : Cond.selects "EveningLedger" yX5_greatestOn yX5_greatestOn ∈ GW := mw_of (i := 1349) (by decide +kernel) rfl
theorem mw_1282 : Cond.code yX5_greatestOn prog_1_method_19_code 2 (some .int) ∈ GW := mw_of (i := 1350) (by decide +kernel) rfl
theorem nw_1283 : Cond.methodLinkNest "EveningLedger" 213 yX0_eveningOfGreatestDebt "EveningLedger" ∈ NW := nw_of (i := 1351) (by decide +kernel) rfl
theorem mw_1285 : Cond.instanceMethod yX0_eveningOfGreatestDebt ∈ GW := mw_of (i := 1353) (by decide +kernel) rfl
theorem mw_1286 : Cond.code yX0_eveningOfGreatestDebt prog_2_method_33_code 6 (some .int) ∈ GW := mw_of (i := 1354) (by decide +kernel) rfl
theorem mw_1287 : Cond.methodLink "EveningLedgerLaw" 223 yL_without ∈ GW := mw_of (i := 1355) (by decide +kernel) rfl
theorem mw_1288 : Cond.static yL_without ∈ GW := mw_of (i := 1356) (by decide +kernel) rfl
theorem mw_1289 : Cond.codeWith yL_without method_12_code 4 (some .int) [(4, 10, 13, 19), (4, 10, 18, 52)] ∈ GW := mw_of (i := 1357) (by decide +kernel) rfl
theorem mw_1290 : Cond.methodLink "EveningLedgerLaw" 54 yX5_without ∈ GW := mw_of (i := 1358) (by decide +kernel) rfl
theorem mw_1291 : Cond.instanceMethod yX5_without ∈ GW := mw_of (i := 1359) (by decide +kernel) rfl
theorem mw_1292 : Cond.selects "EveningLedger" yX5_without yX5_without ∈ GW := mw_of (i := 1360) (by decide +kernel) rfl
theorem mw_1293 : Cond.code yX5_without prog_1_method_20_code 3 (some .int) ∈ GW := mw_of (i := 1361) (by decide +kernel) rfl
theorem nw_1294 : Cond.methodLinkNest "EveningLedger" 217 yX0_latestEveningWithout "EveningLedger" ∈ NW := nw_of (i := 1362) (by decide +kernel) rfl
theorem mw_1296 : Cond.instanceMethod yX0_latestEveningWithout ∈ GW := mw_of (i := 1364) (by decide +kernel) rfl
theorem mw_1297 : Cond.code yX0_latestEveningWithout prog_2_method_34_code 4 (some .int) ∈ GW := mw_of (i := 1365) (by decide +kernel) rfl
theorem mw_1298 : Cond.methodLink "EveningLedger$Book" 106 yX0_firstSpotOf ∈ GW := mw_of (i := 1366) (by decide +kernel) rfl
theorem mw_1299 : Cond.sameMethod "java/lang/Throwable" "java/lang/Throwable" "fillInStackTrace" "(I)Ljava/lang/Throwable;" ∈ GW := mw_of (i := 1367) (by decide +kernel) rfl
theorem mw_1300 : Cond.sameMethod "java/lang/AbstractStringBuilder" "java/lang/AbstractStringBuilder" "length" "()I" ∈ GW := mw_of (i := 1368) (by decide +kernel) rfl
theorem mw_1301 : Cond.sameMethod "java/lang/AbstractStringBuilder" "java/lang/AbstractStringBuilder" "charAt" "(I)C" ∈ GW := mw_of (i := 1369) (by decide +kernel) rfl
theorem mw_1302 : Cond.sameMethod "java/lang/AbstractStringBuilder" "java/lang/AbstractStringBuilder" "setLength" "(I)V" ∈ GW := mw_of (i := 1370) (by decide +kernel) rfl
theorem mw_1303 : Cond.sameMethod "java/lang/AbstractStringBuilder" "java/lang/AbstractStringBuilder" "append" "(Ljava/lang/String;)Ljava/lang/AbstractStringBuilder;" ∈ GW := mw_of (i := 1371) (by decide +kernel) rfl
theorem mw_1304 : Cond.sameMethod "java/lang/AbstractStringBuilder" "java/lang/AbstractStringBuilder" "appendNull" "()Ljava/lang/AbstractStringBuilder;" ∈ GW := mw_of (i := 1372) (by decide +kernel) rfl
theorem mw_1305 : Cond.sameMethod "java/lang/AbstractStringBuilder" "java/lang/AbstractStringBuilder" "ensureCapacityInternal" "(I)V" ∈ GW := mw_of (i := 1373) (by decide +kernel) rfl
theorem mw_1306 : Cond.sameMethod "java/lang/AbstractStringBuilder" "java/lang/AbstractStringBuilder" "newCapacity" "(I)I" ∈ GW := mw_of (i := 1374) (by decide +kernel) rfl
theorem mw_1307 : Cond.sameMethod "java/lang/AbstractStringBuilder" "java/lang/AbstractStringBuilder" "putStringAt" "(ILjava/lang/String;)V" ∈ GW := mw_of (i := 1375) (by decide +kernel) rfl
theorem mw_1308 : Cond.sameMethod "java/lang/AbstractStringBuilder" "java/lang/AbstractStringBuilder" "inflateIfNeededFor" "(Ljava/lang/String;)V" ∈ GW := mw_of (i := 1376) (by decide +kernel) rfl
theorem mw_1309 : Cond.sameMethod "java/lang/AbstractStringBuilder" "java/lang/AbstractStringBuilder" "inflate" "()V" ∈ GW := mw_of (i := 1377) (by decide +kernel) rfl
theorem mw_1310 : Cond.sameMethod "java/lang/AbstractStringBuilder" "java/lang/AbstractStringBuilder" "append" "(I)Ljava/lang/AbstractStringBuilder;" ∈ GW := mw_of (i := 1378) (by decide +kernel) rfl
theorem mw_1311 : Cond.selects "java/lang/StringBuilder" yJ5_length_8abf5 yJ4_length_8abf5 ∈ GW := mw_of (i := 1379) (by decide +kernel) rfl
theorem mw_1312 : Cond.sameMethod "java/lang/AbstractStringBuilder" "java/lang/AbstractStringBuilder" "append" "(C)Ljava/lang/AbstractStringBuilder;" ∈ GW := mw_of (i := 1380) (by decide +kernel) rfl
theorem nw_1313 : Cond.castable "java/lang/ArrayIndexOutOfBoundsException" "java/lang/IndexOutOfBoundsException" ∈ NW := nw_of (i := 1381) (by decide +kernel) rfl
theorem nw_1314 : Cond.castable "java/lang/StringIndexOutOfBoundsException" "java/lang/IndexOutOfBoundsException" ∈ NW := nw_of (i := 1382) (by decide +kernel) rfl
theorem nw_1315 : Cond.castable "EveningLedger" "java/lang/Object" ∈ NW := nw_of (i := 1383) (by decide +kernel) rfl
theorem nw_1316 : Cond.castable "EveningLedger$Book" "java/lang/Object" ∈ NW := nw_of (i := 1384) (by decide +kernel) rfl
theorem nw_1317 : Cond.castable "EveningLedger$History" "java/lang/Object" ∈ NW := nw_of (i := 1385) (by decide +kernel) rfl
theorem nw_1318 : Cond.castable "EveningLedger$Refusal" "java/lang/Object" ∈ NW := nw_of (i := 1386) (by decide +kernel) rfl
theorem nw_1319 : Cond.castable "EveningLedger$Totals" "java/lang/Object" ∈ NW := nw_of (i := 1387) (by decide +kernel) rfl
theorem nw_1320 : Cond.castable "EveningLedger$Text" "java/lang/Object" ∈ NW := nw_of (i := 1388) (by decide +kernel) rfl
theorem nw_1321 : Cond.castable "java/lang/StringBuilder" "java/lang/Object" ∈ NW := nw_of (i := 1389) (by decide +kernel) rfl
theorem nw_1322 : Cond.castable "java/lang/ArrayIndexOutOfBoundsException" "java/lang/Object" ∈ NW := nw_of (i := 1390) (by decide +kernel) rfl
theorem nw_1323 : Cond.castable "java/lang/IndexOutOfBoundsException" "java/lang/Object" ∈ NW := nw_of (i := 1391) (by decide +kernel) rfl
theorem nw_1324 : Cond.castable "java/lang/IllegalArgumentException" "java/lang/Object" ∈ NW := nw_of (i := 1392) (by decide +kernel) rfl
theorem nw_1325 : Cond.castable "java/lang/UnsupportedOperationException" "java/lang/Object" ∈ NW := nw_of (i := 1393) (by decide +kernel) rfl
theorem nw_1326 : Cond.castable "java/util/NoSuchElementException" "java/lang/Object" ∈ NW := nw_of (i := 1394) (by decide +kernel) rfl
theorem nw_1327 : Cond.castable "java/lang/IllegalStateException" "java/lang/Object" ∈ NW := nw_of (i := 1395) (by decide +kernel) rfl
theorem nw_1328 : Cond.castable "java/lang/StringIndexOutOfBoundsException" "java/lang/Object" ∈ NW := nw_of (i := 1396) (by decide +kernel) rfl
theorem nw_1329 : Cond.castable "java/lang/String" "java/lang/Object" ∈ NW := nw_of (i := 1397) (by decide +kernel) rfl
theorem nw_1330 : Cond.castable "java/lang/ArithmeticException" "java/lang/Object" ∈ NW := nw_of (i := 1398) (by decide +kernel) rfl
theorem nw_1331 : Cond.castable "java/lang/Throwable" "java/lang/Object" ∈ NW := nw_of (i := 1399) (by decide +kernel) rfl
theorem xw_ens : Cond.selects "java/lang/StringBuilder" yJ5_ensureCapacityInternal_d00df yJ5_ensureCapacityInternal_d00df ∈ GW := List.mem_filter.mpr ⟨List.mem_append_right _ List.mem_cons_self, rfl⟩
theorem xw_cap : Cond.selects "java/lang/StringBuilder" yJ5_newCapacity_0f7a4 yJ5_newCapacity_0f7a4 ∈ GW := List.mem_filter.mpr ⟨List.mem_append_right _ (List.mem_cons_of_mem _ List.mem_cons_self), rfl⟩
