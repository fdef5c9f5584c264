/-! the words of the tables, each by its place -/
/-- two private methods of the class above, as an object of StringBuilder finds them -/
def xSel : List Cond := [Cond.selects "java/lang/StringBuilder" yJ5_ensureCapacityInternal_d00df yJ5_ensureCapacityInternal_d00df, Cond.selects "java/lang/StringBuilder" yJ5_newCapacity_0f7a4 yJ5_newCapacity_0f7a4]
def GW : List Cond := (lw_tbl ++ xSel).filter goodWord
def nestLike : Cond → Bool
  | .methodLinkNest _ _ _ _ => true
  | .fieldLinkNest _ _ _ _ _ _ => true
  | .castable _ _ => true
  | .declares _ => true
  | _ => false
def NW : List Cond := lw_tbl.filter nestLike
theorem mw_of {i : Nat} {w : Cond} (h : lw_tbl[i]? = some w) (g : goodWord w = true) : w ∈ GW := List.mem_filter.mpr ⟨List.mem_append_left _ (List.mem_of_getElem? h), g⟩
theorem nw_of {i : Nat} {w : Cond} (h : lw_tbl[i]? = some w) (g : nestLike w = true) : w ∈ NW := List.mem_filter.mpr ⟨List.mem_of_getElem? h, g⟩
theorem mp_0 : Cond.selects "EveningLedger$Book" yX0_pagesAlone yX0_pagesAlone ∈ GW := mw_of (i := 0) (by decide +kernel) rfl
theorem mp_1 : Cond.selects "EveningLedger$Book" yX0_sheetOn yX0_sheetOn ∈ GW := mw_of (i := 1) (by decide +kernel) rfl
theorem mp_2 : Cond.selects "EveningLedger$Book" yX0_daysWithSheet yX0_daysWithSheet ∈ GW := mw_of (i := 2) (by decide +kernel) rfl
theorem mp_3 : Cond.selects "EveningLedger$Book" yX0_copyFrom yX0_copyFrom ∈ GW := mw_of (i := 3) (by decide +kernel) rfl
theorem mp_4 : Cond.selects "java/lang/Throwable" (⟨"java/lang/Throwable", "fillInStackTrace", "(I)Ljava/lang/Throwable;"⟩ : MethodName) (⟨"java/lang/Throwable", "fillInStackTrace", "(I)Ljava/lang/Throwable;"⟩ : MethodName) ∈ GW := mw_of (i := 4) (by decide +kernel) rfl
theorem mp_5 : Cond.selects "EveningLedger$Refusal" yX2_stopsWriting yX2_stopsWriting ∈ GW := mw_of (i := 5) (by decide +kernel) rfl
theorem mp_6 : Cond.selects "EveningLedger$Book" yX0_debtOn yX0_debtOn ∈ GW := mw_of (i := 6) (by decide +kernel) rfl
theorem mp_7 : Cond.selects "EveningLedger$Refusal" yX2_keepIf yX2_keepIf ∈ GW := mw_of (i := 7) (by decide +kernel) rfl
theorem mp_8 : Cond.selects "EveningLedger$History" yX1_rememberBook yX1_rememberBook ∈ GW := mw_of (i := 8) (by decide +kernel) rfl
theorem mp_9 : Cond.selects "EveningLedger$Book" yX0_writeEntry yX0_writeEntry ∈ GW := mw_of (i := 9) (by decide +kernel) rfl
theorem mp_10 : Cond.selects "EveningLedger$Book" yX0_put yX0_put ∈ GW := mw_of (i := 10) (by decide +kernel) rfl
theorem mp_11 : Cond.selects "EveningLedger$Book" yX0_makeSheetItsOwn yX0_makeSheetItsOwn ∈ GW := mw_of (i := 11) (by decide +kernel) rfl
theorem mp_12 : Cond.selects "EveningLedger$Book" yX0_entriesOn yX0_entriesOn ∈ GW := mw_of (i := 12) (by decide +kernel) rfl
theorem mp_13 : Cond.selects "EveningLedger$Refusal" yX2_stopsAdding yX2_stopsAdding ∈ GW := mw_of (i := 13) (by decide +kernel) rfl
theorem mp_14 : Cond.selects "EveningLedger$Book" yX0_firstEmptyPlace yX0_firstEmptyPlace ∈ GW := mw_of (i := 14) (by decide +kernel) rfl
theorem mp_15 : Cond.selects "EveningLedger$Refusal" yX2_stopsOwing yX2_stopsOwing ∈ GW := mw_of (i := 15) (by decide +kernel) rfl
theorem mp_16 : Cond.selects "EveningLedger$Refusal" yX2_stopsAtEmpty yX2_stopsAtEmpty ∈ GW := mw_of (i := 16) (by decide +kernel) rfl
theorem mp_17 : Cond.selects "EveningLedger$Book" yX0_oweMore yX0_oweMore ∈ GW := mw_of (i := 17) (by decide +kernel) rfl
theorem mp_18 : Cond.selects "EveningLedger$Book" yX0_strikeOut yX0_strikeOut ∈ GW := mw_of (i := 18) (by decide +kernel) rfl
theorem mp_19 : Cond.selects "EveningLedger$Book" yX0_personOn yX0_personOn ∈ GW := mw_of (i := 19) (by decide +kernel) rfl
theorem mp_20 : Cond.selects "EveningLedger$Book" yX0_swapEntries yX0_swapEntries ∈ GW := mw_of (i := 20) (by decide +kernel) rfl
theorem mp_21 : Cond.selects "EveningLedger" yX5_needDay yX5_needDay ∈ GW := mw_of (i := 21) (by decide +kernel) rfl
theorem mp_22 : Cond.selects "EveningLedger$Book" yX0_dayOf yX0_dayOf ∈ GW := mw_of (i := 22) (by decide +kernel) rfl
theorem mp_23 : Cond.selects "EveningLedger$Book" yX0_sumOn yX0_sumOn ∈ GW := mw_of (i := 23) (by decide +kernel) rfl
theorem mp_24 : Cond.selects "EveningLedger$Book" yX0_peopleOn yX0_peopleOn ∈ GW := mw_of (i := 24) (by decide +kernel) rfl
theorem mp_25 : Cond.selects "EveningLedger$Refusal" yX2_stopsEvening yX2_stopsEvening ∈ GW := mw_of (i := 25) (by decide +kernel) rfl
theorem mp_26 : Cond.selects "EveningLedger$Book" yX0_keepEvening yX0_keepEvening ∈ GW := mw_of (i := 26) (by decide +kernel) rfl
theorem mp_27 : Cond.selects "EveningLedger$Book" yX0_moveDays yX0_moveDays ∈ GW := mw_of (i := 27) (by decide +kernel) rfl
theorem mp_28 : Cond.selects "EveningLedger$Refusal" yX2_stopsTakingOver yX2_stopsTakingOver ∈ GW := mw_of (i := 28) (by decide +kernel) rfl
theorem mp_29 : Cond.selects "EveningLedger$Book" yX0_takePageFrom yX0_takePageFrom ∈ GW := mw_of (i := 29) (by decide +kernel) rfl
theorem mp_30 : Cond.selects "EveningLedger$Refusal" yX2_stopsForgetting yX2_stopsForgetting ∈ GW := mw_of (i := 30) (by decide +kernel) rfl
theorem mp_31 : Cond.selects "EveningLedger$Book" yX0_forgetDay yX0_forgetDay ∈ GW := mw_of (i := 31) (by decide +kernel) rfl
theorem mp_32 : Cond.selects "EveningLedger$Book" yX0_differentSheets yX0_differentSheets ∈ GW := mw_of (i := 32) (by decide +kernel) rfl
theorem mp_33 : Cond.selects "EveningLedger$Book" yX0_differentPlaces yX0_differentPlaces ∈ GW := mw_of (i := 33) (by decide +kernel) rfl
theorem mp_34 : Cond.selects "EveningLedger$Book" yX0_debtOf yX0_debtOf ∈ GW := mw_of (i := 34) (by decide +kernel) rfl
theorem mp_35 : Cond.selects "EveningLedger$Book" yX0_debtOnPage yX0_debtOnPage ∈ GW := mw_of (i := 35) (by decide +kernel) rfl
theorem mp_36 : Cond.selects "EveningLedger$Book" yX0_debtByDifferences yX0_debtByDifferences ∈ GW := mw_of (i := 36) (by decide +kernel) rfl
theorem mp_37 : Cond.selects "EveningLedger$Book" yX0_differenceSince yX0_differenceSince ∈ GW := mw_of (i := 37) (by decide +kernel) rfl
theorem mp_38 : Cond.selects "EveningLedger$Book" yX0_eveningOfGreatestDebt yX0_eveningOfGreatestDebt ∈ GW := mw_of (i := 38) (by decide +kernel) rfl
theorem mp_39 : Cond.selects "EveningLedger$Book" yX0_latestEveningWithout yX0_latestEveningWithout ∈ GW := mw_of (i := 39) (by decide +kernel) rfl
theorem mp_40 : Cond.selects "EveningLedger$Book" yX0_firstSpotOf yX0_firstSpotOf ∈ GW := mw_of (i := 40) (by decide +kernel) rfl
theorem mp_41 : Cond.selects "EveningLedger$Totals" yX4_sumUp yX4_sumUp ∈ GW := mw_of (i := 41) (by decide +kernel) rfl
theorem mp_42 : Cond.selects "EveningLedger$Totals" yX4_personByRank yX4_personByRank ∈ GW := mw_of (i := 42) (by decide +kernel) rfl
theorem mp_43 : Cond.selects "EveningLedger$Totals" yX4_peopleAhead yX4_peopleAhead ∈ GW := mw_of (i := 43) (by decide +kernel) rfl
theorem mp_44 : Cond.selects "EveningLedger$Book" yX0_spotByRank yX0_spotByRank ∈ GW := mw_of (i := 44) (by decide +kernel) rfl
theorem mp_45 : Cond.selects "EveningLedger$Book" yX0_entriesAhead yX0_entriesAhead ∈ GW := mw_of (i := 45) (by decide +kernel) rfl
theorem mp_46 : Cond.selects "EveningLedger" yX5_putPlace yX5_putPlace ∈ GW := mw_of (i := 46) (by decide +kernel) rfl
theorem mp_47 : Cond.selects "EveningLedger" yX5_putSheet yX5_putSheet ∈ GW := mw_of (i := 47) (by decide +kernel) rfl
theorem mp_48 : Cond.selects "EveningLedger$Book" yX0_allEntries yX0_allEntries ∈ GW := mw_of (i := 48) (by decide +kernel) rfl
theorem mp_49 : Cond.selects "EveningLedger$Book" yX0_sumOfAll yX0_sumOfAll ∈ GW := mw_of (i := 49) (by decide +kernel) rfl
theorem mp_50 : Cond.selects "EveningLedger$Book" yX0_sheetsLeft yX0_sheetsLeft ∈ GW := mw_of (i := 50) (by decide +kernel) rfl
theorem mp_51 : Cond.selects "EveningLedger$Text" yX3_countCommands yX3_countCommands ∈ GW := mw_of (i := 51) (by decide +kernel) rfl
theorem mp_52 : Cond.selects "EveningLedger$Text" yX3_startAgain yX3_startAgain ∈ GW := mw_of (i := 52) (by decide +kernel) rfl
theorem mp_53 : Cond.selects "EveningLedger$Text" yX3_takeCommand yX3_takeCommand ∈ GW := mw_of (i := 53) (by decide +kernel) rfl
theorem mp_54 : Cond.selects "EveningLedger$Text" yX3_takeSign yX3_takeSign ∈ GW := mw_of (i := 54) (by decide +kernel) rfl
theorem mp_55 : Cond.selects "EveningLedger$Text" yX3_isAtSignFrom yX3_isAtSignFrom ∈ GW := mw_of (i := 55) (by decide +kernel) rfl
theorem mp_56 : Cond.selects "EveningLedger$Text" yX3_takeNumber yX3_takeNumber ∈ GW := mw_of (i := 56) (by decide +kernel) rfl
theorem mp_57 : Cond.selects "EveningLedger$Text" yX3_takeDigit yX3_takeDigit ∈ GW := mw_of (i := 57) (by decide +kernel) rfl
theorem mp_58 : Cond.selects "EveningLedger$Text" yX3_takePage yX3_takePage ∈ GW := mw_of (i := 58) (by decide +kernel) rfl
theorem mp_59 : Cond.selects "EveningLedger$Text" yX3_takeEntryCommand yX3_takeEntryCommand ∈ GW := mw_of (i := 59) (by decide +kernel) rfl
theorem mp_60 : Cond.selects "EveningLedger$Text" yX3_takeLetter yX3_takeLetter ∈ GW := mw_of (i := 60) (by decide +kernel) rfl
theorem mp_61 : Cond.selects "EveningLedger$Text" yX3_takePlace yX3_takePlace ∈ GW := mw_of (i := 61) (by decide +kernel) rfl
theorem mp_62 : Cond.selects "EveningLedger$Text" yX3_empty yX3_empty ∈ GW := mw_of (i := 62) (by decide +kernel) rfl
theorem mp_63 : Cond.selects "EveningLedger" yX5_carryOut yX5_carryOut ∈ GW := mw_of (i := 63) (by decide +kernel) rfl
theorem mp_64 : Cond.selects "EveningLedger" yX5_tellsWhatIs yX5_tellsWhatIs ∈ GW := mw_of (i := 64) (by decide +kernel) rfl
theorem mp_65 : Cond.selects "EveningLedger" yX5_commandIsRefused yX5_commandIsRefused ∈ GW := mw_of (i := 65) (by decide +kernel) rfl
theorem mp_66 : Cond.selects "EveningLedger" yX5_doCommand yX5_doCommand ∈ GW := mw_of (i := 66) (by decide +kernel) rfl
theorem mp_67 : Cond.selects "EveningLedger$History" yX1_giveBack yX1_giveBack ∈ GW := mw_of (i := 67) (by decide +kernel) rfl
theorem mp_68 : Cond.selects "EveningLedgerModel" yX6_fails yX6_fails ∈ GW := mw_of (i := 68) (by decide +kernel) rfl
theorem mp_69 : Cond.selects "EveningLedgerModel" yX6_debt yX6_debt ∈ GW := mw_of (i := 69) (by decide +kernel) rfl
theorem mp_70 : Cond.selects "EveningLedgerModel" yX6_refuse yX6_refuse ∈ GW := mw_of (i := 70) (by decide +kernel) rfl
theorem mp_71 : Cond.selects "EveningLedgerModel" yX6_changePage yX6_changePage ∈ GW := mw_of (i := 71) (by decide +kernel) rfl
theorem mp_72 : Cond.selects "EveningLedgerModel" yX6_change yX6_change ∈ GW := mw_of (i := 72) (by decide +kernel) rfl
theorem mp_73 : Cond.selects "EveningLedgerModel" yX6_remember yX6_remember ∈ GW := mw_of (i := 73) (by decide +kernel) rfl
theorem mp_74 : Cond.selects "EveningLedgerModel" yX6_sheet yX6_sheet ∈ GW := mw_of (i := 74) (by decide +kernel) rfl
theorem mp_75 : Cond.selects "EveningLedgerModel" yX6_sharing yX6_sharing ∈ GW := mw_of (i := 75) (by decide +kernel) rfl
theorem mp_76 : Cond.selects "EveningLedgerModel" yX6_put yX6_put ∈ GW := mw_of (i := 76) (by decide +kernel) rfl
theorem mp_77 : Cond.selects "EveningLedgerModel" yX6_entries yX6_entries ∈ GW := mw_of (i := 77) (by decide +kernel) rfl
theorem mp_78 : Cond.selects "EveningLedgerModel" yX6_isEmpty yX6_isEmpty ∈ GW := mw_of (i := 78) (by decide +kernel) rfl
theorem mp_79 : Cond.selects "EveningLedgerModel" yX6_person yX6_person ∈ GW := mw_of (i := 79) (by decide +kernel) rfl
theorem mp_80 : Cond.selects "EveningLedgerModel" yX6_latest yX6_latest ∈ GW := mw_of (i := 80) (by decide +kernel) rfl
theorem mp_81 : Cond.selects "EveningLedgerModel" yX6_copySlot yX6_copySlot ∈ GW := mw_of (i := 81) (by decide +kernel) rfl
theorem mp_82 : Cond.selects "EveningLedgerModel" yX6_slot yX6_slot ∈ GW := mw_of (i := 82) (by decide +kernel) rfl
theorem mp_83 : Cond.selects "EveningLedgerModel" yX6_sheets yX6_sheets ∈ GW := mw_of (i := 83) (by decide +kernel) rfl
theorem mp_84 : Cond.selects "EveningLedgerModel" yX6_sumOf yX6_sumOf ∈ GW := mw_of (i := 84) (by decide +kernel) rfl
theorem mp_85 : Cond.selects "EveningLedgerModel" yX6_people yX6_people ∈ GW := mw_of (i := 85) (by decide +kernel) rfl
theorem mp_86 : Cond.selects "EveningLedgerModel" yX6_isOn yX6_isOn ∈ GW := mw_of (i := 86) (by decide +kernel) rfl
theorem mp_87 : Cond.selects "EveningLedgerModel" yX6_unlike yX6_unlike ∈ GW := mw_of (i := 87) (by decide +kernel) rfl
theorem mp_88 : Cond.selects "EveningLedgerModel" yX6_debtOf yX6_debtOf ∈ GW := mw_of (i := 88) (by decide +kernel) rfl
theorem mp_89 : Cond.selects "EveningLedgerModel" yX6_hasEntry yX6_hasEntry ∈ GW := mw_of (i := 89) (by decide +kernel) rfl
theorem mp_90 : Cond.selects "EveningLedgerModel" yX6_debtByNumber yX6_debtByNumber ∈ GW := mw_of (i := 90) (by decide +kernel) rfl
theorem mp_91 : Cond.selects "EveningLedgerModel" yX6_write_ yX6_write_ ∈ GW := mw_of (i := 91) (by decide +kernel) rfl
theorem mp_92 : Cond.selects "EveningLedgerModel" yX6_writeNumber yX6_writeNumber ∈ GW := mw_of (i := 92) (by decide +kernel) rfl
theorem mp_93 : Cond.selects "EveningLedgerModel" yX6_isOlder yX6_isOlder ∈ GW := mw_of (i := 93) (by decide +kernel) rfl
theorem mp_94 : Cond.selects "EveningLedgerModel" yX6_allEntries yX6_allEntries ∈ GW := mw_of (i := 94) (by decide +kernel) rfl
theorem mp_95 : Cond.selects "EveningLedgerModel" yX6_allDebts yX6_allDebts ∈ GW := mw_of (i := 95) (by decide +kernel) rfl
theorem mp_96 : Cond.selects "EveningLedgerModel" yX6_otherAccount yX6_otherAccount ∈ GW := mw_of (i := 96) (by decide +kernel) rfl
theorem mp_97 : Cond.selects "EveningLedgerModel" yX6_countCommands yX6_countCommands ∈ GW := mw_of (i := 97) (by decide +kernel) rfl
theorem mp_98 : Cond.selects "EveningLedgerModel" yX6_readCommand yX6_readCommand ∈ GW := mw_of (i := 98) (by decide +kernel) rfl
theorem mp_99 : Cond.selects "EveningLedgerModel" yX6_takes yX6_takes ∈ GW := mw_of (i := 99) (by decide +kernel) rfl
theorem mp_100 : Cond.selects "EveningLedgerModel" yX6_sees yX6_sees ∈ GW := mw_of (i := 100) (by decide +kernel) rfl
theorem mp_101 : Cond.selects "EveningLedgerModel" yX6_readNumber yX6_readNumber ∈ GW := mw_of (i := 101) (by decide +kernel) rfl
theorem mp_102 : Cond.selects "EveningLedgerModel" yX6_readOne yX6_readOne ∈ GW := mw_of (i := 102) (by decide +kernel) rfl
theorem mp_103 : Cond.selects "EveningLedgerModel" yX6_readOfPage yX6_readOfPage ∈ GW := mw_of (i := 103) (by decide +kernel) rfl
theorem mp_104 : Cond.selects "EveningLedgerModel" yX6_readEntry yX6_readEntry ∈ GW := mw_of (i := 104) (by decide +kernel) rfl
theorem mp_105 : Cond.selects "EveningLedgerModel" yX6_carryOut yX6_carryOut ∈ GW := mw_of (i := 105) (by decide +kernel) rfl
theorem mw_0 : Cond.initialized "EveningLedgerLaw" ∈ GW := mw_of (i := 106) (by decide +kernel) rfl
theorem mw_1 : Cond.initialized "EveningLedger" ∈ GW := mw_of (i := 107) (by decide +kernel) rfl
theorem mw_2 : Cond.initialized "EveningLedger$Book" ∈ GW := mw_of (i := 108) (by decide +kernel) rfl
theorem mw_3 : Cond.initialized "EveningLedger$History" ∈ GW := mw_of (i := 109) (by decide +kernel) rfl
theorem mw_4 : Cond.initialized "EveningLedger$Refusal" ∈ GW := mw_of (i := 110) (by decide +kernel) rfl
theorem mw_5 : Cond.initialized "EveningLedger$Totals" ∈ GW := mw_of (i := 111) (by decide +kernel) rfl
theorem mw_6 : Cond.initialized "EveningLedger$Text" ∈ GW := mw_of (i := 112) (by decide +kernel) rfl
theorem mw_7 : Cond.initialized "java/lang/AbstractStringBuilder" ∈ GW := mw_of (i := 113) (by decide +kernel) rfl
theorem mw_8 : Cond.initialized "java/lang/StringBuilder" ∈ GW := mw_of (i := 114) (by decide +kernel) rfl
theorem mw_9 : Cond.initialized "java/lang/String" ∈ GW := mw_of (i := 115) (by decide +kernel) rfl
theorem mw_10 : Cond.initialized "java/lang/StringUTF16" ∈ GW := mw_of (i := 116) (by decide +kernel) rfl
theorem mw_11 : Cond.initialized "EveningLedgerModel" ∈ GW := mw_of (i := 117) (by decide +kernel) rfl
theorem mw_12 : Cond.initialized "java/lang/Throwable" ∈ GW := mw_of (i := 118) (by decide +kernel) rfl
theorem mw_13 : Cond.initialized "java/lang/Exception" ∈ GW := mw_of (i := 119) (by decide +kernel) rfl
theorem mw_14 : Cond.initialized "java/lang/RuntimeException" ∈ GW := mw_of (i := 120) (by decide +kernel) rfl
theorem mw_15 : Cond.initialized "java/lang/IndexOutOfBoundsException" ∈ GW := mw_of (i := 121) (by decide +kernel) rfl
theorem mw_16 : Cond.initialized "java/lang/ArrayIndexOutOfBoundsException" ∈ GW := mw_of (i := 122) (by decide +kernel) rfl
theorem mw_17 : Cond.initialized "java/lang/IllegalArgumentException" ∈ GW := mw_of (i := 123) (by decide +kernel) rfl
theorem mw_18 : Cond.initialized "java/lang/UnsupportedOperationException" ∈ GW := mw_of (i := 124) (by decide +kernel) rfl
theorem mw_19 : Cond.initialized "java/lang/System" ∈ GW := mw_of (i := 125) (by decide +kernel) rfl
theorem mw_20 : Cond.initialized "java/lang/Math" ∈ GW := mw_of (i := 126) (by decide +kernel) rfl
theorem mw_21 : Cond.initialized "java/util/NoSuchElementException" ∈ GW := mw_of (i := 127) (by decide +kernel) rfl
theorem mw_22 : Cond.initialized "java/lang/Number" ∈ GW := mw_of (i := 128) (by decide +kernel) rfl
theorem mw_23 : Cond.initialized "java/lang/Integer" ∈ GW := mw_of (i := 129) (by decide +kernel) rfl
theorem mw_24 : Cond.initialized "java/lang/StringIndexOutOfBoundsException" ∈ GW := mw_of (i := 130) (by decide +kernel) rfl
theorem mw_25 : Cond.initialized "jdk/internal/util/ArraysSupport" ∈ GW := mw_of (i := 131) (by decide +kernel) rfl
theorem mw_26 : Cond.initialized "java/util/Arrays" ∈ GW := mw_of (i := 132) (by decide +kernel) rfl
theorem mw_27 : Cond.initialized "jdk/internal/util/Preconditions" ∈ GW := mw_of (i := 133) (by decide +kernel) rfl
theorem mw_28 : Cond.initialized "java/lang/StringLatin1" ∈ GW := mw_of (i := 134) (by decide +kernel) rfl
theorem mw_29 : Cond.initialized "java/lang/ArithmeticException" ∈ GW := mw_of (i := 135) (by decide +kernel) rfl
theorem mw_30 : Cond.initialized "java/lang/IllegalStateException" ∈ GW := mw_of (i := 136) (by decide +kernel) rfl
theorem mw_31 : Cond.classLink "EveningLedgerLaw" 8 "EveningLedger" ∈ GW := mw_of (i := 137) (by decide +kernel) rfl
theorem mw_32 : Cond.instantiable "EveningLedger" 10 ∈ GW := mw_of (i := 138) (by decide +kernel) rfl
theorem mw_33 : Cond.methodLink "EveningLedgerLaw" 134 yX5_init ∈ GW := mw_of (i := 139) (by decide +kernel) rfl
theorem mw_34 : Cond.instanceMethod yX5_init ∈ GW := mw_of (i := 140) (by decide +kernel) rfl
theorem mw_35 : Cond.code yX5_init prog_1_method_1_code 1 none ∈ GW := mw_of (i := 141) (by decide +kernel) rfl
theorem mw_36 : Cond.methodLink "EveningLedger" 3 Lib.objectInit ∈ GW := mw_of (i := 142) (by decide +kernel) rfl
theorem mw_37 : Cond.instanceMethod Lib.objectInit ∈ GW := mw_of (i := 143) (by decide +kernel) rfl
theorem mw_38 : Cond.code Lib.objectInit object_method_1_code 1 none ∈ GW := mw_of (i := 144) (by decide +kernel) rfl
theorem mw_39 : Cond.classLink "EveningLedger" 9 "EveningLedger$Book" ∈ GW := mw_of (i := 145) (by decide +kernel) rfl
theorem mw_40 : Cond.instantiable "EveningLedger$Book" 10 ∈ GW := mw_of (i := 146) (by decide +kernel) rfl
theorem nw_41 : Cond.methodLinkNest "EveningLedger" 11 yX0_init "EveningLedger" ∈ NW := nw_of (i := 147) (by decide +kernel) rfl
theorem mw_42 : Cond.instanceMethod yX0_init ∈ GW := mw_of (i := 148) (by decide +kernel) rfl
theorem mw_43 : Cond.code yX0_init prog_2_method_1_code 2 none ∈ GW := mw_of (i := 149) (by decide +kernel) rfl
theorem mw_44 : Cond.methodLink "EveningLedger$Book" 3 Lib.objectInit ∈ GW := mw_of (i := 150) (by decide +kernel) rfl
theorem mw_45 : Cond.fieldLink "EveningLedger$Book" 9 "EveningLedger$Book" "numbers" "[I" ∈ GW := mw_of (i := 151) (by decide +kernel) rfl
theorem nw_46 : Cond.fieldLinkNest "EveningLedger" 192 "EveningLedger$Book" "numbers" "[I" "EveningLedger" ∈ NW := nw_of (i := 152) (by decide +kernel) rfl
theorem mw_47 : Cond.fieldLink "EveningLedger$Book" 15 "EveningLedger$Book" "sheets" "[I" ∈ GW := mw_of (i := 153) (by decide +kernel) rfl
theorem mw_48 : Cond.fieldLink "EveningLedger$Book" 18 "EveningLedger$Book" "people" "[C" ∈ GW := mw_of (i := 154) (by decide +kernel) rfl
theorem nw_49 : Cond.fieldLinkNest "EveningLedger$Totals" 18 "EveningLedger$Book" "people" "[C" "EveningLedger" ∈ NW := nw_of (i := 155) (by decide +kernel) rfl
theorem mw_50 : Cond.fieldLink "EveningLedger$Book" 22 "EveningLedger$Book" "debts" "[I" ∈ GW := mw_of (i := 156) (by decide +kernel) rfl
theorem nw_51 : Cond.fieldLinkNest "EveningLedger$Totals" 24 "EveningLedger$Book" "debts" "[I" "EveningLedger" ∈ NW := nw_of (i := 157) (by decide +kernel) rfl
theorem mw_52 : Cond.fieldLink "EveningLedger$Book" 25 "EveningLedger$Book" "kept" "I" ∈ GW := mw_of (i := 158) (by decide +kernel) rfl
theorem nw_53 : Cond.fieldLinkNest "EveningLedger" 89 "EveningLedger$Book" "kept" "I" "EveningLedger" ∈ NW := nw_of (i := 159) (by decide +kernel) rfl
theorem nw_54 : Cond.fieldLinkNest "EveningLedger$Refusal" 18 "EveningLedger$Book" "kept" "I" "EveningLedger" ∈ NW := nw_of (i := 160) (by decide +kernel) rfl
theorem mw_55 : Cond.fieldLink "EveningLedger$Book" 29 "EveningLedger$Book" "latest" "I" ∈ GW := mw_of (i := 161) (by decide +kernel) rfl
theorem nw_56 : Cond.fieldLinkNest "EveningLedger$Refusal" 48 "EveningLedger$Book" "latest" "I" "EveningLedger" ∈ NW := nw_of (i := 162) (by decide +kernel) rfl
theorem nw_57 : Cond.fieldLinkNest "EveningLedger" 173 "EveningLedger$Book" "latest" "I" "EveningLedger" ∈ NW := nw_of (i := 163) (by decide +kernel) rfl
theorem mw_58 : Cond.fieldLink "EveningLedger$Book" 32 "EveningLedger$Book" "sheetsMade" "I" ∈ GW := mw_of (i := 164) (by decide +kernel) rfl
theorem nw_59 : Cond.fieldLinkNest "EveningLedger" 269 "EveningLedger$Book" "sheetsMade" "I" "EveningLedger" ∈ NW := nw_of (i := 165) (by decide +kernel) rfl
theorem mw_60 : Cond.fieldLink "EveningLedger$Book" 35 "EveningLedger$Book" "written" "I" ∈ GW := mw_of (i := 166) (by decide +kernel) rfl
theorem nw_61 : Cond.fieldLinkNest "EveningLedger" 272 "EveningLedger$Book" "written" "I" "EveningLedger" ∈ NW := nw_of (i := 167) (by decide +kernel) rfl
theorem mw_62 : Cond.fieldLink "EveningLedger$Book" 38 "EveningLedger$Book" "struck" "I" ∈ GW := mw_of (i := 168) (by decide +kernel) rfl
theorem nw_63 : Cond.fieldLinkNest "EveningLedger" 275 "EveningLedger$Book" "struck" "I" "EveningLedger" ∈ NW := nw_of (i := 169) (by decide +kernel) rfl
theorem mw_64 : Cond.fieldLink "EveningLedger$Book" 41 "EveningLedger$Book" "takenOver" "I" ∈ GW := mw_of (i := 170) (by decide +kernel) rfl
theorem nw_65 : Cond.fieldLinkNest "EveningLedger" 278 "EveningLedger$Book" "takenOver" "I" "EveningLedger" ∈ NW := nw_of (i := 171) (by decide +kernel) rfl
theorem mw_86 : Cond.superclass "EveningLedger$Book" "java/lang/Object" ∈ GW := mw_of (i := 192) (by decide +kernel) rfl
theorem mw_87 : Cond.arrayClass FieldType.int ∈ GW := mw_of (i := 193) (by decide +kernel) rfl
theorem mw_88 : Cond.arrayClass FieldType.char ∈ GW := mw_of (i := 194) (by decide +kernel) rfl
theorem mw_89 : Cond.classLink "EveningLedger" 22 "EveningLedger$History" ∈ GW := mw_of (i := 195) (by decide +kernel) rfl
theorem mw_90 : Cond.instantiable "EveningLedger$History" 3 ∈ GW := mw_of (i := 196) (by decide +kernel) rfl
theorem nw_91 : Cond.methodLinkNest "EveningLedger" 24 yX1_init "EveningLedger" ∈ NW := nw_of (i := 197) (by decide +kernel) rfl
theorem mw_92 : Cond.instanceMethod yX1_init ∈ GW := mw_of (i := 198) (by decide +kernel) rfl
theorem mw_93 : Cond.code yX1_init prog_3_method_1_code 2 none ∈ GW := mw_of (i := 199) (by decide +kernel) rfl
theorem mw_94 : Cond.methodLink "EveningLedger$History" 3 Lib.objectInit ∈ GW := mw_of (i := 200) (by decide +kernel) rfl
theorem mw_95 : Cond.classLink "EveningLedger$History" 9 "EveningLedger$Book" ∈ GW := mw_of (i := 201) (by decide +kernel) rfl
theorem nw_97 : Cond.methodLinkNest "EveningLedger$History" 24 yX0_init "EveningLedger" ∈ NW := nw_of (i := 203) (by decide +kernel) rfl
theorem mw_98 : Cond.fieldLink "EveningLedger$History" 11 "EveningLedger$History" "books" "[LEveningLedger$Book;" ∈ GW := mw_of (i := 204) (by decide +kernel) rfl
theorem mw_99 : Cond.fieldLink "EveningLedger$History" 17 "EveningLedger$History" "next" "I" ∈ GW := mw_of (i := 205) (by decide +kernel) rfl
theorem mw_100 : Cond.fieldLink "EveningLedger$History" 21 "EveningLedger$History" "size" "I" ∈ GW := mw_of (i := 206) (by decide +kernel) rfl
theorem nw_101 : Cond.fieldLinkNest "EveningLedger" 284 "EveningLedger$History" "size" "I" "EveningLedger" ∈ NW := nw_of (i := 207) (by decide +kernel) rfl
theorem mw_108 : Cond.superclass "EveningLedger$History" "java/lang/Object" ∈ GW := mw_of (i := 214) (by decide +kernel) rfl
theorem mw_109 : Cond.classLink "EveningLedger" 29 "EveningLedger$Refusal" ∈ GW := mw_of (i := 215) (by decide +kernel) rfl
theorem mw_110 : Cond.instantiable "EveningLedger$Refusal" 2 ∈ GW := mw_of (i := 216) (by decide +kernel) rfl
theorem nw_111 : Cond.methodLinkNest "EveningLedger" 31 yX2_init "EveningLedger" ∈ NW := nw_of (i := 217) (by decide +kernel) rfl
theorem mw_112 : Cond.instanceMethod yX2_init ∈ GW := mw_of (i := 218) (by decide +kernel) rfl
theorem mw_113 : Cond.code yX2_init prog_4_method_1_code 1 none ∈ GW := mw_of (i := 219) (by decide +kernel) rfl
theorem mw_114 : Cond.methodLink "EveningLedger$Refusal" 3 Lib.objectInit ∈ GW := mw_of (i := 220) (by decide +kernel) rfl
theorem mw_115 : Cond.fieldLink "EveningLedger$Refusal" 9 "EveningLedger$Refusal" "number" "I" ∈ GW := mw_of (i := 221) (by decide +kernel) rfl
theorem nw_116 : Cond.fieldLinkNest "EveningLedger" 305 "EveningLedger$Refusal" "number" "I" "EveningLedger" ∈ NW := nw_of (i := 222) (by decide +kernel) rfl
theorem mw_117 : Cond.fieldLink "EveningLedger$Refusal" 15 "EveningLedger$Refusal" "detail" "I" ∈ GW := mw_of (i := 223) (by decide +kernel) rfl
theorem nw_118 : Cond.fieldLinkNest "EveningLedger" 308 "EveningLedger$Refusal" "detail" "I" "EveningLedger" ∈ NW := nw_of (i := 224) (by decide +kernel) rfl
theorem mw_123 : Cond.superclass "EveningLedger$Refusal" "java/lang/Object" ∈ GW := mw_of (i := 229) (by decide +kernel) rfl
theorem mw_124 : Cond.classLink "EveningLedger" 36 "EveningLedger$Totals" ∈ GW := mw_of (i := 230) (by decide +kernel) rfl
theorem mw_125 : Cond.instantiable "EveningLedger$Totals" 2 ∈ GW := mw_of (i := 231) (by decide +kernel) rfl
theorem nw_126 : Cond.methodLinkNest "EveningLedger" 38 yX4_init "EveningLedger" ∈ NW := nw_of (i := 232) (by decide +kernel) rfl
theorem mw_127 : Cond.instanceMethod yX4_init ∈ GW := mw_of (i := 233) (by decide +kernel) rfl
theorem mw_128 : Cond.code yX4_init prog_6_method_1_code 1 none ∈ GW := mw_of (i := 234) (by decide +kernel) rfl
theorem mw_129 : Cond.methodLink "EveningLedger$Totals" 3 Lib.objectInit ∈ GW := mw_of (i := 235) (by decide +kernel) rfl
theorem mw_130 : Cond.fieldLink "EveningLedger$Totals" 9 "EveningLedger$Totals" "sums" "[I" ∈ GW := mw_of (i := 236) (by decide +kernel) rfl
theorem mw_131 : Cond.fieldLink "EveningLedger$Totals" 15 "EveningLedger$Totals" "entries" "[I" ∈ GW := mw_of (i := 237) (by decide +kernel) rfl
theorem mw_136 : Cond.superclass "EveningLedger$Totals" "java/lang/Object" ∈ GW := mw_of (i := 242) (by decide +kernel) rfl
theorem mw_137 : Cond.classLink "EveningLedger" 43 "EveningLedger$Text" ∈ GW := mw_of (i := 243) (by decide +kernel) rfl
theorem mw_138 : Cond.instantiable "EveningLedger$Text" 7 ∈ GW := mw_of (i := 244) (by decide +kernel) rfl
theorem nw_139 : Cond.methodLinkNest "EveningLedger" 45 yX3_init "EveningLedger" ∈ NW := nw_of (i := 245) (by decide +kernel) rfl
theorem mw_140 : Cond.instanceMethod yX3_init ∈ GW := mw_of (i := 246) (by decide +kernel) rfl
theorem mw_141 : Cond.code yX3_init prog_5_method_1_code 1 none ∈ GW := mw_of (i := 247) (by decide +kernel) rfl
theorem mw_142 : Cond.methodLink "EveningLedger$Text" 3 Lib.objectInit ∈ GW := mw_of (i := 248) (by decide +kernel) rfl
theorem mw_143 : Cond.classLink "EveningLedger$Text" 9 "java/lang/StringBuilder" ∈ GW := mw_of (i := 249) (by decide +kernel) rfl
theorem mw_144 : Cond.instantiable "java/lang/StringBuilder" 4 ∈ GW := mw_of (i := 250) (by decide +kernel) rfl
theorem mw_145 : Cond.methodLink "EveningLedger$Text" 11 yJ4_init_da8c8 ∈ GW := mw_of (i := 251) (by decide +kernel) rfl
theorem mw_146 : Cond.instanceMethod yJ4_init_da8c8 ∈ GW := mw_of (i := 252) (by decide +kernel) rfl
theorem mw_147 : Cond.code yJ4_init_da8c8 prog_26_method_1_code 1 none ∈ GW := mw_of (i := 253) (by decide +kernel) rfl
theorem mw_148 : Cond.methodLink "java/lang/StringBuilder" 1 yJ5_init_d00df ∈ GW := mw_of (i := 254) (by decide +kernel) rfl
theorem mw_149 : Cond.instanceMethod yJ5_init_d00df ∈ GW := mw_of (i := 255) (by decide +kernel) rfl
theorem mw_150 : Cond.code yJ5_init_d00df prog_10_method_2_code 2 none ∈ GW := mw_of (i := 256) (by decide +kernel) rfl
theorem mw_151 : Cond.methodLink "java/lang/AbstractStringBuilder" 3 Lib.objectInit ∈ GW := mw_of (i := 257) (by decide +kernel) rfl
theorem mw_152 : Cond.fieldLink "java/lang/AbstractStringBuilder" 18 "java/lang/String" "COMPACT_STRINGS" "Z" ∈ GW := mw_of (i := 258) (by decide +kernel) rfl
theorem mw_154 : Cond.methodLink "java/lang/AbstractStringBuilder" 26 yJ2_newBytesFor_77867 ∈ GW := mw_of (i := 260) (by decide +kernel) rfl
theorem mw_155 : Cond.static yJ2_newBytesFor_77867 ∈ GW := mw_of (i := 261) (by decide +kernel) rfl
theorem mw_156 : Cond.code yJ2_newBytesFor_77867 prog_29_method_2_code 1 (some (FieldType.array FieldType.byte)) ∈ GW := mw_of (i := 262) (by decide +kernel) rfl
theorem mw_157 : Cond.methodLink "java/lang/StringUTF16" 11 yJ2_newBytesLength_0f7a4 ∈ GW := mw_of (i := 263) (by decide +kernel) rfl
theorem mw_158 : Cond.static yJ2_newBytesLength_0f7a4 ∈ GW := mw_of (i := 264) (by decide +kernel) rfl
theorem mw_159 : Cond.code yJ2_newBytesLength_0f7a4 prog_29_method_3_code 1 (some .int) ∈ GW := mw_of (i := 265) (by decide +kernel) rfl
theorem mw_160 : Cond.constant "java/lang/StringUTF16" 20 (1073741823 : Int32) ∈ GW := mw_of (i := 266) (by decide +kernel) rfl
theorem mw_161 : Cond.fieldLink "java/lang/AbstractStringBuilder" 15 "java/lang/AbstractStringBuilder" "value" "[B" ∈ GW := mw_of (i := 267) (by decide +kernel) rfl
theorem mw_162 : Cond.fieldLink "java/lang/AbstractStringBuilder" 22 "java/lang/AbstractStringBuilder" "coder" "B" ∈ GW := mw_of (i := 268) (by decide +kernel) rfl
theorem mw_163 : Cond.fieldLink "java/lang/AbstractStringBuilder" 73 "java/lang/AbstractStringBuilder" "maybeLatin1" "Z" ∈ GW := mw_of (i := 269) (by decide +kernel) rfl
theorem mw_164 : Cond.fieldLink "java/lang/String" 1048 "java/lang/AbstractStringBuilder" "maybeLatin1" "Z" ∈ GW := mw_of (i := 270) (by decide +kernel) rfl
theorem mw_165 : Cond.fieldLink "java/lang/AbstractStringBuilder" 79 "java/lang/AbstractStringBuilder" "count" "I" ∈ GW := mw_of (i := 271) (by decide +kernel) rfl
theorem mw_174 : Cond.superclass "java/lang/StringBuilder" "java/lang/AbstractStringBuilder" ∈ GW := mw_of (i := 280) (by decide +kernel) rfl
theorem mw_175 : Cond.arrayClass FieldType.byte ∈ GW := mw_of (i := 281) (by decide +kernel) rfl
theorem mw_176 : Cond.fieldLink "EveningLedger$Text" 12 "EveningLedger$Text" "signs" "Ljava/lang/StringBuilder;" ∈ GW := mw_of (i := 282) (by decide +kernel) rfl
theorem nw_177 : Cond.fieldLinkNest "EveningLedger" 281 "EveningLedger$Text" "signs" "Ljava/lang/StringBuilder;" "EveningLedger" ∈ NW := nw_of (i := 283) (by decide +kernel) rfl
theorem mw_178 : Cond.fieldLink "EveningLedger$Text" 18 "EveningLedger$Text" "at" "I" ∈ GW := mw_of (i := 284) (by decide +kernel) rfl
theorem nw_179 : Cond.fieldLinkNest "EveningLedger" 293 "EveningLedger$Text" "at" "I" "EveningLedger" ∈ NW := nw_of (i := 285) (by decide +kernel) rfl
theorem mw_180 : Cond.fieldLink "EveningLedger$Text" 22 "EveningLedger$Text" "kind" "I" ∈ GW := mw_of (i := 286) (by decide +kernel) rfl
theorem nw_181 : Cond.fieldLinkNest "EveningLedger" 352 "EveningLedger$Text" "kind" "I" "EveningLedger" ∈ NW := nw_of (i := 287) (by decide +kernel) rfl
theorem mw_182 : Cond.fieldLink "EveningLedger$Text" 25 "EveningLedger$Text" "page" "I" ∈ GW := mw_of (i := 288) (by decide +kernel) rfl
theorem nw_183 : Cond.fieldLinkNest "EveningLedger" 355 "EveningLedger$Text" "page" "I" "EveningLedger" ∈ NW := nw_of (i := 289) (by decide +kernel) rfl
theorem mw_184 : Cond.fieldLink "EveningLedger$Text" 28 "EveningLedger$Text" "place" "I" ∈ GW := mw_of (i := 290) (by decide +kernel) rfl
theorem nw_185 : Cond.fieldLinkNest "EveningLedger" 358 "EveningLedger$Text" "place" "I" "EveningLedger" ∈ NW := nw_of (i := 291) (by decide +kernel) rfl
theorem mw_186 : Cond.fieldLink "EveningLedger$Text" 31 "EveningLedger$Text" "letter" "C" ∈ GW := mw_of (i := 292) (by decide +kernel) rfl
theorem nw_187 : Cond.fieldLinkNest "EveningLedger" 361 "EveningLedger$Text" "letter" "C" "EveningLedger" ∈ NW := nw_of (i := 293) (by decide +kernel) rfl
theorem mw_188 : Cond.fieldLink "EveningLedger$Text" 35 "EveningLedger$Text" "number" "I" ∈ GW := mw_of (i := 294) (by decide +kernel) rfl
theorem nw_189 : Cond.fieldLinkNest "EveningLedger" 365 "EveningLedger$Text" "number" "I" "EveningLedger" ∈ NW := nw_of (i := 295) (by decide +kernel) rfl
theorem mw_204 : Cond.superclass "EveningLedger$Text" "java/lang/Object" ∈ GW := mw_of (i := 310) (by decide +kernel) rfl
theorem mw_205 : Cond.classLink "EveningLedger" 50 "java/lang/StringBuilder" ∈ GW := mw_of (i := 311) (by decide +kernel) rfl
theorem mw_206 : Cond.methodLink "EveningLedger" 52 yJ4_init_da8c8 ∈ GW := mw_of (i := 312) (by decide +kernel) rfl
theorem mw_207 : Cond.fieldLink "EveningLedger" 12 "EveningLedger" "book" "LEveningLedger$Book;" ∈ GW := mw_of (i := 313) (by decide +kernel) rfl
theorem mw_208 : Cond.fieldLink "EveningLedger" 16 "EveningLedger" "draft" "LEveningLedger$Book;" ∈ GW := mw_of (i := 314) (by decide +kernel) rfl
theorem mw_209 : Cond.fieldLink "EveningLedger" 19 "EveningLedger" "saved" "LEveningLedger$Book;" ∈ GW := mw_of (i := 315) (by decide +kernel) rfl
theorem mw_210 : Cond.fieldLink "EveningLedger" 25 "EveningLedger" "history" "LEveningLedger$History;" ∈ GW := mw_of (i := 316) (by decide +kernel) rfl
theorem mw_211 : Cond.fieldLink "EveningLedger" 32 "EveningLedger" "refusal" "LEveningLedger$Refusal;" ∈ GW := mw_of (i := 317) (by decide +kernel) rfl
theorem mw_212 : Cond.fieldLink "EveningLedger" 39 "EveningLedger" "totals" "LEveningLedger$Totals;" ∈ GW := mw_of (i := 318) (by decide +kernel) rfl
theorem mw_213 : Cond.fieldLink "EveningLedger" 46 "EveningLedger" "text" "LEveningLedger$Text;" ∈ GW := mw_of (i := 319) (by decide +kernel) rfl
theorem mw_214 : Cond.fieldLink "EveningLedger" 53 "EveningLedger" "line" "Ljava/lang/StringBuilder;" ∈ GW := mw_of (i := 320) (by decide +kernel) rfl
theorem mw_215 : Cond.fieldLink "EveningLedger" 57 "EveningLedger" "isSaved" "Z" ∈ GW := mw_of (i := 321) (by decide +kernel) rfl
theorem mw_216 : Cond.fieldLink "EveningLedger" 61 "EveningLedger" "keptErrorPosition" "I" ∈ GW := mw_of (i := 322) (by decide +kernel) rfl
theorem mw_237 : Cond.superclass "EveningLedger" "java/lang/Object" ∈ GW := mw_of (i := 343) (by decide +kernel) rfl
theorem mw_238 : Cond.methodLink "EveningLedgerLaw" 230 yX5_aloneShare ∈ GW := mw_of (i := 344) (by decide +kernel) rfl
theorem mw_239 : Cond.instanceMethod yX5_aloneShare ∈ GW := mw_of (i := 345) (by decide +kernel) rfl
theorem mw_240 : Cond.selects "EveningLedger" yX5_aloneShare yX5_aloneShare ∈ GW := mw_of (i := 346) (by decide +kernel) rfl
theorem mw_241 : Cond.code yX5_aloneShare prog_1_method_28_code 4 (some .float) ∈ GW := mw_of (i := 347) (by decide +kernel) rfl
theorem nw_242 : Cond.methodLinkNest "EveningLedger" 185 yX0_pagesAlone "EveningLedger" ∈ NW := nw_of (i := 348) (by decide +kernel) rfl
theorem mw_244 : Cond.instanceMethod yX0_pagesAlone ∈ GW := mw_of (i := 350) (by decide +kernel) rfl
theorem mw_245 : Cond.code yX0_pagesAlone prog_2_method_9_code 4 (some .int) ∈ GW := mw_of (i := 351) (by decide +kernel) rfl
theorem mw_246 : Cond.methodLink "EveningLedger$Book" 54 yX0_sheetOn ∈ GW := mw_of (i := 352) (by decide +kernel) rfl
theorem mw_248 : Cond.instanceMethod yX0_sheetOn ∈ GW := mw_of (i := 354) (by decide +kernel) rfl
theorem mw_249 : Cond.code yX0_sheetOn prog_2_method_7_code 3 (some .int) ∈ GW := mw_of (i := 355) (by decide +kernel) rfl
theorem mw_250 : Cond.methodLink "EveningLedger$Book" 58 yX0_daysWithSheet ∈ GW := mw_of (i := 356) (by decide +kernel) rfl
theorem mw_252 : Cond.instanceMethod yX0_daysWithSheet ∈ GW := mw_of (i := 358) (by decide +kernel) rfl
theorem mw_253 : Cond.code yX0_daysWithSheet prog_2_method_8_code 6 (some .int) ∈ GW := mw_of (i := 359) (by decide +kernel) rfl
theorem mw_254 : Cond.methodLink "EveningLedgerLaw" 254 yX5_save ∈ GW := mw_of (i := 360) (by decide +kernel) rfl
theorem mw_255 : Cond.instanceMethod yX5_save ∈ GW := mw_of (i := 361) (by decide +kernel) rfl
theorem mw_256 : Cond.selects "EveningLedger" yX5_save yX5_save ∈ GW := mw_of (i := 362) (by decide +kernel) rfl
theorem mw_257 : Cond.code yX5_save prog_1_method_35_code 1 (some .int) ∈ GW := mw_of (i := 363) (by decide +kernel) rfl
theorem nw_258 : Cond.methodLinkNest "EveningLedger" 299 yX0_copyFrom "EveningLedger" ∈ NW := nw_of (i := 364) (by decide +kernel) rfl
theorem mw_260 : Cond.instanceMethod yX0_copyFrom ∈ GW := mw_of (i := 366) (by decide +kernel) rfl
theorem mw_261 : Cond.code yX0_copyFrom prog_2_method_2_code 2 none ∈ GW := mw_of (i := 367) (by decide +kernel) rfl
theorem mw_262 : Cond.methodLink "EveningLedger$Book" 44 ({ cls := "java/lang/System", name := "arraycopy", desc := "(Ljava/lang/Object;ILjava/lang/Object;II)V" } : MethodName) ∈ GW := mw_of (i := 368) (by decide +kernel) rfl
theorem mw_263 : Cond.static ({ cls := "java/lang/System", name := "arraycopy", desc := "(Ljava/lang/Object;ILjava/lang/Object;II)V" } : MethodName) ∈ GW := mw_of (i := 369) (by decide +kernel) rfl
theorem mw_264 : Cond.native ({ cls := "java/lang/System", name := "arraycopy", desc := "(Ljava/lang/Object;ILjava/lang/Object;II)V" } : MethodName) ∈ GW := mw_of (i := 370) (by decide +kernel) rfl
theorem mw_265 : Cond.methodLink "EveningLedgerLaw" 138 yL_write ∈ GW := mw_of (i := 371) (by decide +kernel) rfl
theorem mw_266 : Cond.static yL_write ∈ GW := mw_of (i := 372) (by decide +kernel) rfl
theorem mw_267 : Cond.codeWith yL_write method_3_code 7 (some .int) [(0, 14, 17, 13), (0, 14, 21, 15), (0, 14, 25, 17)] ∈ GW := mw_of (i := 373) (by decide +kernel) rfl
theorem mw_268 : Cond.classLink "EveningLedgerLaw" 13 "java/lang/IndexOutOfBoundsException" ∈ GW := mw_of (i := 374) (by decide +kernel) rfl
theorem mw_269 : Cond.instantiable "java/lang/ArrayIndexOutOfBoundsException" 6 ∈ GW := mw_of (i := 375) (by decide +kernel) rfl
theorem mw_270 : Cond.instanceMethod yJx00060_init_a7421 ∈ GW := mw_of (i := 376) (by decide +kernel) rfl
theorem mw_271 : Cond.code yJx00060_init_a7421 prog_13_method_2_code 2 none ∈ GW := mw_of (i := 377) (by decide +kernel) rfl
theorem mw_272 : Cond.methodLink "java/lang/ArrayIndexOutOfBoundsException" 7 ({ cls := "java/lang/IndexOutOfBoundsException", name := "<init>", desc := "(Ljava/lang/String;)V" } : MethodName) ∈ GW := mw_of (i := 378) (by decide +kernel) rfl
theorem mw_273 : Cond.instanceMethod ({ cls := "java/lang/IndexOutOfBoundsException", name := "<init>", desc := "(Ljava/lang/String;)V" } : MethodName) ∈ GW := mw_of (i := 379) (by decide +kernel) rfl
theorem mw_274 : Cond.code ({ cls := "java/lang/IndexOutOfBoundsException", name := "<init>", desc := "(Ljava/lang/String;)V" } : MethodName) prog_20_method_2_code 2 none ∈ GW := mw_of (i := 380) (by decide +kernel) rfl
theorem mw_275 : Cond.methodLink "java/lang/IndexOutOfBoundsException" 7 ({ cls := "java/lang/RuntimeException", name := "<init>", desc := "(Ljava/lang/String;)V" } : MethodName) ∈ GW := mw_of (i := 381) (by decide +kernel) rfl
theorem mw_276 : Cond.instanceMethod ({ cls := "java/lang/RuntimeException", name := "<init>", desc := "(Ljava/lang/String;)V" } : MethodName) ∈ GW := mw_of (i := 382) (by decide +kernel) rfl
theorem mw_277 : Cond.code ({ cls := "java/lang/RuntimeException", name := "<init>", desc := "(Ljava/lang/String;)V" } : MethodName) prog_24_method_2_code 2 none ∈ GW := mw_of (i := 383) (by decide +kernel) rfl
theorem mw_278 : Cond.methodLink "java/lang/RuntimeException" 7 ({ cls := "java/lang/Exception", name := "<init>", desc := "(Ljava/lang/String;)V" } : MethodName) ∈ GW := mw_of (i := 384) (by decide +kernel) rfl
theorem mw_279 : Cond.instanceMethod ({ cls := "java/lang/Exception", name := "<init>", desc := "(Ljava/lang/String;)V" } : MethodName) ∈ GW := mw_of (i := 385) (by decide +kernel) rfl
theorem mw_280 : Cond.code ({ cls := "java/lang/Exception", name := "<init>", desc := "(Ljava/lang/String;)V" } : MethodName) prog_17_method_2_code 2 none ∈ GW := mw_of (i := 386) (by decide +kernel) rfl
theorem mw_281 : Cond.methodLink "java/lang/Exception" 7 ({ cls := "java/lang/Throwable", name := "<init>", desc := "(Ljava/lang/String;)V" } : MethodName) ∈ GW := mw_of (i := 387) (by decide +kernel) rfl
theorem mw_282 : Cond.instanceMethod ({ cls := "java/lang/Throwable", name := "<init>", desc := "(Ljava/lang/String;)V" } : MethodName) ∈ GW := mw_of (i := 388) (by decide +kernel) rfl
theorem mw_283 : Cond.code ({ cls := "java/lang/Throwable", name := "<init>", desc := "(Ljava/lang/String;)V" } : MethodName) prog_31_method_2_code 2 none ∈ GW := mw_of (i := 389) (by decide +kernel) rfl
theorem mw_284 : Cond.methodLink "java/lang/Throwable" 1 Lib.objectInit ∈ GW := mw_of (i := 390) (by decide +kernel) rfl
theorem mw_285 : Cond.fieldLink "java/lang/Throwable" 13 "java/lang/Throwable" "UNASSIGNED_STACK" "[Ljava/lang/StackTraceElement;" ∈ GW := mw_of (i := 391) (by decide +kernel) rfl
theorem mw_287 : Cond.fieldLink "java/lang/Throwable" 20 "java/lang/Throwable" "SUPPRESSED_SENTINEL" "Ljava/util/List;" ∈ GW := mw_of (i := 393) (by decide +kernel) rfl
theorem mw_289 : Cond.methodLink "java/lang/Throwable" 27 ({ cls := "java/lang/Throwable", name := "fillInStackTrace", desc := "()Ljava/lang/Throwable;" } : MethodName) ∈ GW := mw_of (i := 395) (by decide +kernel) rfl
theorem mw_290 : Cond.instanceMethod ({ cls := "java/lang/Throwable", name := "fillInStackTrace", desc := "()Ljava/lang/Throwable;" } : MethodName) ∈ GW := mw_of (i := 396) (by decide +kernel) rfl
theorem mw_291 : Cond.sameMethod "java/lang/Throwable" "java/lang/Throwable" "fillInStackTrace" "()Ljava/lang/Throwable;" ∈ GW := mw_of (i := 397) (by decide +kernel) rfl
theorem mw_292 : Cond.selects "java/lang/ArithmeticException" ({ cls := "java/lang/Throwable", name := "fillInStackTrace", desc := "()Ljava/lang/Throwable;" } : MethodName) ({ cls := "java/lang/Throwable", name := "fillInStackTrace", desc := "()Ljava/lang/Throwable;" } : MethodName) ∈ GW := mw_of (i := 398) (by decide +kernel) rfl
theorem mw_293 : Cond.selects "java/lang/ArrayIndexOutOfBoundsException" ({ cls := "java/lang/Throwable", name := "fillInStackTrace", desc := "()Ljava/lang/Throwable;" } : MethodName) ({ cls := "java/lang/Throwable", name := "fillInStackTrace", desc := "()Ljava/lang/Throwable;" } : MethodName) ∈ GW := mw_of (i := 399) (by decide +kernel) rfl
theorem mw_294 : Cond.selects "java/lang/IllegalArgumentException" ({ cls := "java/lang/Throwable", name := "fillInStackTrace", desc := "()Ljava/lang/Throwable;" } : MethodName) ({ cls := "java/lang/Throwable", name := "fillInStackTrace", desc := "()Ljava/lang/Throwable;" } : MethodName) ∈ GW := mw_of (i := 400) (by decide +kernel) rfl
theorem mw_295 : Cond.selects "java/lang/IllegalStateException" ({ cls := "java/lang/Throwable", name := "fillInStackTrace", desc := "()Ljava/lang/Throwable;" } : MethodName) ({ cls := "java/lang/Throwable", name := "fillInStackTrace", desc := "()Ljava/lang/Throwable;" } : MethodName) ∈ GW := mw_of (i := 401) (by decide +kernel) rfl
theorem mw_296 : Cond.selects "java/lang/IndexOutOfBoundsException" ({ cls := "java/lang/Throwable", name := "fillInStackTrace", desc := "()Ljava/lang/Throwable;" } : MethodName) ({ cls := "java/lang/Throwable", name := "fillInStackTrace", desc := "()Ljava/lang/Throwable;" } : MethodName) ∈ GW := mw_of (i := 402) (by decide +kernel) rfl
theorem mw_297 : Cond.selects "java/lang/StringIndexOutOfBoundsException" ({ cls := "java/lang/Throwable", name := "fillInStackTrace", desc := "()Ljava/lang/Throwable;" } : MethodName) ({ cls := "java/lang/Throwable", name := "fillInStackTrace", desc := "()Ljava/lang/Throwable;" } : MethodName) ∈ GW := mw_of (i := 403) (by decide +kernel) rfl
theorem mw_298 : Cond.selects "java/lang/UnsupportedOperationException" ({ cls := "java/lang/Throwable", name := "fillInStackTrace", desc := "()Ljava/lang/Throwable;" } : MethodName) ({ cls := "java/lang/Throwable", name := "fillInStackTrace", desc := "()Ljava/lang/Throwable;" } : MethodName) ∈ GW := mw_of (i := 404) (by decide +kernel) rfl
theorem mw_299 : Cond.selects "java/util/NoSuchElementException" ({ cls := "java/lang/Throwable", name := "fillInStackTrace", desc := "()Ljava/lang/Throwable;" } : MethodName) ({ cls := "java/lang/Throwable", name := "fillInStackTrace", desc := "()Ljava/lang/Throwable;" } : MethodName) ∈ GW := mw_of (i := 405) (by decide +kernel) rfl
theorem mw_301 : Cond.methodLink "java/lang/Throwable" 202 ({ cls := "java/lang/Throwable", name := "fillInStackTrace", desc := "(I)Ljava/lang/Throwable;" } : MethodName) ∈ GW := mw_of (i := 407) (by decide +kernel) rfl
theorem mw_303 : Cond.instanceMethod ({ cls := "java/lang/Throwable", name := "fillInStackTrace", desc := "(I)Ljava/lang/Throwable;" } : MethodName) ∈ GW := mw_of (i := 409) (by decide +kernel) rfl
theorem mw_304 : Cond.instantiable "java/lang/Throwable" 6 ∈ GW := mw_of (i := 410) (by decide +kernel) rfl
theorem mw_305 : Cond.native ({ cls := "java/lang/Throwable", name := "fillInStackTrace", desc := "(I)Ljava/lang/Throwable;" } : MethodName) ∈ GW := mw_of (i := 411) (by decide +kernel) rfl
theorem mw_306 : Cond.fieldLink "java/lang/Throwable" 198 "java/lang/Throwable" "backtrace" "Ljava/lang/Object;" ∈ GW := mw_of (i := 412) (by decide +kernel) rfl
theorem mw_307 : Cond.fieldLink "java/lang/Throwable" 31 "java/lang/Throwable" "detailMessage" "Ljava/lang/String;" ∈ GW := mw_of (i := 413) (by decide +kernel) rfl
theorem mw_308 : Cond.fieldLink "java/lang/Throwable" 7 "java/lang/Throwable" "cause" "Ljava/lang/Throwable;" ∈ GW := mw_of (i := 414) (by decide +kernel) rfl
theorem mw_309 : Cond.fieldLink "java/lang/Throwable" 17 "java/lang/Throwable" "stackTrace" "[Ljava/lang/StackTraceElement;" ∈ GW := mw_of (i := 415) (by decide +kernel) rfl
theorem mw_310 : Cond.fieldLink "java/lang/Throwable" 24 "java/lang/Throwable" "suppressedExceptions" "Ljava/util/List;" ∈ GW := mw_of (i := 416) (by decide +kernel) rfl
theorem mw_323 : Cond.superclass "java/lang/ArrayIndexOutOfBoundsException" "java/lang/IndexOutOfBoundsException" ∈ GW := mw_of (i := 429) (by decide +kernel) rfl
theorem nw_324 : Cond.castable "java/lang/ArrayIndexOutOfBoundsException" "java/lang/ArrayIndexOutOfBoundsException" ∈ NW := nw_of (i := 430) (by decide +kernel) rfl
theorem nw_325 : Cond.declares ({ cls := "java/lang/IndexOutOfBoundsException", name := "<init>", desc := "()V" } : MethodName) ∈ NW := nw_of (i := 431) (by decide +kernel) rfl
theorem nw_326 : Cond.declares ({ cls := "java/lang/IndexOutOfBoundsException", name := "<init>", desc := "(Ljava/lang/String;)V" } : MethodName) ∈ NW := nw_of (i := 432) (by decide +kernel) rfl
theorem nw_327 : Cond.declares ({ cls := "java/lang/RuntimeException", name := "<init>", desc := "()V" } : MethodName) ∈ NW := nw_of (i := 433) (by decide +kernel) rfl
theorem nw_328 : Cond.declares ({ cls := "java/lang/RuntimeException", name := "<init>", desc := "(Ljava/lang/String;)V" } : MethodName) ∈ NW := nw_of (i := 434) (by decide +kernel) rfl
theorem nw_329 : Cond.declares ({ cls := "java/lang/Exception", name := "<init>", desc := "()V" } : MethodName) ∈ NW := nw_of (i := 435) (by decide +kernel) rfl
theorem nw_330 : Cond.declares ({ cls := "java/lang/Exception", name := "<init>", desc := "(Ljava/lang/String;)V" } : MethodName) ∈ NW := nw_of (i := 436) (by decide +kernel) rfl
theorem nw_331 : Cond.declares ({ cls := "java/lang/Throwable", name := "<init>", desc := "()V" } : MethodName) ∈ NW := nw_of (i := 437) (by decide +kernel) rfl
theorem nw_332 : Cond.declares ({ cls := "java/lang/Throwable", name := "<init>", desc := "(Ljava/lang/String;)V" } : MethodName) ∈ NW := nw_of (i := 438) (by decide +kernel) rfl
theorem mw_333 : Cond.selects "java/lang/ArrayIndexOutOfBoundsException" ({ cls := "java/lang/Throwable", name := "fillInStackTrace", desc := "(I)Ljava/lang/Throwable;" } : MethodName) ({ cls := "java/lang/Throwable", name := "fillInStackTrace", desc := "(I)Ljava/lang/Throwable;" } : MethodName) ∈ GW := mw_of (i := 439) (by decide +kernel) rfl
theorem mw_339 : Cond.fieldLink "java/lang/Throwable" 198 "java/lang/Throwable" "backtrace" "Ljava/lang/Object;" ∈ GW := mw_of (i := 445) (by decide +kernel) rfl
theorem mw_340 : Cond.superclass "java/lang/Throwable" "java/lang/Object" ∈ GW := mw_of (i := 446) (by decide +kernel) rfl
theorem mw_341 : Cond.instanceMethod ({ cls := "java/lang/Throwable", name := "<init>", desc := "()V" } : MethodName) ∈ GW := mw_of (i := 447) (by decide +kernel) rfl
theorem mw_342 : Cond.code ({ cls := "java/lang/Throwable", name := "<init>", desc := "()V" } : MethodName) prog_31_method_1_code 1 none ∈ GW := mw_of (i := 448) (by decide +kernel) rfl
theorem mw_343 : Cond.instantiable "java/lang/String" 4 ∈ GW := mw_of (i := 449) (by decide +kernel) rfl
theorem mw_348 : Cond.classLink "EveningLedgerLaw" 15 "java/lang/IllegalArgumentException" ∈ GW := mw_of (i := 454) (by decide +kernel) rfl
theorem mw_349 : Cond.classLink "EveningLedgerLaw" 17 "java/lang/UnsupportedOperationException" ∈ GW := mw_of (i := 455) (by decide +kernel) rfl
theorem mw_350 : Cond.methodLink "EveningLedgerLaw" 7 yX5_write ∈ GW := mw_of (i := 456) (by decide +kernel) rfl
theorem mw_351 : Cond.instanceMethod yX5_write ∈ GW := mw_of (i := 457) (by decide +kernel) rfl
theorem mw_352 : Cond.selects "EveningLedger" yX5_write yX5_write ∈ GW := mw_of (i := 458) (by decide +kernel) rfl
theorem mw_353 : Cond.code yX5_write prog_1_method_2_code 5 (some .int) ∈ GW := mw_of (i := 459) (by decide +kernel) rfl
theorem mw_354 : Cond.methodLink "EveningLedger" 65 yX5_needPlace ∈ GW := mw_of (i := 460) (by decide +kernel) rfl
theorem mw_355 : Cond.static yX5_needPlace ∈ GW := mw_of (i := 461) (by decide +kernel) rfl
theorem mw_356 : Cond.code yX5_needPlace prog_1_method_47_code 2 none ∈ GW := mw_of (i := 462) (by decide +kernel) rfl
theorem mw_357 : Cond.methodLink "EveningLedger" 96 yX5_isPage ∈ GW := mw_of (i := 463) (by decide +kernel) rfl
theorem mw_358 : Cond.static yX5_isPage ∈ GW := mw_of (i := 464) (by decide +kernel) rfl
theorem mw_359 : Cond.code yX5_isPage prog_1_method_37_code 1 (some .boolean) ∈ GW := mw_of (i := 465) (by decide +kernel) rfl
theorem mw_360 : Cond.methodLink "EveningLedger" 138 yX5_isPlace ∈ GW := mw_of (i := 466) (by decide +kernel) rfl
theorem mw_361 : Cond.static yX5_isPlace ∈ GW := mw_of (i := 467) (by decide +kernel) rfl
theorem mw_362 : Cond.code yX5_isPlace prog_1_method_38_code 1 (some .boolean) ∈ GW := mw_of (i := 468) (by decide +kernel) rfl
theorem mw_363 : Cond.methodLink "EveningLedger" 100 yX5_needIndex ∈ GW := mw_of (i := 469) (by decide +kernel) rfl
theorem mw_364 : Cond.static yX5_needIndex ∈ GW := mw_of (i := 470) (by decide +kernel) rfl
theorem mw_365 : Cond.code yX5_needIndex prog_1_method_43_code 1 none ∈ GW := mw_of (i := 471) (by decide +kernel) rfl
theorem mw_366 : Cond.classLink "EveningLedger" 314 "java/lang/IndexOutOfBoundsException" ∈ GW := mw_of (i := 472) (by decide +kernel) rfl
theorem mw_367 : Cond.instantiable "java/lang/IndexOutOfBoundsException" 6 ∈ GW := mw_of (i := 473) (by decide +kernel) rfl
theorem nw_368 : Cond.castable "java/lang/IndexOutOfBoundsException" "java/lang/IndexOutOfBoundsException" ∈ NW := nw_of (i := 474) (by decide +kernel) rfl
theorem mw_369 : Cond.selects "java/lang/IndexOutOfBoundsException" ({ cls := "java/lang/Throwable", name := "fillInStackTrace", desc := "(I)Ljava/lang/Throwable;" } : MethodName) ({ cls := "java/lang/Throwable", name := "fillInStackTrace", desc := "(I)Ljava/lang/Throwable;" } : MethodName) ∈ GW := mw_of (i := 475) (by decide +kernel) rfl
theorem mw_375 : Cond.methodLink "EveningLedger" 316 ({ cls := "java/lang/IndexOutOfBoundsException", name := "<init>", desc := "()V" } : MethodName) ∈ GW := mw_of (i := 481) (by decide +kernel) rfl
theorem mw_376 : Cond.instanceMethod ({ cls := "java/lang/IndexOutOfBoundsException", name := "<init>", desc := "()V" } : MethodName) ∈ GW := mw_of (i := 482) (by decide +kernel) rfl
theorem mw_377 : Cond.code ({ cls := "java/lang/IndexOutOfBoundsException", name := "<init>", desc := "()V" } : MethodName) prog_20_method_1_code 1 none ∈ GW := mw_of (i := 483) (by decide +kernel) rfl
theorem mw_378 : Cond.methodLink "java/lang/IndexOutOfBoundsException" 1 ({ cls := "java/lang/RuntimeException", name := "<init>", desc := "()V" } : MethodName) ∈ GW := mw_of (i := 484) (by decide +kernel) rfl
theorem mw_379 : Cond.instanceMethod ({ cls := "java/lang/RuntimeException", name := "<init>", desc := "()V" } : MethodName) ∈ GW := mw_of (i := 485) (by decide +kernel) rfl
theorem mw_380 : Cond.code ({ cls := "java/lang/RuntimeException", name := "<init>", desc := "()V" } : MethodName) prog_24_method_1_code 1 none ∈ GW := mw_of (i := 486) (by decide +kernel) rfl
theorem mw_381 : Cond.methodLink "java/lang/RuntimeException" 1 ({ cls := "java/lang/Exception", name := "<init>", desc := "()V" } : MethodName) ∈ GW := mw_of (i := 487) (by decide +kernel) rfl
theorem mw_382 : Cond.instanceMethod ({ cls := "java/lang/Exception", name := "<init>", desc := "()V" } : MethodName) ∈ GW := mw_of (i := 488) (by decide +kernel) rfl
theorem mw_383 : Cond.code ({ cls := "java/lang/Exception", name := "<init>", desc := "()V" } : MethodName) prog_17_method_1_code 1 none ∈ GW := mw_of (i := 489) (by decide +kernel) rfl
theorem mw_384 : Cond.methodLink "java/lang/Exception" 1 ({ cls := "java/lang/Throwable", name := "<init>", desc := "()V" } : MethodName) ∈ GW := mw_of (i := 490) (by decide +kernel) rfl
theorem mw_386 : Cond.superclass "java/lang/IndexOutOfBoundsException" "java/lang/RuntimeException" ∈ GW := mw_of (i := 492) (by decide +kernel) rfl
theorem mw_387 : Cond.methodLink "EveningLedger" 69 yX5_needEntry ∈ GW := mw_of (i := 493) (by decide +kernel) rfl
theorem mw_388 : Cond.static yX5_needEntry ∈ GW := mw_of (i := 494) (by decide +kernel) rfl
theorem mw_389 : Cond.code yX5_needEntry prog_1_method_48_code 2 none ∈ GW := mw_of (i := 495) (by decide +kernel) rfl
theorem mw_390 : Cond.methodLink "EveningLedger" 323 yX5_isEntry ∈ GW := mw_of (i := 496) (by decide +kernel) rfl
theorem mw_391 : Cond.static yX5_isEntry ∈ GW := mw_of (i := 497) (by decide +kernel) rfl
theorem mw_392 : Cond.code yX5_isEntry prog_1_method_41_code 2 (some .boolean) ∈ GW := mw_of (i := 498) (by decide +kernel) rfl
theorem mw_393 : Cond.methodLink "EveningLedger" 202 yX5_isPerson ∈ GW := mw_of (i := 499) (by decide +kernel) rfl
theorem mw_394 : Cond.static yX5_isPerson ∈ GW := mw_of (i := 500) (by decide +kernel) rfl
theorem mw_395 : Cond.code yX5_isPerson prog_1_method_39_code 1 (some .boolean) ∈ GW := mw_of (i := 501) (by decide +kernel) rfl
theorem mw_396 : Cond.methodLink "EveningLedger" 111 yX5_isInDebtRange ∈ GW := mw_of (i := 502) (by decide +kernel) rfl
theorem mw_397 : Cond.static yX5_isInDebtRange ∈ GW := mw_of (i := 503) (by decide +kernel) rfl
theorem mw_398 : Cond.code yX5_isInDebtRange prog_1_method_40_code 1 (some .boolean) ∈ GW := mw_of (i := 504) (by decide +kernel) rfl
theorem mw_399 : Cond.methodLink "EveningLedger" 114 yX5_needArgument ∈ GW := mw_of (i := 505) (by decide +kernel) rfl
theorem mw_400 : Cond.static yX5_needArgument ∈ GW := mw_of (i := 506) (by decide +kernel) rfl
theorem mw_401 : Cond.code yX5_needArgument prog_1_method_44_code 1 none ∈ GW := mw_of (i := 507) (by decide +kernel) rfl
theorem mw_402 : Cond.classLink "EveningLedger" 163 "java/lang/IllegalArgumentException" ∈ GW := mw_of (i := 508) (by decide +kernel) rfl
theorem mw_403 : Cond.instantiable "java/lang/IllegalArgumentException" 6 ∈ GW := mw_of (i := 509) (by decide +kernel) rfl
theorem nw_404 : Cond.castable "java/lang/IllegalArgumentException" "java/lang/IllegalArgumentException" ∈ NW := nw_of (i := 510) (by decide +kernel) rfl
theorem mw_405 : Cond.selects "java/lang/IllegalArgumentException" ({ cls := "java/lang/Throwable", name := "fillInStackTrace", desc := "(I)Ljava/lang/Throwable;" } : MethodName) ({ cls := "java/lang/Throwable", name := "fillInStackTrace", desc := "(I)Ljava/lang/Throwable;" } : MethodName) ∈ GW := mw_of (i := 511) (by decide +kernel) rfl
theorem mw_411 : Cond.methodLink "EveningLedger" 165 ({ cls := "java/lang/IllegalArgumentException", name := "<init>", desc := "()V" } : MethodName) ∈ GW := mw_of (i := 517) (by decide +kernel) rfl
theorem mw_412 : Cond.instanceMethod ({ cls := "java/lang/IllegalArgumentException", name := "<init>", desc := "()V" } : MethodName) ∈ GW := mw_of (i := 518) (by decide +kernel) rfl
theorem mw_413 : Cond.code ({ cls := "java/lang/IllegalArgumentException", name := "<init>", desc := "()V" } : MethodName) prog_18_method_1_code 1 none ∈ GW := mw_of (i := 519) (by decide +kernel) rfl
theorem mw_414 : Cond.methodLink "java/lang/IllegalArgumentException" 1 ({ cls := "java/lang/RuntimeException", name := "<init>", desc := "()V" } : MethodName) ∈ GW := mw_of (i := 520) (by decide +kernel) rfl
theorem mw_416 : Cond.superclass "java/lang/IllegalArgumentException" "java/lang/RuntimeException" ∈ GW := mw_of (i := 522) (by decide +kernel) rfl
theorem nw_417 : Cond.methodLinkNest "EveningLedger" 73 yX2_stopsWriting "EveningLedger" ∈ NW := nw_of (i := 523) (by decide +kernel) rfl
theorem mw_419 : Cond.instanceMethod yX2_stopsWriting ∈ GW := mw_of (i := 525) (by decide +kernel) rfl
theorem mw_420 : Cond.code yX2_stopsWriting prog_4_method_3_code 5 (some .boolean) ∈ GW := mw_of (i := 526) (by decide +kernel) rfl
theorem nw_421 : Cond.methodLinkNest "EveningLedger$Refusal" 23 yX0_debtOn "EveningLedger" ∈ NW := nw_of (i := 527) (by decide +kernel) rfl
theorem mw_423 : Cond.instanceMethod yX0_debtOn ∈ GW := mw_of (i := 529) (by decide +kernel) rfl
theorem mw_424 : Cond.code yX0_debtOn prog_2_method_6_code 4 (some .int) ∈ GW := mw_of (i := 530) (by decide +kernel) rfl
theorem mw_425 : Cond.methodLink "EveningLedger$Book" 50 yX0_indexOf ∈ GW := mw_of (i := 531) (by decide +kernel) rfl
theorem mw_426 : Cond.static yX0_indexOf ∈ GW := mw_of (i := 532) (by decide +kernel) rfl
theorem mw_427 : Cond.code yX0_indexOf prog_2_method_3_code 3 (some .int) ∈ GW := mw_of (i := 533) (by decide +kernel) rfl
theorem mw_428 : Cond.methodLink "EveningLedger$Refusal" 27 yX2_keepIf ∈ GW := mw_of (i := 534) (by decide +kernel) rfl
theorem mw_430 : Cond.instanceMethod yX2_keepIf ∈ GW := mw_of (i := 536) (by decide +kernel) rfl
theorem mw_431 : Cond.code yX2_keepIf prog_4_method_2_code 4 (some .boolean) ∈ GW := mw_of (i := 537) (by decide +kernel) rfl
theorem mw_432 : Cond.methodLink "EveningLedger" 77 yX5_refuseIf ∈ GW := mw_of (i := 538) (by decide +kernel) rfl
theorem mw_433 : Cond.static yX5_refuseIf ∈ GW := mw_of (i := 539) (by decide +kernel) rfl
theorem mw_434 : Cond.code yX5_refuseIf prog_1_method_46_code 1 none ∈ GW := mw_of (i := 540) (by decide +kernel) rfl
theorem mw_435 : Cond.classLink "EveningLedger" 320 "java/lang/UnsupportedOperationException" ∈ GW := mw_of (i := 541) (by decide +kernel) rfl
theorem mw_436 : Cond.instantiable "java/lang/UnsupportedOperationException" 6 ∈ GW := mw_of (i := 542) (by decide +kernel) rfl
theorem nw_437 : Cond.castable "java/lang/UnsupportedOperationException" "java/lang/UnsupportedOperationException" ∈ NW := nw_of (i := 543) (by decide +kernel) rfl
theorem mw_438 : Cond.selects "java/lang/UnsupportedOperationException" ({ cls := "java/lang/Throwable", name := "fillInStackTrace", desc := "(I)Ljava/lang/Throwable;" } : MethodName) ({ cls := "java/lang/Throwable", name := "fillInStackTrace", desc := "(I)Ljava/lang/Throwable;" } : MethodName) ∈ GW := mw_of (i := 544) (by decide +kernel) rfl
theorem mw_444 : Cond.methodLink "EveningLedger" 322 ({ cls := "java/lang/UnsupportedOperationException", name := "<init>", desc := "()V" } : MethodName) ∈ GW := mw_of (i := 550) (by decide +kernel) rfl
theorem mw_445 : Cond.instanceMethod ({ cls := "java/lang/UnsupportedOperationException", name := "<init>", desc := "()V" } : MethodName) ∈ GW := mw_of (i := 551) (by decide +kernel) rfl
theorem mw_446 : Cond.code ({ cls := "java/lang/UnsupportedOperationException", name := "<init>", desc := "()V" } : MethodName) prog_32_method_1_code 1 none ∈ GW := mw_of (i := 552) (by decide +kernel) rfl
theorem mw_447 : Cond.methodLink "java/lang/UnsupportedOperationException" 1 ({ cls := "java/lang/RuntimeException", name := "<init>", desc := "()V" } : MethodName) ∈ GW := mw_of (i := 553) (by decide +kernel) rfl
theorem mw_449 : Cond.superclass "java/lang/UnsupportedOperationException" "java/lang/RuntimeException" ∈ GW := mw_of (i := 555) (by decide +kernel) rfl
theorem nw_450 : Cond.methodLinkNest "EveningLedger" 81 yX1_rememberBook "EveningLedger" ∈ NW := nw_of (i := 556) (by decide +kernel) rfl
theorem mw_452 : Cond.instanceMethod yX1_rememberBook ∈ GW := mw_of (i := 558) (by decide +kernel) rfl
theorem mw_453 : Cond.code yX1_rememberBook prog_3_method_2_code 3 none ∈ GW := mw_of (i := 559) (by decide +kernel) rfl
theorem nw_454 : Cond.methodLinkNest "EveningLedger$History" 25 yX0_copyFrom "EveningLedger" ∈ NW := nw_of (i := 560) (by decide +kernel) rfl
theorem mw_455 : Cond.methodLink "EveningLedger$History" 29 yJ9_min_7cf53 ∈ GW := mw_of (i := 561) (by decide +kernel) rfl
theorem mw_456 : Cond.static yJ9_min_7cf53 ∈ GW := mw_of (i := 562) (by decide +kernel) rfl
theorem mw_457 : Cond.code yJ9_min_7cf53 prog_22_method_69_code 2 (some .int) ∈ GW := mw_of (i := 563) (by decide +kernel) rfl
theorem nw_458 : Cond.methodLinkNest "EveningLedger" 85 yX0_writeEntry "EveningLedger" ∈ NW := nw_of (i := 564) (by decide +kernel) rfl
theorem mw_460 : Cond.instanceMethod yX0_writeEntry ∈ GW := mw_of (i := 566) (by decide +kernel) rfl
theorem mw_461 : Cond.code yX0_writeEntry prog_2_method_11_code 5 none ∈ GW := mw_of (i := 567) (by decide +kernel) rfl
theorem mw_462 : Cond.methodLink "EveningLedger$Book" 61 yX0_put ∈ GW := mw_of (i := 568) (by decide +kernel) rfl
theorem mw_464 : Cond.instanceMethod yX0_put ∈ GW := mw_of (i := 570) (by decide +kernel) rfl
theorem mw_465 : Cond.code yX0_put prog_2_method_16_code 6 none ∈ GW := mw_of (i := 571) (by decide +kernel) rfl
theorem mw_466 : Cond.methodLink "EveningLedger$Book" 75 yX0_makeSheetItsOwn ∈ GW := mw_of (i := 572) (by decide +kernel) rfl
theorem mw_468 : Cond.instanceMethod yX0_makeSheetItsOwn ∈ GW := mw_of (i := 574) (by decide +kernel) rfl
theorem mw_469 : Cond.code yX0_makeSheetItsOwn prog_2_method_17_code 2 none ∈ GW := mw_of (i := 575) (by decide +kernel) rfl
theorem nw_470 : Cond.methodLinkNest "EveningLedger" 92 yX0_entriesOn "EveningLedger" ∈ NW := nw_of (i := 576) (by decide +kernel) rfl
theorem mw_472 : Cond.instanceMethod yX0_entriesOn ∈ GW := mw_of (i := 578) (by decide +kernel) rfl
theorem mw_473 : Cond.code yX0_entriesOn prog_2_method_22_code 5 (some .int) ∈ GW := mw_of (i := 579) (by decide +kernel) rfl
theorem mw_474 : Cond.methodLink "EveningLedger$Book" 65 yX0_debtOn ∈ GW := mw_of (i := 580) (by decide +kernel) rfl
theorem mw_475 : Cond.methodLink "EveningLedgerLaw" 147 yL_add ∈ GW := mw_of (i := 581) (by decide +kernel) rfl
theorem mw_476 : Cond.static yL_add ∈ GW := mw_of (i := 582) (by decide +kernel) rfl
theorem mw_477 : Cond.codeWith yL_add method_4_code 6 (some .int) [(0, 12, 15, 13), (0, 12, 19, 15), (0, 12, 23, 17)] ∈ GW := mw_of (i := 583) (by decide +kernel) rfl
theorem mw_478 : Cond.methodLink "EveningLedgerLaw" 19 yX5_add ∈ GW := mw_of (i := 584) (by decide +kernel) rfl
theorem mw_479 : Cond.instanceMethod yX5_add ∈ GW := mw_of (i := 585) (by decide +kernel) rfl
theorem mw_480 : Cond.selects "EveningLedger" yX5_add yX5_add ∈ GW := mw_of (i := 586) (by decide +kernel) rfl
theorem mw_481 : Cond.code yX5_add prog_1_method_3_code 5 (some .int) ∈ GW := mw_of (i := 587) (by decide +kernel) rfl
theorem nw_482 : Cond.methodLinkNest "EveningLedger" 103 yX2_stopsAdding "EveningLedger" ∈ NW := nw_of (i := 588) (by decide +kernel) rfl
theorem mw_484 : Cond.instanceMethod yX2_stopsAdding ∈ GW := mw_of (i := 590) (by decide +kernel) rfl
theorem mw_485 : Cond.code yX2_stopsAdding prog_4_method_4_code 4 (some .boolean) ∈ GW := mw_of (i := 591) (by decide +kernel) rfl
theorem nw_486 : Cond.methodLinkNest "EveningLedger$Refusal" 31 yX0_entriesOn "EveningLedger" ∈ NW := nw_of (i := 592) (by decide +kernel) rfl
theorem nw_487 : Cond.methodLinkNest "EveningLedger" 107 yX0_firstEmptyPlace "EveningLedger" ∈ NW := nw_of (i := 593) (by decide +kernel) rfl
theorem mw_489 : Cond.instanceMethod yX0_firstEmptyPlace ∈ GW := mw_of (i := 595) (by decide +kernel) rfl
theorem mw_490 : Cond.code yX0_firstEmptyPlace prog_2_method_12_code 3 (some .int) ∈ GW := mw_of (i := 596) (by decide +kernel) rfl
theorem mw_491 : Cond.methodLink "EveningLedgerLaw" 151 yL_owe ∈ GW := mw_of (i := 597) (by decide +kernel) rfl
theorem mw_492 : Cond.static yL_owe ∈ GW := mw_of (i := 598) (by decide +kernel) rfl
theorem mw_493 : Cond.codeWith yL_owe method_5_code 6 (some .int) [(0, 12, 15, 13), (0, 12, 19, 15), (0, 12, 23, 17)] ∈ GW := mw_of (i := 599) (by decide +kernel) rfl
theorem mw_494 : Cond.methodLink "EveningLedgerLaw" 23 yX5_owe ∈ GW := mw_of (i := 600) (by decide +kernel) rfl
theorem mw_495 : Cond.instanceMethod yX5_owe ∈ GW := mw_of (i := 601) (by decide +kernel) rfl
theorem mw_496 : Cond.selects "EveningLedger" yX5_owe yX5_owe ∈ GW := mw_of (i := 602) (by decide +kernel) rfl
theorem mw_497 : Cond.code yX5_owe prog_1_method_4_code 4 (some .int) ∈ GW := mw_of (i := 603) (by decide +kernel) rfl
theorem nw_498 : Cond.methodLinkNest "EveningLedger" 117 yX2_stopsOwing "EveningLedger" ∈ NW := nw_of (i := 604) (by decide +kernel) rfl
theorem mw_500 : Cond.instanceMethod yX2_stopsOwing ∈ GW := mw_of (i := 606) (by decide +kernel) rfl
theorem mw_501 : Cond.code yX2_stopsOwing prog_4_method_6_code 6 (some .boolean) ∈ GW := mw_of (i := 607) (by decide +kernel) rfl
theorem mw_502 : Cond.methodLink "EveningLedger$Refusal" 35 yJ9_abs_0f7a4 ∈ GW := mw_of (i := 608) (by decide +kernel) rfl
theorem mw_503 : Cond.static yJ9_abs_0f7a4 ∈ GW := mw_of (i := 609) (by decide +kernel) rfl
theorem mw_504 : Cond.code yJ9_abs_0f7a4 prog_22_method_59_code 1 (some .int) ∈ GW := mw_of (i := 610) (by decide +kernel) rfl
theorem mw_505 : Cond.methodLink "EveningLedger$Refusal" 41 yX2_stopsAtEmpty ∈ GW := mw_of (i := 611) (by decide +kernel) rfl
theorem mw_507 : Cond.instanceMethod yX2_stopsAtEmpty ∈ GW := mw_of (i := 613) (by decide +kernel) rfl
theorem mw_508 : Cond.code yX2_stopsAtEmpty prog_4_method_5_code 4 (some .boolean) ∈ GW := mw_of (i := 614) (by decide +kernel) rfl
theorem nw_509 : Cond.methodLinkNest "EveningLedger" 121 yX0_oweMore "EveningLedger" ∈ NW := nw_of (i := 615) (by decide +kernel) rfl
theorem mw_511 : Cond.instanceMethod yX0_oweMore ∈ GW := mw_of (i := 617) (by decide +kernel) rfl
theorem mw_512 : Cond.code yX0_oweMore prog_2_method_13_code 5 (some .int) ∈ GW := mw_of (i := 618) (by decide +kernel) rfl
theorem mw_513 : Cond.methodLink "EveningLedger$Book" 68 yX0_strikeOut ∈ GW := mw_of (i := 619) (by decide +kernel) rfl
theorem mw_515 : Cond.instanceMethod yX0_strikeOut ∈ GW := mw_of (i := 621) (by decide +kernel) rfl
theorem mw_516 : Cond.code yX0_strikeOut prog_2_method_14_code 4 (some .int) ∈ GW := mw_of (i := 622) (by decide +kernel) rfl
theorem mw_517 : Cond.methodLink "EveningLedger$Book" 71 yX0_personOn ∈ GW := mw_of (i := 623) (by decide +kernel) rfl
theorem mw_519 : Cond.instanceMethod yX0_personOn ∈ GW := mw_of (i := 625) (by decide +kernel) rfl
theorem mw_520 : Cond.code yX0_personOn prog_2_method_5_code 4 (some .char) ∈ GW := mw_of (i := 626) (by decide +kernel) rfl
theorem mw_521 : Cond.methodLink "EveningLedgerLaw" 155 yL_strike ∈ GW := mw_of (i := 627) (by decide +kernel) rfl
theorem mw_522 : Cond.static yL_strike ∈ GW := mw_of (i := 628) (by decide +kernel) rfl
theorem mw_523 : Cond.codeWith yL_strike method_6_code 5 (some .int) [(0, 10, 13, 13), (0, 10, 17, 17)] ∈ GW := mw_of (i := 629) (by decide +kernel) rfl
theorem mw_524 : Cond.methodLink "EveningLedgerLaw" 27 yX5_strike ∈ GW := mw_of (i := 630) (by decide +kernel) rfl
theorem mw_525 : Cond.instanceMethod yX5_strike ∈ GW := mw_of (i := 631) (by decide +kernel) rfl
theorem mw_526 : Cond.selects "EveningLedger" yX5_strike yX5_strike ∈ GW := mw_of (i := 632) (by decide +kernel) rfl
theorem mw_527 : Cond.code yX5_strike prog_1_method_5_code 3 (some .int) ∈ GW := mw_of (i := 633) (by decide +kernel) rfl
theorem nw_528 : Cond.methodLinkNest "EveningLedger" 125 yX2_stopsAtEmpty "EveningLedger" ∈ NW := nw_of (i := 634) (by decide +kernel) rfl
theorem nw_529 : Cond.methodLinkNest "EveningLedger" 128 yX0_strikeOut "EveningLedger" ∈ NW := nw_of (i := 635) (by decide +kernel) rfl
theorem mw_530 : Cond.methodLink "EveningLedgerLaw" 159 yL_swap ∈ GW := mw_of (i := 636) (by decide +kernel) rfl
theorem mw_531 : Cond.static yL_swap ∈ GW := mw_of (i := 637) (by decide +kernel) rfl
theorem mw_532 : Cond.codeWith yL_swap method_7_code 6 (some .int) [(0, 12, 15, 13), (0, 12, 19, 17)] ∈ GW := mw_of (i := 638) (by decide +kernel) rfl
theorem mw_533 : Cond.methodLink "EveningLedgerLaw" 31 yX5_swap ∈ GW := mw_of (i := 639) (by decide +kernel) rfl
theorem mw_534 : Cond.instanceMethod yX5_swap ∈ GW := mw_of (i := 640) (by decide +kernel) rfl
theorem mw_535 : Cond.selects "EveningLedger" yX5_swap yX5_swap ∈ GW := mw_of (i := 641) (by decide +kernel) rfl
theorem mw_536 : Cond.code yX5_swap prog_1_method_6_code 4 (some .int) ∈ GW := mw_of (i := 642) (by decide +kernel) rfl
theorem nw_537 : Cond.methodLinkNest "EveningLedger" 131 yX0_swapEntries "EveningLedger" ∈ NW := nw_of (i := 643) (by decide +kernel) rfl
theorem mw_539 : Cond.instanceMethod yX0_swapEntries ∈ GW := mw_of (i := 645) (by decide +kernel) rfl
theorem mw_540 : Cond.code yX0_swapEntries prog_2_method_15_code 6 none ∈ GW := mw_of (i := 646) (by decide +kernel) rfl
theorem mw_541 : Cond.methodLink "EveningLedgerLaw" 162 yL_personAt ∈ GW := mw_of (i := 647) (by decide +kernel) rfl
theorem mw_542 : Cond.static yL_personAt ∈ GW := mw_of (i := 648) (by decide +kernel) rfl
theorem mw_543 : Cond.codeWith yL_personAt method_8_code 6 (some .int) [(0, 12, 15, 13), (0, 12, 19, 15), (0, 12, 23, 38)] ∈ GW := mw_of (i := 649) (by decide +kernel) rfl
theorem mw_544 : Cond.classLink "EveningLedgerLaw" 38 "java/util/NoSuchElementException" ∈ GW := mw_of (i := 650) (by decide +kernel) rfl
theorem mw_545 : Cond.methodLink "EveningLedgerLaw" 34 yX5_personAt ∈ GW := mw_of (i := 651) (by decide +kernel) rfl
theorem mw_546 : Cond.instanceMethod yX5_personAt ∈ GW := mw_of (i := 652) (by decide +kernel) rfl
theorem mw_547 : Cond.selects "EveningLedger" yX5_personAt yX5_personAt ∈ GW := mw_of (i := 653) (by decide +kernel) rfl
theorem mw_548 : Cond.code yX5_personAt prog_1_method_7_code 5 (some .char) ∈ GW := mw_of (i := 654) (by decide +kernel) rfl
theorem mw_549 : Cond.methodLink "EveningLedger" 135 yX5_needDay ∈ GW := mw_of (i := 655) (by decide +kernel) rfl
theorem mw_551 : Cond.instanceMethod yX5_needDay ∈ GW := mw_of (i := 657) (by decide +kernel) rfl
theorem mw_552 : Cond.code yX5_needDay prog_1_method_49_code 3 (some .int) ∈ GW := mw_of (i := 658) (by decide +kernel) rfl
theorem nw_553 : Cond.methodLinkNest "EveningLedger" 327 yX0_dayOf "EveningLedger" ∈ NW := nw_of (i := 659) (by decide +kernel) rfl
theorem mw_555 : Cond.instanceMethod yX0_dayOf ∈ GW := mw_of (i := 661) (by decide +kernel) rfl
theorem mw_556 : Cond.code yX0_dayOf prog_2_method_4_code 3 (some .int) ∈ GW := mw_of (i := 662) (by decide +kernel) rfl
theorem nw_557 : Cond.methodLinkNest "EveningLedger" 141 yX0_debtOn "EveningLedger" ∈ NW := nw_of (i := 663) (by decide +kernel) rfl
theorem mw_558 : Cond.methodLink "EveningLedger" 144 yX5_needElement ∈ GW := mw_of (i := 664) (by decide +kernel) rfl
theorem mw_559 : Cond.static yX5_needElement ∈ GW := mw_of (i := 665) (by decide +kernel) rfl
theorem mw_560 : Cond.code yX5_needElement prog_1_method_45_code 1 none ∈ GW := mw_of (i := 666) (by decide +kernel) rfl
theorem mw_561 : Cond.classLink "EveningLedger" 317 "java/util/NoSuchElementException" ∈ GW := mw_of (i := 667) (by decide +kernel) rfl
theorem mw_562 : Cond.instantiable "java/util/NoSuchElementException" 6 ∈ GW := mw_of (i := 668) (by decide +kernel) rfl
theorem nw_563 : Cond.castable "java/util/NoSuchElementException" "java/util/NoSuchElementException" ∈ NW := nw_of (i := 669) (by decide +kernel) rfl
theorem mw_564 : Cond.selects "java/util/NoSuchElementException" ({ cls := "java/lang/Throwable", name := "fillInStackTrace", desc := "(I)Ljava/lang/Throwable;" } : MethodName) ({ cls := "java/lang/Throwable", name := "fillInStackTrace", desc := "(I)Ljava/lang/Throwable;" } : MethodName) ∈ GW := mw_of (i := 670) (by decide +kernel) rfl
theorem mw_570 : Cond.methodLink "EveningLedger" 319 ({ cls := "java/util/NoSuchElementException", name := "<init>", desc := "()V" } : MethodName) ∈ GW := mw_of (i := 676) (by decide +kernel) rfl
theorem mw_571 : Cond.instanceMethod ({ cls := "java/util/NoSuchElementException", name := "<init>", desc := "()V" } : MethodName) ∈ GW := mw_of (i := 677) (by decide +kernel) rfl
theorem mw_572 : Cond.code ({ cls := "java/util/NoSuchElementException", name := "<init>", desc := "()V" } : MethodName) prog_36_method_1_code 1 none ∈ GW := mw_of (i := 678) (by decide +kernel) rfl
theorem mw_573 : Cond.methodLink "java/util/NoSuchElementException" 1 ({ cls := "java/lang/RuntimeException", name := "<init>", desc := "()V" } : MethodName) ∈ GW := mw_of (i := 679) (by decide +kernel) rfl
theorem mw_575 : Cond.superclass "java/util/NoSuchElementException" "java/lang/RuntimeException" ∈ GW := mw_of (i := 681) (by decide +kernel) rfl
theorem nw_576 : Cond.methodLinkNest "EveningLedger" 147 yX0_personOn "EveningLedger" ∈ NW := nw_of (i := 682) (by decide +kernel) rfl
theorem mw_577 : Cond.methodLink "EveningLedgerLaw" 165 yL_debtAt ∈ GW := mw_of (i := 683) (by decide +kernel) rfl
theorem mw_578 : Cond.static yL_debtAt ∈ GW := mw_of (i := 684) (by decide +kernel) rfl
theorem mw_579 : Cond.codeWith yL_debtAt method_9_code 6 (some .int) [(0, 12, 15, 13), (0, 12, 19, 15)] ∈ GW := mw_of (i := 685) (by decide +kernel) rfl
theorem mw_580 : Cond.methodLink "EveningLedgerLaw" 40 yX5_debtAt ∈ GW := mw_of (i := 686) (by decide +kernel) rfl
theorem mw_581 : Cond.instanceMethod yX5_debtAt ∈ GW := mw_of (i := 687) (by decide +kernel) rfl
theorem mw_582 : Cond.selects "EveningLedger" yX5_debtAt yX5_debtAt ∈ GW := mw_of (i := 688) (by decide +kernel) rfl
theorem mw_583 : Cond.code yX5_debtAt prog_1_method_8_code 5 (some .int) ∈ GW := mw_of (i := 689) (by decide +kernel) rfl
theorem mw_584 : Cond.methodLink "EveningLedgerLaw" 168 yL_pageOf ∈ GW := mw_of (i := 690) (by decide +kernel) rfl
theorem mw_585 : Cond.static yL_pageOf ∈ GW := mw_of (i := 691) (by decide +kernel) rfl
theorem mw_586 : Cond.codeWith yL_pageOf method_10_code 6 (some .int) [(0, 12, 15, 13), (0, 12, 19, 15)] ∈ GW := mw_of (i := 692) (by decide +kernel) rfl
theorem mw_587 : Cond.methodLink "EveningLedgerLaw" 43 yX5_pageOf ∈ GW := mw_of (i := 693) (by decide +kernel) rfl
theorem mw_588 : Cond.instanceMethod yX5_pageOf ∈ GW := mw_of (i := 694) (by decide +kernel) rfl
theorem mw_589 : Cond.selects "EveningLedger" yX5_pageOf yX5_pageOf ∈ GW := mw_of (i := 695) (by decide +kernel) rfl
theorem mw_590 : Cond.code yX5_pageOf prog_1_method_9_code 5 (some .int) ∈ GW := mw_of (i := 696) (by decide +kernel) rfl
theorem nw_591 : Cond.methodLinkNest "EveningLedger" 151 yX0_sumOn "EveningLedger" ∈ NW := nw_of (i := 697) (by decide +kernel) rfl
theorem mw_593 : Cond.instanceMethod yX0_sumOn ∈ GW := mw_of (i := 699) (by decide +kernel) rfl
theorem mw_594 : Cond.code yX0_sumOn prog_2_method_23_code 5 (some .int) ∈ GW := mw_of (i := 700) (by decide +kernel) rfl
theorem nw_595 : Cond.methodLinkNest "EveningLedger" 154 yX0_sheetOn "EveningLedger" ∈ NW := nw_of (i := 701) (by decide +kernel) rfl
theorem nw_596 : Cond.methodLinkNest "EveningLedger" 157 yX0_daysWithSheet "EveningLedger" ∈ NW := nw_of (i := 702) (by decide +kernel) rfl
theorem nw_597 : Cond.methodLinkNest "EveningLedger" 160 yX0_peopleOn "EveningLedger" ∈ NW := nw_of (i := 703) (by decide +kernel) rfl
theorem mw_599 : Cond.instanceMethod yX0_peopleOn ∈ GW := mw_of (i := 705) (by decide +kernel) rfl
theorem mw_600 : Cond.code yX0_peopleOn prog_2_method_24_code 5 (some .int) ∈ GW := mw_of (i := 706) (by decide +kernel) rfl
theorem mw_601 : Cond.methodLink "EveningLedger$Book" 83 yJ6_bitCount_0f7a4 ∈ GW := mw_of (i := 707) (by decide +kernel) rfl
theorem mw_602 : Cond.static yJ6_bitCount_0f7a4 ∈ GW := mw_of (i := 708) (by decide +kernel) rfl
theorem mw_603 : Cond.code yJ6_bitCount_0f7a4 prog_21_method_49_code 1 (some .int) ∈ GW := mw_of (i := 709) (by decide +kernel) rfl
theorem mw_604 : Cond.constant "java/lang/Integer" 265 (1431655765 : Int32) ∈ GW := mw_of (i := 710) (by decide +kernel) rfl
theorem mw_605 : Cond.constant "java/lang/Integer" 266 (858993459 : Int32) ∈ GW := mw_of (i := 711) (by decide +kernel) rfl
theorem mw_606 : Cond.constant "java/lang/Integer" 267 (252645135 : Int32) ∈ GW := mw_of (i := 712) (by decide +kernel) rfl
theorem mw_607 : Cond.methodLink "EveningLedgerLaw" 171 yL_evening ∈ GW := mw_of (i := 713) (by decide +kernel) rfl
theorem mw_608 : Cond.static yL_evening ∈ GW := mw_of (i := 714) (by decide +kernel) rfl
theorem mw_609 : Cond.codeWith yL_evening method_11_code 3 (some .int) [(0, 8, 11, 17)] ∈ GW := mw_of (i := 715) (by decide +kernel) rfl
theorem mw_610 : Cond.methodLink "EveningLedgerLaw" 46 yX5_evening ∈ GW := mw_of (i := 716) (by decide +kernel) rfl
theorem mw_611 : Cond.instanceMethod yX5_evening ∈ GW := mw_of (i := 717) (by decide +kernel) rfl
theorem mw_612 : Cond.selects "EveningLedger" yX5_evening yX5_evening ∈ GW := mw_of (i := 718) (by decide +kernel) rfl
theorem mw_613 : Cond.code yX5_evening prog_1_method_10_code 1 (some .int) ∈ GW := mw_of (i := 719) (by decide +kernel) rfl
theorem nw_614 : Cond.methodLinkNest "EveningLedger" 166 yX2_stopsEvening "EveningLedger" ∈ NW := nw_of (i := 720) (by decide +kernel) rfl
theorem mw_616 : Cond.instanceMethod yX2_stopsEvening ∈ GW := mw_of (i := 722) (by decide +kernel) rfl
theorem mw_617 : Cond.code yX2_stopsEvening prog_4_method_7_code 2 (some .boolean) ∈ GW := mw_of (i := 723) (by decide +kernel) rfl
theorem nw_618 : Cond.methodLinkNest "EveningLedger" 170 yX0_keepEvening "EveningLedger" ∈ NW := nw_of (i := 724) (by decide +kernel) rfl
theorem mw_620 : Cond.instanceMethod yX0_keepEvening ∈ GW := mw_of (i := 726) (by decide +kernel) rfl
theorem mw_621 : Cond.code yX0_keepEvening prog_2_method_18_code 1 none ∈ GW := mw_of (i := 727) (by decide +kernel) rfl
theorem mw_622 : Cond.methodLink "EveningLedger$Book" 79 yX0_moveDays ∈ GW := mw_of (i := 728) (by decide +kernel) rfl
theorem mw_624 : Cond.instanceMethod yX0_moveDays ∈ GW := mw_of (i := 730) (by decide +kernel) rfl
theorem mw_625 : Cond.code yX0_moveDays prog_2_method_20_code 4 none ∈ GW := mw_of (i := 731) (by decide +kernel) rfl
theorem mw_626 : Cond.methodLink "EveningLedgerLaw" 175 yL_takeOver ∈ GW := mw_of (i := 732) (by decide +kernel) rfl
theorem mw_627 : Cond.static yL_takeOver ∈ GW := mw_of (i := 733) (by decide +kernel) rfl
theorem mw_628 : Cond.codeWith yL_takeOver method_12_code 5 (some .int) [(0, 10, 13, 13), (0, 10, 17, 17)] ∈ GW := mw_of (i := 734) (by decide +kernel) rfl
theorem mw_629 : Cond.methodLink "EveningLedgerLaw" 50 yX5_takeOver ∈ GW := mw_of (i := 735) (by decide +kernel) rfl
theorem mw_630 : Cond.instanceMethod yX5_takeOver ∈ GW := mw_of (i := 736) (by decide +kernel) rfl
theorem mw_631 : Cond.selects "EveningLedger" yX5_takeOver yX5_takeOver ∈ GW := mw_of (i := 737) (by decide +kernel) rfl
theorem mw_632 : Cond.code yX5_takeOver prog_1_method_11_code 4 (some .int) ∈ GW := mw_of (i := 738) (by decide +kernel) rfl
theorem nw_633 : Cond.methodLinkNest "EveningLedger" 176 yX2_stopsTakingOver "EveningLedger" ∈ NW := nw_of (i := 739) (by decide +kernel) rfl
theorem mw_635 : Cond.instanceMethod yX2_stopsTakingOver ∈ GW := mw_of (i := 741) (by decide +kernel) rfl
theorem mw_636 : Cond.code yX2_stopsTakingOver prog_4_method_8_code 5 (some .boolean) ∈ GW := mw_of (i := 742) (by decide +kernel) rfl
theorem nw_637 : Cond.methodLinkNest "EveningLedger$Refusal" 45 yX0_sheetOn "EveningLedger" ∈ NW := nw_of (i := 743) (by decide +kernel) rfl
theorem nw_638 : Cond.methodLinkNest "EveningLedger" 179 yX0_takePageFrom "EveningLedger" ∈ NW := nw_of (i := 744) (by decide +kernel) rfl
theorem mw_640 : Cond.instanceMethod yX0_takePageFrom ∈ GW := mw_of (i := 746) (by decide +kernel) rfl
theorem mw_641 : Cond.code yX0_takePageFrom prog_2_method_21_code 5 none ∈ GW := mw_of (i := 747) (by decide +kernel) rfl
theorem mw_642 : Cond.methodLink "EveningLedgerLaw" 178 yL_forget ∈ GW := mw_of (i := 748) (by decide +kernel) rfl
theorem mw_643 : Cond.static yL_forget ∈ GW := mw_of (i := 749) (by decide +kernel) rfl
theorem mw_644 : Cond.codeWith yL_forget method_13_code 4 (some .int) [(0, 9, 12, 13), (0, 9, 15, 17)] ∈ GW := mw_of (i := 750) (by decide +kernel) rfl
theorem mw_645 : Cond.methodLink "EveningLedgerLaw" 53 yX5_forget ∈ GW := mw_of (i := 751) (by decide +kernel) rfl
theorem mw_646 : Cond.instanceMethod yX5_forget ∈ GW := mw_of (i := 752) (by decide +kernel) rfl
theorem mw_647 : Cond.selects "EveningLedger" yX5_forget yX5_forget ∈ GW := mw_of (i := 753) (by decide +kernel) rfl
theorem mw_648 : Cond.code yX5_forget prog_1_method_12_code 4 (some .int) ∈ GW := mw_of (i := 754) (by decide +kernel) rfl
theorem nw_649 : Cond.methodLinkNest "EveningLedger" 182 yX2_stopsForgetting "EveningLedger" ∈ NW := nw_of (i := 755) (by decide +kernel) rfl
theorem mw_651 : Cond.instanceMethod yX2_stopsForgetting ∈ GW := mw_of (i := 757) (by decide +kernel) rfl
theorem mw_652 : Cond.code yX2_stopsForgetting prog_4_method_9_code 3 (some .boolean) ∈ GW := mw_of (i := 758) (by decide +kernel) rfl
theorem nw_653 : Cond.methodLinkNest "EveningLedger" 188 yX0_forgetDay "EveningLedger" ∈ NW := nw_of (i := 759) (by decide +kernel) rfl
theorem mw_655 : Cond.instanceMethod yX0_forgetDay ∈ GW := mw_of (i := 761) (by decide +kernel) rfl
theorem mw_656 : Cond.code yX0_forgetDay prog_2_method_19_code 2 none ∈ GW := mw_of (i := 762) (by decide +kernel) rfl
theorem mw_657 : Cond.methodLink "EveningLedgerLaw" 182 yL_keptAt ∈ GW := mw_of (i := 763) (by decide +kernel) rfl
theorem mw_658 : Cond.static yL_keptAt ∈ GW := mw_of (i := 764) (by decide +kernel) rfl
theorem mw_659 : Cond.codeWith yL_keptAt method_14_code 4 (some .int) [(0, 9, 12, 38)] ∈ GW := mw_of (i := 765) (by decide +kernel) rfl
theorem mw_660 : Cond.methodLink "EveningLedgerLaw" 57 yX5_keptAt ∈ GW := mw_of (i := 766) (by decide +kernel) rfl
theorem mw_661 : Cond.instanceMethod yX5_keptAt ∈ GW := mw_of (i := 767) (by decide +kernel) rfl
theorem mw_662 : Cond.selects "EveningLedger" yX5_keptAt yX5_keptAt ∈ GW := mw_of (i := 768) (by decide +kernel) rfl
theorem mw_663 : Cond.code yX5_keptAt prog_1_method_13_code 2 (some .int) ∈ GW := mw_of (i := 769) (by decide +kernel) rfl
theorem mw_664 : Cond.methodLink "EveningLedgerLaw" 185 yL_sheetsApart ∈ GW := mw_of (i := 770) (by decide +kernel) rfl
theorem mw_665 : Cond.static yL_sheetsApart ∈ GW := mw_of (i := 771) (by decide +kernel) rfl
theorem mw_666 : Cond.codeWith yL_sheetsApart method_15_code 5 (some .int) [(0, 10, 13, 13)] ∈ GW := mw_of (i := 772) (by decide +kernel) rfl
theorem mw_667 : Cond.methodLink "EveningLedgerLaw" 60 yX5_sheetsApart ∈ GW := mw_of (i := 773) (by decide +kernel) rfl
theorem mw_668 : Cond.instanceMethod yX5_sheetsApart ∈ GW := mw_of (i := 774) (by decide +kernel) rfl
theorem mw_669 : Cond.selects "EveningLedger" yX5_sheetsApart yX5_sheetsApart ∈ GW := mw_of (i := 775) (by decide +kernel) rfl
theorem mw_670 : Cond.code yX5_sheetsApart prog_1_method_14_code 5 (some .int) ∈ GW := mw_of (i := 776) (by decide +kernel) rfl
theorem nw_671 : Cond.methodLinkNest "EveningLedger" 196 yX0_differentSheets "EveningLedger" ∈ NW := nw_of (i := 777) (by decide +kernel) rfl
theorem mw_673 : Cond.instanceMethod yX0_differentSheets ∈ GW := mw_of (i := 779) (by decide +kernel) rfl
theorem mw_674 : Cond.code yX0_differentSheets prog_2_method_27_code 5 (some .int) ∈ GW := mw_of (i := 780) (by decide +kernel) rfl
theorem mw_675 : Cond.methodLink "EveningLedgerLaw" 188 yL_placesApart ∈ GW := mw_of (i := 781) (by decide +kernel) rfl
theorem mw_676 : Cond.static yL_placesApart ∈ GW := mw_of (i := 782) (by decide +kernel) rfl
theorem mw_677 : Cond.codeWith yL_placesApart method_16_code 5 (some .int) [(0, 10, 13, 13)] ∈ GW := mw_of (i := 783) (by decide +kernel) rfl
theorem mw_678 : Cond.methodLink "EveningLedgerLaw" 63 yX5_placesApart ∈ GW := mw_of (i := 784) (by decide +kernel) rfl
theorem mw_679 : Cond.instanceMethod yX5_placesApart ∈ GW := mw_of (i := 785) (by decide +kernel) rfl
theorem mw_680 : Cond.selects "EveningLedger" yX5_placesApart yX5_placesApart ∈ GW := mw_of (i := 786) (by decide +kernel) rfl
theorem mw_681 : Cond.code yX5_placesApart prog_1_method_15_code 7 (some .int) ∈ GW := mw_of (i := 787) (by decide +kernel) rfl
theorem nw_682 : Cond.methodLinkNest "EveningLedger" 199 yX0_differentPlaces "EveningLedger" ∈ NW := nw_of (i := 788) (by decide +kernel) rfl
theorem mw_684 : Cond.instanceMethod yX0_differentPlaces ∈ GW := mw_of (i := 790) (by decide +kernel) rfl
theorem mw_685 : Cond.code yX0_differentPlaces prog_2_method_28_code 6 (some .int) ∈ GW := mw_of (i := 791) (by decide +kernel) rfl
theorem mw_686 : Cond.methodLink "EveningLedgerLaw" 191 yL_isLike ∈ GW := mw_of (i := 792) (by decide +kernel) rfl
theorem mw_687 : Cond.static yL_isLike ∈ GW := mw_of (i := 793) (by decide +kernel) rfl
theorem mw_688 : Cond.codeWith yL_isLike method_17_code 6 (some .int) [(0, 19, 22, 13), (0, 19, 26, 15)] ∈ GW := mw_of (i := 794) (by decide +kernel) rfl
theorem mw_689 : Cond.methodLink "EveningLedgerLaw" 66 yX5_isLike ∈ GW := mw_of (i := 795) (by decide +kernel) rfl
theorem mw_690 : Cond.instanceMethod yX5_isLike ∈ GW := mw_of (i := 796) (by decide +kernel) rfl
theorem mw_691 : Cond.selects "EveningLedger" yX5_isLike yX5_isLike ∈ GW := mw_of (i := 797) (by decide +kernel) rfl
theorem mw_692 : Cond.code yX5_isLike prog_1_method_16_code 6 (some .boolean) ∈ GW := mw_of (i := 798) (by decide +kernel) rfl
theorem mw_693 : Cond.methodLink "EveningLedgerLaw" 194 yL_debt ∈ GW := mw_of (i := 799) (by decide +kernel) rfl
theorem mw_694 : Cond.static yL_debt ∈ GW := mw_of (i := 800) (by decide +kernel) rfl
theorem mw_695 : Cond.codeWith yL_debt method_18_code 5 (some .int) [(0, 10, 13, 13), (0, 10, 17, 15)] ∈ GW := mw_of (i := 801) (by decide +kernel) rfl
theorem mw_696 : Cond.methodLink "EveningLedgerLaw" 70 yX5_debt ∈ GW := mw_of (i := 802) (by decide +kernel) rfl
theorem mw_697 : Cond.instanceMethod yX5_debt ∈ GW := mw_of (i := 803) (by decide +kernel) rfl
theorem mw_698 : Cond.selects "EveningLedger" yX5_debt yX5_debt ∈ GW := mw_of (i := 804) (by decide +kernel) rfl
theorem mw_699 : Cond.code yX5_debt prog_1_method_17_code 4 (some .int) ∈ GW := mw_of (i := 805) (by decide +kernel) rfl
theorem nw_700 : Cond.methodLinkNest "EveningLedger" 206 yX0_debtOf "EveningLedger" ∈ NW := nw_of (i := 806) (by decide +kernel) rfl
theorem mw_702 : Cond.instanceMethod yX0_debtOf ∈ GW := mw_of (i := 808) (by decide +kernel) rfl
theorem mw_703 : Cond.code yX0_debtOf prog_2_method_29_code 5 (some .int) ∈ GW := mw_of (i := 809) (by decide +kernel) rfl
theorem mw_704 : Cond.methodLink "EveningLedger$Book" 95 yX0_debtOnPage ∈ GW := mw_of (i := 810) (by decide +kernel) rfl
theorem mw_706 : Cond.instanceMethod yX0_debtOnPage ∈ GW := mw_of (i := 812) (by decide +kernel) rfl
theorem mw_707 : Cond.code yX0_debtOnPage prog_2_method_30_code 6 (some .int) ∈ GW := mw_of (i := 813) (by decide +kernel) rfl
theorem mw_708 : Cond.methodLink "EveningLedgerLaw" 198 yL_debtAgain ∈ GW := mw_of (i := 814) (by decide +kernel) rfl
theorem mw_709 : Cond.static yL_debtAgain ∈ GW := mw_of (i := 815) (by decide +kernel) rfl
theorem mw_710 : Cond.codeWith yL_debtAgain method_19_code 5 (some .int) [(0, 10, 13, 13), (0, 10, 17, 15)] ∈ GW := mw_of (i := 816) (by decide +kernel) rfl
theorem mw_711 : Cond.methodLink "EveningLedgerLaw" 74 yX5_debtAgain ∈ GW := mw_of (i := 817) (by decide +kernel) rfl
theorem mw_712 : Cond.instanceMethod yX5_debtAgain ∈ GW := mw_of (i := 818) (by decide +kernel) rfl
theorem mw_713 : Cond.selects "EveningLedger" yX5_debtAgain yX5_debtAgain ∈ GW := mw_of (i := 819) (by decide +kernel) rfl
theorem mw_714 : Cond.code yX5_debtAgain prog_1_method_18_code 4 (some .int) ∈ GW := mw_of (i := 820) (by decide +kernel) rfl
theorem nw_715 : Cond.methodLinkNest "EveningLedger" 210 yX0_debtByDifferences "EveningLedger" ∈ NW := nw_of (i := 821) (by decide +kernel) rfl
theorem mw_717 : Cond.instanceMethod yX0_debtByDifferences ∈ GW := mw_of (i := 823) (by decide +kernel) rfl
theorem mw_718 : Cond.code yX0_debtByDifferences prog_2_method_31_code 5 (some .int) ∈ GW := mw_of (i := 824) (by decide +kernel) rfl
theorem mw_719 : Cond.methodLink "EveningLedger$Book" 99 yX0_debtOf ∈ GW := mw_of (i := 825) (by decide +kernel) rfl
theorem mw_720 : Cond.methodLink "EveningLedger$Book" 103 yX0_differenceSince ∈ GW := mw_of (i := 826) (by decide +kernel) rfl
theorem mw_722 : Cond.instanceMethod yX0_differenceSince ∈ GW := mw_of (i := 828) (by decide +kernel) rfl
theorem mw_723 : Cond.code yX0_differenceSince prog_2_method_32_code 5 (some .int) ∈ GW := mw_of (i := 829) (by decide +kernel) rfl
theorem mw_724 : Cond.methodLink "EveningLedgerLaw" 201 yL_greatestOn ∈ GW := mw_of (i := 830) (by decide +kernel) rfl
theorem mw_725 : Cond.static yL_greatestOn ∈ GW := mw_of (i := 831) (by decide +kernel) rfl
theorem mw_726 : Cond.codeWith yL_greatestOn method_20_code 4 (some .int) [(0, 9, 12, 15)] ∈ GW := mw_of (i := 832) (by decide +kernel) rfl
theorem mw_727 : Cond.methodLink "EveningLedgerLaw" 77 yX5_greatestOn ∈ GW := mw_of (i := 833) (by decide +kernel) rfl
theorem mw_728 : Cond.instanceMethod yX5_greatestOn ∈ GW := mw_of (i := 834) (by decide +kernel) rfl
theorem mw_729 : Cond.selects "EveningLedger" yX5_greatestOn yX5_greatestOn ∈ GW := mw_of (i := 835) (by decide +kernel) rfl
theorem mw_730 : Cond.code yX5_greatestOn prog_1_method_19_code 2 (some .int) ∈ GW := mw_of (i := 836) (by decide +kernel) rfl
theorem nw_731 : Cond.methodLinkNest "EveningLedger" 213 yX0_eveningOfGreatestDebt "EveningLedger" ∈ NW := nw_of (i := 837) (by decide +kernel) rfl
theorem mw_733 : Cond.instanceMethod yX0_eveningOfGreatestDebt ∈ GW := mw_of (i := 839) (by decide +kernel) rfl
theorem mw_734 : Cond.code yX0_eveningOfGreatestDebt prog_2_method_33_code 6 (some .int) ∈ GW := mw_of (i := 840) (by decide +kernel) rfl
theorem mw_735 : Cond.methodLink "EveningLedgerLaw" 205 yL_without ∈ GW := mw_of (i := 841) (by decide +kernel) rfl
theorem mw_736 : Cond.static yL_without ∈ GW := mw_of (i := 842) (by decide +kernel) rfl
theorem mw_737 : Cond.codeWith yL_without method_21_code 4 (some .int) [(0, 9, 12, 15), (0, 9, 15, 38)] ∈ GW := mw_of (i := 843) (by decide +kernel) rfl
theorem mw_738 : Cond.methodLink "EveningLedgerLaw" 81 yX5_without ∈ GW := mw_of (i := 844) (by decide +kernel) rfl
theorem mw_739 : Cond.instanceMethod yX5_without ∈ GW := mw_of (i := 845) (by decide +kernel) rfl
theorem mw_740 : Cond.selects "EveningLedger" yX5_without yX5_without ∈ GW := mw_of (i := 846) (by decide +kernel) rfl
theorem mw_741 : Cond.code yX5_without prog_1_method_20_code 3 (some .int) ∈ GW := mw_of (i := 847) (by decide +kernel) rfl
theorem nw_742 : Cond.methodLinkNest "EveningLedger" 217 yX0_latestEveningWithout "EveningLedger" ∈ NW := nw_of (i := 848) (by decide +kernel) rfl
theorem mw_744 : Cond.instanceMethod yX0_latestEveningWithout ∈ GW := mw_of (i := 850) (by decide +kernel) rfl
theorem mw_745 : Cond.code yX0_latestEveningWithout prog_2_method_34_code 4 (some .int) ∈ GW := mw_of (i := 851) (by decide +kernel) rfl
theorem mw_746 : Cond.methodLink "EveningLedger$Book" 106 yX0_firstSpotOf ∈ GW := mw_of (i := 852) (by decide +kernel) rfl
theorem mw_748 : Cond.instanceMethod yX0_firstSpotOf ∈ GW := mw_of (i := 854) (by decide +kernel) rfl
theorem mw_749 : Cond.code yX0_firstSpotOf prog_2_method_35_code 4 (some .int) ∈ GW := mw_of (i := 855) (by decide +kernel) rfl
theorem mw_750 : Cond.methodLink "EveningLedgerLaw" 208 yL_owing ∈ GW := mw_of (i := 856) (by decide +kernel) rfl
theorem mw_751 : Cond.static yL_owing ∈ GW := mw_of (i := 857) (by decide +kernel) rfl
theorem mw_752 : Cond.codeWith yL_owing method_22_code 5 (some .int) [(0, 10, 13, 13), (0, 10, 17, 38)] ∈ GW := mw_of (i := 858) (by decide +kernel) rfl
theorem mw_753 : Cond.methodLink "EveningLedgerLaw" 84 yX5_owing ∈ GW := mw_of (i := 859) (by decide +kernel) rfl
theorem mw_754 : Cond.instanceMethod yX5_owing ∈ GW := mw_of (i := 860) (by decide +kernel) rfl
theorem mw_755 : Cond.selects "EveningLedger" yX5_owing yX5_owing ∈ GW := mw_of (i := 861) (by decide +kernel) rfl
theorem mw_756 : Cond.code yX5_owing prog_1_method_21_code 5 (some .char) ∈ GW := mw_of (i := 862) (by decide +kernel) rfl
theorem nw_757 : Cond.methodLinkNest "EveningLedger" 220 yX4_sumUp "EveningLedger" ∈ NW := nw_of (i := 863) (by decide +kernel) rfl
theorem mw_759 : Cond.instanceMethod yX4_sumUp ∈ GW := mw_of (i := 865) (by decide +kernel) rfl
theorem mw_760 : Cond.code yX4_sumUp prog_6_method_2_code 5 none ∈ GW := mw_of (i := 866) (by decide +kernel) rfl
theorem nw_761 : Cond.methodLinkNest "EveningLedger" 224 yX4_personByRank "EveningLedger" ∈ NW := nw_of (i := 867) (by decide +kernel) rfl
theorem mw_763 : Cond.instanceMethod yX4_personByRank ∈ GW := mw_of (i := 869) (by decide +kernel) rfl
theorem mw_764 : Cond.code yX4_personByRank prog_6_method_3_code 3 (some .char) ∈ GW := mw_of (i := 870) (by decide +kernel) rfl
theorem mw_765 : Cond.methodLink "EveningLedger$Totals" 27 yX4_peopleAhead ∈ GW := mw_of (i := 871) (by decide +kernel) rfl
theorem mw_767 : Cond.instanceMethod yX4_peopleAhead ∈ GW := mw_of (i := 873) (by decide +kernel) rfl
theorem mw_768 : Cond.code yX4_peopleAhead prog_6_method_4_code 5 (some .int) ∈ GW := mw_of (i := 874) (by decide +kernel) rfl
theorem mw_769 : Cond.methodLink "EveningLedgerLaw" 211 yL_greatest ∈ GW := mw_of (i := 875) (by decide +kernel) rfl
theorem mw_770 : Cond.static yL_greatest ∈ GW := mw_of (i := 876) (by decide +kernel) rfl
theorem mw_771 : Cond.codeWith yL_greatest method_23_code 5 (some .int) [(0, 10, 13, 13), (0, 10, 17, 38)] ∈ GW := mw_of (i := 877) (by decide +kernel) rfl
theorem mw_772 : Cond.methodLink "EveningLedgerLaw" 88 yX5_greatest ∈ GW := mw_of (i := 878) (by decide +kernel) rfl
theorem mw_773 : Cond.instanceMethod yX5_greatest ∈ GW := mw_of (i := 879) (by decide +kernel) rfl
theorem mw_774 : Cond.selects "EveningLedger" yX5_greatest yX5_greatest ∈ GW := mw_of (i := 880) (by decide +kernel) rfl
theorem mw_775 : Cond.code yX5_greatest prog_1_method_22_code 5 (some .int) ∈ GW := mw_of (i := 881) (by decide +kernel) rfl
theorem nw_776 : Cond.methodLinkNest "EveningLedger" 228 yX0_spotByRank "EveningLedger" ∈ NW := nw_of (i := 882) (by decide +kernel) rfl
theorem mw_778 : Cond.instanceMethod yX0_spotByRank ∈ GW := mw_of (i := 884) (by decide +kernel) rfl
theorem mw_779 : Cond.code yX0_spotByRank prog_2_method_36_code 4 (some .int) ∈ GW := mw_of (i := 885) (by decide +kernel) rfl
theorem mw_780 : Cond.methodLink "EveningLedger$Book" 109 yX0_entriesAhead ∈ GW := mw_of (i := 886) (by decide +kernel) rfl
theorem mw_782 : Cond.instanceMethod yX0_entriesAhead ∈ GW := mw_of (i := 888) (by decide +kernel) rfl
theorem mw_783 : Cond.code yX0_entriesAhead prog_2_method_37_code 8 (some .int) ∈ GW := mw_of (i := 889) (by decide +kernel) rfl
theorem mw_784 : Cond.methodLink "EveningLedger" 231 yX5_pageAndPlace ∈ GW := mw_of (i := 890) (by decide +kernel) rfl
theorem mw_785 : Cond.static yX5_pageAndPlace ∈ GW := mw_of (i := 891) (by decide +kernel) rfl
theorem mw_786 : Cond.code yX5_pageAndPlace prog_1_method_42_code 1 (some .int) ∈ GW := mw_of (i := 892) (by decide +kernel) rfl
theorem mw_787 : Cond.methodLink "EveningLedgerLaw" 214 yL_find ∈ GW := mw_of (i := 893) (by decide +kernel) rfl
theorem mw_788 : Cond.static yL_find ∈ GW := mw_of (i := 894) (by decide +kernel) rfl
theorem mw_789 : Cond.codeWith yL_find method_24_code 5 (some .int) [(0, 10, 13, 13), (0, 10, 17, 15), (0, 10, 21, 38)] ∈ GW := mw_of (i := 895) (by decide +kernel) rfl
theorem mw_790 : Cond.methodLink "EveningLedgerLaw" 91 yX5_find ∈ GW := mw_of (i := 896) (by decide +kernel) rfl
theorem mw_791 : Cond.instanceMethod yX5_find ∈ GW := mw_of (i := 897) (by decide +kernel) rfl
theorem mw_792 : Cond.selects "EveningLedger" yX5_find yX5_find ∈ GW := mw_of (i := 898) (by decide +kernel) rfl
theorem mw_793 : Cond.code yX5_find prog_1_method_23_code 5 (some .int) ∈ GW := mw_of (i := 899) (by decide +kernel) rfl
theorem nw_794 : Cond.methodLinkNest "EveningLedger" 234 yX0_firstSpotOf "EveningLedger" ∈ NW := nw_of (i := 900) (by decide +kernel) rfl
theorem mw_795 : Cond.methodLink "EveningLedgerLaw" 217 yL_tell ∈ GW := mw_of (i := 901) (by decide +kernel) rfl
theorem mw_796 : Cond.static yL_tell ∈ GW := mw_of (i := 902) (by decide +kernel) rfl
theorem mw_797 : Cond.codeWith yL_tell method_25_code 5 (some .int) [(0, 10, 13, 13), (0, 10, 17, 15)] ∈ GW := mw_of (i := 903) (by decide +kernel) rfl
theorem mw_798 : Cond.methodLink "EveningLedgerLaw" 94 yX5_tell ∈ GW := mw_of (i := 904) (by decide +kernel) rfl
theorem mw_799 : Cond.instanceMethod yX5_tell ∈ GW := mw_of (i := 905) (by decide +kernel) rfl
theorem mw_800 : Cond.selects "EveningLedger" yX5_tell yX5_tell ∈ GW := mw_of (i := 906) (by decide +kernel) rfl
theorem mw_801 : Cond.code yX5_tell prog_1_method_24_code 5 (some .int) ∈ GW := mw_of (i := 907) (by decide +kernel) rfl
theorem mw_802 : Cond.methodLink "EveningLedger" 237 yJ4_setLength_d00df ∈ GW := mw_of (i := 908) (by decide +kernel) rfl
theorem mw_803 : Cond.instanceMethod yJ4_setLength_d00df ∈ GW := mw_of (i := 909) (by decide +kernel) rfl
theorem mw_804 : Cond.selects "java/lang/StringBuilder" yJ4_setLength_d00df yJ4_setLength_d00df ∈ GW := mw_of (i := 910) (by decide +kernel) rfl
theorem mw_805 : Cond.code yJ4_setLength_d00df prog_26_method_89_code 2 none ∈ GW := mw_of (i := 911) (by decide +kernel) rfl
theorem mw_806 : Cond.methodLink "java/lang/StringBuilder" 333 yJ5_setLength_d00df ∈ GW := mw_of (i := 912) (by decide +kernel) rfl
theorem mw_807 : Cond.instanceMethod yJ5_setLength_d00df ∈ GW := mw_of (i := 913) (by decide +kernel) rfl
theorem mw_808 : Cond.code yJ5_setLength_d00df prog_10_method_13_code 2 none ∈ GW := mw_of (i := 914) (by decide +kernel) rfl
theorem mw_809 : Cond.classLink "java/lang/AbstractStringBuilder" 129 "java/lang/StringIndexOutOfBoundsException" ∈ GW := mw_of (i := 915) (by decide +kernel) rfl
theorem mw_810 : Cond.instantiable "java/lang/StringIndexOutOfBoundsException" 6 ∈ GW := mw_of (i := 916) (by decide +kernel) rfl
theorem mw_811 : Cond.methodLink "java/lang/AbstractStringBuilder" 131 yJx7c733_init_d00df ∈ GW := mw_of (i := 917) (by decide +kernel) rfl
theorem mw_812 : Cond.instanceMethod yJx7c733_init_d00df ∈ GW := mw_of (i := 918) (by decide +kernel) rfl
theorem mw_813 : Cond.code yJx7c733_init_d00df prog_27_method_3_code 2 none ∈ GW := mw_of (i := 919) (by decide +kernel) rfl
theorem mw_814 : Cond.classLink "java/lang/StringIndexOutOfBoundsException" 10 "java/lang/StringBuilder" ∈ GW := mw_of (i := 920) (by decide +kernel) rfl
theorem mw_815 : Cond.methodLink "java/lang/StringIndexOutOfBoundsException" 12 yJ4_init_da8c8 ∈ GW := mw_of (i := 921) (by decide +kernel) rfl
theorem mw_817 : Cond.methodLink "java/lang/StringIndexOutOfBoundsException" 15 yJ4_append_15ec4 ∈ GW := mw_of (i := 923) (by decide +kernel) rfl
theorem mw_818 : Cond.instanceMethod yJ4_append_15ec4 ∈ GW := mw_of (i := 924) (by decide +kernel) rfl
theorem mw_819 : Cond.selects "java/lang/StringBuilder" yJ4_append_15ec4 yJ4_append_15ec4 ∈ GW := mw_of (i := 925) (by decide +kernel) rfl
theorem mw_820 : Cond.code yJ4_append_15ec4 prog_26_method_7_code 2 (some (FieldType.object "java/lang/StringBuilder")) ∈ GW := mw_of (i := 926) (by decide +kernel) rfl
theorem mw_821 : Cond.methodLink "java/lang/StringBuilder" 29 yJ5_append_cf1ce ∈ GW := mw_of (i := 927) (by decide +kernel) rfl
theorem mw_822 : Cond.instanceMethod yJ5_append_cf1ce ∈ GW := mw_of (i := 928) (by decide +kernel) rfl
theorem mw_823 : Cond.code yJ5_append_cf1ce prog_10_method_22_code 3 (some (FieldType.object "java/lang/AbstractStringBuilder")) ∈ GW := mw_of (i := 929) (by decide +kernel) rfl
theorem mw_824 : Cond.methodLink "java/lang/AbstractStringBuilder" 204 yJ5_appendNull_278bc ∈ GW := mw_of (i := 930) (by decide +kernel) rfl
theorem mw_826 : Cond.instanceMethod yJ5_appendNull_278bc ∈ GW := mw_of (i := 932) (by decide +kernel) rfl
theorem mw_827 : Cond.code yJ5_appendNull_278bc prog_10_method_26_code 3 (some (FieldType.object "java/lang/AbstractStringBuilder")) ∈ GW := mw_of (i := 933) (by decide +kernel) rfl
theorem mw_828 : Cond.methodLink "java/lang/AbstractStringBuilder" 100 yJ5_ensureCapacityInternal_d00df ∈ GW := mw_of (i := 934) (by decide +kernel) rfl
theorem mw_830 : Cond.instanceMethod yJ5_ensureCapacityInternal_d00df ∈ GW := mw_of (i := 936) (by decide +kernel) rfl
theorem mw_831 : Cond.code yJ5_ensureCapacityInternal_d00df prog_10_method_9_code 3 none ∈ GW := mw_of (i := 937) (by decide +kernel) rfl
theorem mw_832 : Cond.methodLink "java/lang/AbstractStringBuilder" 104 yJ5_newCapacity_0f7a4 ∈ GW := mw_of (i := 938) (by decide +kernel) rfl
theorem mw_834 : Cond.instanceMethod yJ5_newCapacity_0f7a4 ∈ GW := mw_of (i := 940) (by decide +kernel) rfl
theorem mw_835 : Cond.code yJ5_newCapacity_0f7a4 prog_10_method_10_code 6 (some .int) ∈ GW := mw_of (i := 941) (by decide +kernel) rfl
theorem mw_836 : Cond.methodLink "java/lang/AbstractStringBuilder" 114 yJ8_newLength_cabcc ∈ GW := mw_of (i := 942) (by decide +kernel) rfl
theorem mw_837 : Cond.static yJ8_newLength_cabcc ∈ GW := mw_of (i := 943) (by decide +kernel) rfl
theorem mw_838 : Cond.code yJ8_newLength_cabcc prog_37_method_27_code 4 (some .int) ∈ GW := mw_of (i := 944) (by decide +kernel) rfl
theorem mw_839 : Cond.methodLink "jdk/internal/util/ArraysSupport" 194 yJ9_max_7cf53 ∈ GW := mw_of (i := 945) (by decide +kernel) rfl
theorem mw_840 : Cond.static yJ9_max_7cf53 ∈ GW := mw_of (i := 946) (by decide +kernel) rfl
theorem mw_841 : Cond.code yJ9_max_7cf53 prog_22_method_65_code 2 (some .int) ∈ GW := mw_of (i := 947) (by decide +kernel) rfl
theorem mw_842 : Cond.constant "jdk/internal/util/ArraysSupport" 200 (2147483639 : Int32) ∈ GW := mw_of (i := 948) (by decide +kernel) rfl
theorem mw_843 : Cond.methodLink "jdk/internal/util/ArraysSupport" 201 yJ8_hugeLength_7cf53 ∈ GW := mw_of (i := 949) (by decide +kernel) rfl
theorem mw_844 : Cond.static yJ8_hugeLength_7cf53 ∈ GW := mw_of (i := 950) (by decide +kernel) rfl
theorem mw_845 : Cond.code yJ8_hugeLength_7cf53 prog_37_method_28_code 3 (some .int) ∈ GW := mw_of (i := 951) (by decide +kernel) rfl
theorem mw_846 : Cond.constant "java/lang/AbstractStringBuilder" 39 (2147483647 : Int32) ∈ GW := mw_of (i := 952) (by decide +kernel) rfl
theorem mw_847 : Cond.methodLink "java/lang/AbstractStringBuilder" 108 yJ7_copyOf_9075b ∈ GW := mw_of (i := 953) (by decide +kernel) rfl
theorem mw_848 : Cond.static yJ7_copyOf_9075b ∈ GW := mw_of (i := 954) (by decide +kernel) rfl
theorem mw_849 : Cond.code yJ7_copyOf_9075b prog_35_method_121_code 3 (some (FieldType.array FieldType.byte)) ∈ GW := mw_of (i := 955) (by decide +kernel) rfl
theorem mw_850 : Cond.methodLink "java/util/Arrays" 310 ({ cls := "[B", name := "clone", desc := "()Ljava/lang/Object;" } : MethodName) ∈ GW := mw_of (i := 956) (by decide +kernel) rfl
theorem mw_851 : Cond.sameMethod "[B" "java/lang/Object" "clone" "()Ljava/lang/Object;" ∈ GW := mw_of (i := 957) (by decide +kernel) rfl
theorem mw_852 : Cond.native ({ cls := "java/lang/Object", name := "clone", desc := "()Ljava/lang/Object;" } : MethodName) ∈ GW := mw_of (i := 958) (by decide +kernel) rfl
theorem mw_853 : Cond.instanceMethod ({ cls := "java/lang/Object", name := "clone", desc := "()Ljava/lang/Object;" } : MethodName) ∈ GW := mw_of (i := 959) (by decide +kernel) rfl
theorem mw_854 : Cond.selects "[B" ({ cls := "[B", name := "clone", desc := "()Ljava/lang/Object;" } : MethodName) ({ cls := "java/lang/Object", name := "clone", desc := "()Ljava/lang/Object;" } : MethodName) ∈ GW := mw_of (i := 960) (by decide +kernel) rfl
theorem nw_855 : Cond.castable "[B" "java/lang/Cloneable" ∈ NW := nw_of (i := 961) (by decide +kernel) rfl
theorem mw_856 : Cond.classLink "java/util/Arrays" 311 "[B" ∈ GW := mw_of (i := 962) (by decide +kernel) rfl
theorem mw_857 : Cond.methodLink "java/util/Arrays" 304 yJ9_min_7cf53 ∈ GW := mw_of (i := 963) (by decide +kernel) rfl
theorem mw_858 : Cond.methodLink "java/util/Arrays" 150 ({ cls := "java/lang/System", name := "arraycopy", desc := "(Ljava/lang/Object;ILjava/lang/Object;II)V" } : MethodName) ∈ GW := mw_of (i := 964) (by decide +kernel) rfl
theorem mw_859 : Cond.methodLink "java/lang/AbstractStringBuilder" 83 yJ5_isLatin1_aae02 ∈ GW := mw_of (i := 965) (by decide +kernel) rfl
theorem mw_860 : Cond.instanceMethod yJ5_isLatin1_aae02 ∈ GW := mw_of (i := 966) (by decide +kernel) rfl
theorem mw_861 : Cond.sameMethod "java/lang/AbstractStringBuilder" "java/lang/AbstractStringBuilder" "isLatin1" "()Z" ∈ GW := mw_of (i := 967) (by decide +kernel) rfl
theorem mw_862 : Cond.selects "java/lang/StringBuilder" yJ5_isLatin1_aae02 yJ5_isLatin1_aae02 ∈ GW := mw_of (i := 968) (by decide +kernel) rfl
theorem mw_863 : Cond.code yJ5_isLatin1_aae02 prog_10_method_68_code 1 (some .boolean) ∈ GW := mw_of (i := 969) (by decide +kernel) rfl
theorem mw_864 : Cond.methodLink "java/lang/AbstractStringBuilder" 226 yJ2_putCharsAt_cd4e5 ∈ GW := mw_of (i := 970) (by decide +kernel) rfl
theorem mw_865 : Cond.static yJ2_putCharsAt_cd4e5 ∈ GW := mw_of (i := 971) (by decide +kernel) rfl
theorem mw_866 : Cond.code yJ2_putCharsAt_cd4e5 prog_29_method_81_code 7 (some .int) ∈ GW := mw_of (i := 972) (by decide +kernel) rfl
theorem mw_867 : Cond.methodLink "java/lang/StringUTF16" 96 yJ2_checkBoundsBeginEnd_d044e ∈ GW := mw_of (i := 973) (by decide +kernel) rfl
theorem mw_868 : Cond.static yJ2_checkBoundsBeginEnd_d044e ∈ GW := mw_of (i := 974) (by decide +kernel) rfl
theorem mw_869 : Cond.code yJ2_checkBoundsBeginEnd_d044e prog_29_method_93_code 3 none ∈ GW := mw_of (i := 975) (by decide +kernel) rfl
theorem mw_870 : Cond.methodLink "java/lang/StringUTF16" 48 yJ2_length_9d52b ∈ GW := mw_of (i := 976) (by decide +kernel) rfl
theorem mw_871 : Cond.static yJ2_length_9d52b ∈ GW := mw_of (i := 977) (by decide +kernel) rfl
theorem mw_872 : Cond.code yJ2_length_9d52b prog_29_method_6_code 1 (some .int) ∈ GW := mw_of (i := 978) (by decide +kernel) rfl
theorem mw_873 : Cond.methodLink "java/lang/StringUTF16" 241 yJ0_checkBoundsBeginEnd_23922 ∈ GW := mw_of (i := 979) (by decide +kernel) rfl
theorem mw_874 : Cond.static yJ0_checkBoundsBeginEnd_23922 ∈ GW := mw_of (i := 980) (by decide +kernel) rfl
theorem mw_875 : Cond.code yJ0_checkBoundsBeginEnd_23922 prog_25_method_158_code 3 none ∈ GW := mw_of (i := 981) (by decide +kernel) rfl
theorem mw_876 : Cond.fieldLink "java/lang/String" 1053 "jdk/internal/util/Preconditions" "SIOOBE_FORMATTER" "Ljava/util/function/BiFunction;" ∈ GW := mw_of (i := 982) (by decide +kernel) rfl
theorem mw_878 : Cond.methodLink "java/lang/String" 1062 yJ3_checkFromToIndex_8c36e ∈ GW := mw_of (i := 984) (by decide +kernel) rfl
theorem mw_879 : Cond.static yJ3_checkFromToIndex_8c36e ∈ GW := mw_of (i := 985) (by decide +kernel) rfl
theorem mw_880 : Cond.code yJ3_checkFromToIndex_8c36e prog_38_method_12_code 4 (some .int) ∈ GW := mw_of (i := 986) (by decide +kernel) rfl
theorem mw_881 : Cond.methodLink "java/lang/StringUTF16" 111 yJ2_putChar_b72d1 ∈ GW := mw_of (i := 987) (by decide +kernel) rfl
theorem mw_882 : Cond.static yJ2_putChar_b72d1 ∈ GW := mw_of (i := 988) (by decide +kernel) rfl
theorem mw_883 : Cond.code yJ2_putChar_b72d1 prog_29_method_4_code 3 none ∈ GW := mw_of (i := 989) (by decide +kernel) rfl
theorem mw_884 : Cond.fieldLink "java/lang/StringUTF16" 44 "java/lang/StringUTF16" "$assertionsDisabled" "Z" ∈ GW := mw_of (i := 990) (by decide +kernel) rfl
theorem mw_886 : Cond.fieldLink "java/lang/StringUTF16" 59 "java/lang/StringUTF16" "HI_BYTE_SHIFT" "I" ∈ GW := mw_of (i := 992) (by decide +kernel) rfl
theorem mw_888 : Cond.fieldLink "java/lang/StringUTF16" 63 "java/lang/StringUTF16" "LO_BYTE_SHIFT" "I" ∈ GW := mw_of (i := 994) (by decide +kernel) rfl
theorem mw_890 : Cond.methodLink "java/lang/AbstractStringBuilder" 32 yJ0_length_8abf5 ∈ GW := mw_of (i := 996) (by decide +kernel) rfl
theorem mw_891 : Cond.instanceMethod yJ0_length_8abf5 ∈ GW := mw_of (i := 997) (by decide +kernel) rfl
theorem mw_892 : Cond.selects "java/lang/String" yJ0_length_8abf5 yJ0_length_8abf5 ∈ GW := mw_of (i := 998) (by decide +kernel) rfl
theorem mw_893 : Cond.code yJ0_length_8abf5 prog_25_method_54_code 1 (some .int) ∈ GW := mw_of (i := 999) (by decide +kernel) rfl
theorem mw_894 : Cond.methodLink "java/lang/String" 335 yJ0_coder_7d493 ∈ GW := mw_of (i := 1000) (by decide +kernel) rfl
theorem mw_895 : Cond.instanceMethod yJ0_coder_7d493 ∈ GW := mw_of (i := 1001) (by decide +kernel) rfl
theorem mw_896 : Cond.selects "java/lang/String" yJ0_coder_7d493 yJ0_coder_7d493 ∈ GW := mw_of (i := 1002) (by decide +kernel) rfl
theorem mw_897 : Cond.code yJ0_coder_7d493 prog_25_method_152_code 1 (some .byte) ∈ GW := mw_of (i := 1003) (by decide +kernel) rfl
theorem mw_898 : Cond.fieldLink "java/lang/String" 38 "java/lang/String" "COMPACT_STRINGS" "Z" ∈ GW := mw_of (i := 1004) (by decide +kernel) rfl
theorem mw_899 : Cond.methodLink "java/lang/AbstractStringBuilder" 208 yJ5_putStringAt_47b60 ∈ GW := mw_of (i := 1005) (by decide +kernel) rfl
theorem mw_901 : Cond.instanceMethod yJ5_putStringAt_47b60 ∈ GW := mw_of (i := 1007) (by decide +kernel) rfl
theorem mw_902 : Cond.code yJ5_putStringAt_47b60 prog_10_method_73_code 3 none ∈ GW := mw_of (i := 1008) (by decide +kernel) rfl
theorem mw_903 : Cond.methodLink "java/lang/AbstractStringBuilder" 397 yJ5_inflateIfNeededFor_a7421 ∈ GW := mw_of (i := 1009) (by decide +kernel) rfl
theorem mw_905 : Cond.instanceMethod yJ5_inflateIfNeededFor_a7421 ∈ GW := mw_of (i := 1011) (by decide +kernel) rfl
theorem mw_906 : Cond.code yJ5_inflateIfNeededFor_a7421 prog_10_method_71_code 2 none ∈ GW := mw_of (i := 1012) (by decide +kernel) rfl
theorem mw_907 : Cond.methodLink "java/lang/AbstractStringBuilder" 40 yJ0_coder_7d493 ∈ GW := mw_of (i := 1013) (by decide +kernel) rfl
theorem mw_908 : Cond.methodLink "java/lang/AbstractStringBuilder" 195 yJ5_inflate_da8c8 ∈ GW := mw_of (i := 1014) (by decide +kernel) rfl
theorem mw_910 : Cond.instanceMethod yJ5_inflate_da8c8 ∈ GW := mw_of (i := 1016) (by decide +kernel) rfl
theorem mw_911 : Cond.code yJ5_inflate_da8c8 prog_10_method_11_code 2 none ∈ GW := mw_of (i := 1017) (by decide +kernel) rfl
theorem mw_912 : Cond.methodLink "java/lang/AbstractStringBuilder" 125 yJ1_inflate_0e8fd ∈ GW := mw_of (i := 1018) (by decide +kernel) rfl
theorem mw_913 : Cond.static yJ1_inflate_0e8fd ∈ GW := mw_of (i := 1019) (by decide +kernel) rfl
theorem mw_914 : Cond.code yJ1_inflate_0e8fd prog_28_method_50_code 5 none ∈ GW := mw_of (i := 1020) (by decide +kernel) rfl
theorem mw_915 : Cond.methodLink "java/lang/StringLatin1" 240 yJ2_inflate_0e8fd ∈ GW := mw_of (i := 1021) (by decide +kernel) rfl
theorem mw_916 : Cond.static yJ2_inflate_0e8fd ∈ GW := mw_of (i := 1022) (by decide +kernel) rfl
theorem mw_917 : Cond.code yJ2_inflate_0e8fd prog_29_method_86_code 6 none ∈ GW := mw_of (i := 1023) (by decide +kernel) rfl
theorem mw_918 : Cond.methodLink "java/lang/StringUTF16" 173 yJ2_checkBoundsOffCount_d044e ∈ GW := mw_of (i := 1024) (by decide +kernel) rfl
theorem mw_919 : Cond.static yJ2_checkBoundsOffCount_d044e ∈ GW := mw_of (i := 1025) (by decide +kernel) rfl
theorem mw_920 : Cond.code yJ2_checkBoundsOffCount_d044e prog_29_method_94_code 3 none ∈ GW := mw_of (i := 1026) (by decide +kernel) rfl
theorem mw_921 : Cond.methodLink "java/lang/StringUTF16" 419 yJ0_checkBoundsOffCount_cabcc ∈ GW := mw_of (i := 1027) (by decide +kernel) rfl
theorem mw_922 : Cond.static yJ0_checkBoundsOffCount_cabcc ∈ GW := mw_of (i := 1028) (by decide +kernel) rfl
theorem mw_923 : Cond.code yJ0_checkBoundsOffCount_cabcc prog_25_method_157_code 3 (some .int) ∈ GW := mw_of (i := 1029) (by decide +kernel) rfl
theorem mw_924 : Cond.methodLink "java/lang/String" 1065 yJ3_checkFromIndexSize_8c36e ∈ GW := mw_of (i := 1030) (by decide +kernel) rfl
theorem mw_925 : Cond.static yJ3_checkFromIndexSize_8c36e ∈ GW := mw_of (i := 1031) (by decide +kernel) rfl
theorem mw_926 : Cond.code yJ3_checkFromIndexSize_8c36e prog_38_method_13_code 4 (some .int) ∈ GW := mw_of (i := 1032) (by decide +kernel) rfl
theorem mw_927 : Cond.methodLink "java/lang/AbstractStringBuilder" 399 yJ0_getBytes_840e7 ∈ GW := mw_of (i := 1033) (by decide +kernel) rfl
theorem mw_928 : Cond.instanceMethod yJ0_getBytes_840e7 ∈ GW := mw_of (i := 1034) (by decide +kernel) rfl
theorem mw_929 : Cond.selects "java/lang/String" yJ0_getBytes_840e7 yJ0_getBytes_840e7 ∈ GW := mw_of (i := 1035) (by decide +kernel) rfl
theorem mw_930 : Cond.code yJ0_getBytes_840e7 prog_25_method_147_code 4 none ∈ GW := mw_of (i := 1036) (by decide +kernel) rfl
theorem mw_931 : Cond.methodLink "java/lang/String" 212 ({ cls := "java/lang/System", name := "arraycopy", desc := "(Ljava/lang/Object;ILjava/lang/Object;II)V" } : MethodName) ∈ GW := mw_of (i := 1037) (by decide +kernel) rfl
theorem mw_932 : Cond.methodLink "java/lang/String" 106 yJ1_inflate_0e8fd ∈ GW := mw_of (i := 1038) (by decide +kernel) rfl
theorem mw_933 : Cond.methodLink "java/lang/StringIndexOutOfBoundsException" 19 yJ4_append_bf812 ∈ GW := mw_of (i := 1039) (by decide +kernel) rfl
theorem mw_934 : Cond.instanceMethod yJ4_append_bf812 ∈ GW := mw_of (i := 1040) (by decide +kernel) rfl
theorem mw_935 : Cond.selects "java/lang/StringBuilder" yJ4_append_bf812 yJ4_append_bf812 ∈ GW := mw_of (i := 1041) (by decide +kernel) rfl
theorem mw_936 : Cond.code yJ4_append_bf812 prog_26_method_15_code 2 (some (FieldType.object "java/lang/StringBuilder")) ∈ GW := mw_of (i := 1042) (by decide +kernel) rfl
theorem mw_937 : Cond.methodLink "java/lang/StringBuilder" 53 yJ5_append_c97b9 ∈ GW := mw_of (i := 1043) (by decide +kernel) rfl
theorem mw_938 : Cond.instanceMethod yJ5_append_c97b9 ∈ GW := mw_of (i := 1044) (by decide +kernel) rfl
theorem mw_939 : Cond.code yJ5_append_c97b9 prog_10_method_32_code 4 (some (FieldType.object "java/lang/AbstractStringBuilder")) ∈ GW := mw_of (i := 1045) (by decide +kernel) rfl
theorem mw_940 : Cond.methodLink "java/lang/AbstractStringBuilder" 245 yJ6_stringSize_0f7a4 ∈ GW := mw_of (i := 1046) (by decide +kernel) rfl
theorem mw_941 : Cond.static yJ6_stringSize_0f7a4 ∈ GW := mw_of (i := 1047) (by decide +kernel) rfl
theorem mw_942 : Cond.code yJ6_stringSize_0f7a4 prog_21_method_13_code 4 (some .int) ∈ GW := mw_of (i := 1048) (by decide +kernel) rfl
theorem mw_943 : Cond.methodLink "java/lang/AbstractStringBuilder" 248 yJ6_getChars_ba4f3 ∈ GW := mw_of (i := 1049) (by decide +kernel) rfl
theorem mw_944 : Cond.static yJ6_getChars_ba4f3 ∈ GW := mw_of (i := 1050) (by decide +kernel) rfl
theorem mw_945 : Cond.code yJ6_getChars_ba4f3 prog_21_method_12_code 7 (some .int) ∈ GW := mw_of (i := 1051) (by decide +kernel) rfl
theorem mw_946 : Cond.fieldLink "java/lang/Integer" 83 "java/lang/Integer" "DigitOnes" "[B" ∈ GW := mw_of (i := 1052) (by decide +kernel) rfl
theorem mw_948 : Cond.fieldLink "java/lang/Integer" 87 "java/lang/Integer" "DigitTens" "[B" ∈ GW := mw_of (i := 1054) (by decide +kernel) rfl
theorem mw_950 : Cond.methodLink "java/lang/AbstractStringBuilder" 251 yJ2_getChars_46870 ∈ GW := mw_of (i := 1056) (by decide +kernel) rfl
theorem mw_951 : Cond.static yJ2_getChars_46870 ∈ GW := mw_of (i := 1057) (by decide +kernel) rfl
theorem mw_952 : Cond.code yJ2_getChars_46870 prog_29_method_77_code 5 (some .int) ∈ GW := mw_of (i := 1058) (by decide +kernel) rfl
theorem mw_953 : Cond.methodLink "java/lang/StringUTF16" 393 yJ2_getChars_ba4f3 ∈ GW := mw_of (i := 1059) (by decide +kernel) rfl
theorem mw_954 : Cond.static yJ2_getChars_ba4f3 ∈ GW := mw_of (i := 1060) (by decide +kernel) rfl
theorem mw_955 : Cond.code yJ2_getChars_ba4f3 prog_29_method_89_code 7 (some .int) ∈ GW := mw_of (i := 1061) (by decide +kernel) rfl
theorem mw_956 : Cond.fieldLink "java/lang/StringUTF16" 403 "java/lang/Integer" "DigitOnes" "[B" ∈ GW := mw_of (i := 1062) (by decide +kernel) rfl
theorem mw_957 : Cond.fieldLink "java/lang/StringUTF16" 407 "java/lang/Integer" "DigitTens" "[B" ∈ GW := mw_of (i := 1063) (by decide +kernel) rfl
theorem mw_958 : Cond.methodLink "java/lang/StringIndexOutOfBoundsException" 22 yJ4_toString_0e30d ∈ GW := mw_of (i := 1064) (by decide +kernel) rfl
theorem mw_959 : Cond.instanceMethod yJ4_toString_0e30d ∈ GW := mw_of (i := 1065) (by decide +kernel) rfl
theorem mw_960 : Cond.selects "java/lang/StringBuilder" yJ4_toString_0e30d yJ4_toString_0e30d ∈ GW := mw_of (i := 1066) (by decide +kernel) rfl
theorem mw_961 : Cond.code yJ4_toString_0e30d prog_26_method_42_code 1 (some (FieldType.object "java/lang/String")) ∈ GW := mw_of (i := 1067) (by decide +kernel) rfl
theorem mw_962 : Cond.classLink "java/lang/StringBuilder" 18 "java/lang/String" ∈ GW := mw_of (i := 1068) (by decide +kernel) rfl
theorem mw_963 : Cond.methodLink "java/lang/StringBuilder" 137 yJ0_init_81219 ∈ GW := mw_of (i := 1069) (by decide +kernel) rfl
theorem mw_964 : Cond.instanceMethod yJ0_init_81219 ∈ GW := mw_of (i := 1070) (by decide +kernel) rfl
theorem mw_965 : Cond.code yJ0_init_81219 prog_25_method_53_code 2 none ∈ GW := mw_of (i := 1071) (by decide +kernel) rfl
theorem mw_966 : Cond.methodLink "java/lang/String" 489 yJ0_init_db425 ∈ GW := mw_of (i := 1072) (by decide +kernel) rfl
theorem mw_967 : Cond.instanceMethod yJ0_init_db425 ∈ GW := mw_of (i := 1073) (by decide +kernel) rfl
theorem mw_968 : Cond.code yJ0_init_db425 prog_25_method_150_code 5 none ∈ GW := mw_of (i := 1074) (by decide +kernel) rfl
theorem mw_969 : Cond.methodLink "java/lang/String" 1 Lib.objectInit ∈ GW := mw_of (i := 1075) (by decide +kernel) rfl
theorem mw_970 : Cond.methodLink "java/lang/String" 552 yJ5_getValue_6d5f1 ∈ GW := mw_of (i := 1076) (by decide +kernel) rfl
theorem mw_971 : Cond.instanceMethod yJ5_getValue_6d5f1 ∈ GW := mw_of (i := 1077) (by decide +kernel) rfl
theorem mw_972 : Cond.sameMethod "java/lang/AbstractStringBuilder" "java/lang/AbstractStringBuilder" "getValue" "()[B" ∈ GW := mw_of (i := 1078) (by decide +kernel) rfl
theorem mw_973 : Cond.selects "java/lang/StringBuilder" yJ5_getValue_6d5f1 yJ5_getValue_6d5f1 ∈ GW := mw_of (i := 1079) (by decide +kernel) rfl
theorem mw_974 : Cond.code yJ5_getValue_6d5f1 prog_10_method_64_code 1 (some (FieldType.array FieldType.byte)) ∈ GW := mw_of (i := 1080) (by decide +kernel) rfl
theorem mw_975 : Cond.methodLink "java/lang/String" 549 yJ5_length_8abf5 ∈ GW := mw_of (i := 1081) (by decide +kernel) rfl
theorem mw_976 : Cond.instanceMethod yJ5_length_8abf5 ∈ GW := mw_of (i := 1082) (by decide +kernel) rfl
theorem mw_977 : Cond.sameMethod "java/lang/AbstractStringBuilder" "java/lang/AbstractStringBuilder" "length" "()I" ∈ GW := mw_of (i := 1083) (by decide +kernel) rfl
theorem mw_978 : Cond.selects "java/lang/StringBuilder" yJ5_length_8abf5 yJ4_length_8abf5 ∈ GW := mw_of (i := 1084) (by decide +kernel) rfl
theorem mw_979 : Cond.instanceMethod yJ4_length_8abf5 ∈ GW := mw_of (i := 1085) (by decide +kernel) rfl
theorem mw_980 : Cond.code yJ4_length_8abf5 prog_26_method_93_code 1 (some .int) ∈ GW := mw_of (i := 1086) (by decide +kernel) rfl
theorem mw_981 : Cond.methodLink "java/lang/StringBuilder" 343 yJ5_length_8abf5 ∈ GW := mw_of (i := 1087) (by decide +kernel) rfl
theorem mw_982 : Cond.code yJ5_length_8abf5 prog_10_method_6_code 1 (some .int) ∈ GW := mw_of (i := 1088) (by decide +kernel) rfl
theorem mw_983 : Cond.methodLink "java/lang/String" 1047 yJ5_isLatin1_aae02 ∈ GW := mw_of (i := 1089) (by decide +kernel) rfl
theorem mw_984 : Cond.methodLink "java/lang/String" 54 yJ7_copyOfRange_39247 ∈ GW := mw_of (i := 1090) (by decide +kernel) rfl
theorem mw_985 : Cond.static yJ7_copyOfRange_39247 ∈ GW := mw_of (i := 1091) (by decide +kernel) rfl
theorem mw_986 : Cond.code yJ7_copyOfRange_39247 prog_35_method_132_code 3 (some (FieldType.array FieldType.byte)) ∈ GW := mw_of (i := 1092) (by decide +kernel) rfl
theorem mw_987 : Cond.methodLink "java/util/Arrays" 339 yJ7_copyOfRangeByte_39247 ∈ GW := mw_of (i := 1093) (by decide +kernel) rfl
theorem mw_988 : Cond.static yJ7_copyOfRangeByte_39247 ∈ GW := mw_of (i := 1094) (by decide +kernel) rfl
theorem mw_989 : Cond.code yJ7_copyOfRangeByte_39247 prog_35_method_133_code 5 (some (FieldType.array FieldType.byte)) ∈ GW := mw_of (i := 1095) (by decide +kernel) rfl
theorem mw_990 : Cond.methodLink "java/util/Arrays" 343 yJ7_checkLength_df160 ∈ GW := mw_of (i := 1096) (by decide +kernel) rfl
theorem mw_991 : Cond.static yJ7_checkLength_df160 ∈ GW := mw_of (i := 1097) (by decide +kernel) rfl
theorem mw_992 : Cond.code yJ7_checkLength_df160 prog_35_method_131_code 2 none ∈ GW := mw_of (i := 1098) (by decide +kernel) rfl
theorem mw_993 : Cond.classLink "java/util/Arrays" 43 "java/lang/IllegalArgumentException" ∈ GW := mw_of (i := 1099) (by decide +kernel) rfl
theorem mw_994 : Cond.classLink "java/util/Arrays" 45 "java/lang/StringBuilder" ∈ GW := mw_of (i := 1100) (by decide +kernel) rfl
theorem mw_995 : Cond.methodLink "java/util/Arrays" 47 yJ4_init_da8c8 ∈ GW := mw_of (i := 1101) (by decide +kernel) rfl
theorem mw_996 : Cond.methodLink "java/util/Arrays" 54 yJ4_append_bf812 ∈ GW := mw_of (i := 1102) (by decide +kernel) rfl
theorem mw_998 : Cond.methodLink "java/util/Arrays" 50 yJ4_append_15ec4 ∈ GW := mw_of (i := 1104) (by decide +kernel) rfl
theorem mw_999 : Cond.methodLink "java/util/Arrays" 61 yJ4_toString_0e30d ∈ GW := mw_of (i := 1105) (by decide +kernel) rfl
theorem mw_1000 : Cond.methodLink "java/util/Arrays" 65 ({ cls := "java/lang/IllegalArgumentException", name := "<init>", desc := "(Ljava/lang/String;)V" } : MethodName) ∈ GW := mw_of (i := 1106) (by decide +kernel) rfl
theorem mw_1001 : Cond.instanceMethod ({ cls := "java/lang/IllegalArgumentException", name := "<init>", desc := "(Ljava/lang/String;)V" } : MethodName) ∈ GW := mw_of (i := 1107) (by decide +kernel) rfl
theorem mw_1002 : Cond.code ({ cls := "java/lang/IllegalArgumentException", name := "<init>", desc := "(Ljava/lang/String;)V" } : MethodName) prog_18_method_2_code 2 none ∈ GW := mw_of (i := 1108) (by decide +kernel) rfl
theorem mw_1003 : Cond.methodLink "java/lang/IllegalArgumentException" 7 ({ cls := "java/lang/RuntimeException", name := "<init>", desc := "(Ljava/lang/String;)V" } : MethodName) ∈ GW := mw_of (i := 1109) (by decide +kernel) rfl
theorem mw_1004 : Cond.methodLink "java/lang/String" 1051 yJ2_compress_39247 ∈ GW := mw_of (i := 1110) (by decide +kernel) rfl
theorem mw_1005 : Cond.static yJ2_compress_39247 ∈ GW := mw_of (i := 1111) (by decide +kernel) rfl
theorem mw_1006 : Cond.code yJ2_compress_39247 prog_29_method_17_code 6 (some (FieldType.array FieldType.byte)) ∈ GW := mw_of (i := 1112) (by decide +kernel) rfl
theorem mw_1007 : Cond.methodLink "java/lang/StringUTF16" 123 yJ2_compress_5af95 ∈ GW := mw_of (i := 1113) (by decide +kernel) rfl
theorem mw_1008 : Cond.static yJ2_compress_5af95 ∈ GW := mw_of (i := 1114) (by decide +kernel) rfl
theorem mw_1009 : Cond.code yJ2_compress_5af95 prog_29_method_22_code 7 (some .int) ∈ GW := mw_of (i := 1115) (by decide +kernel) rfl
theorem mw_1010 : Cond.methodLink "java/lang/StringUTF16" 71 yJ2_getChar_3b067 ∈ GW := mw_of (i := 1116) (by decide +kernel) rfl
theorem mw_1011 : Cond.static yJ2_getChar_3b067 ∈ GW := mw_of (i := 1117) (by decide +kernel) rfl
theorem mw_1012 : Cond.code yJ2_getChar_3b067 prog_29_method_5_code 2 (some .char) ∈ GW := mw_of (i := 1118) (by decide +kernel) rfl
theorem mw_1013 : Cond.methodLink "java/lang/StringUTF16" 126 yJ7_copyOfRange_39247 ∈ GW := mw_of (i := 1119) (by decide +kernel) rfl
theorem mw_1014 : Cond.methodLink "java/lang/String" 47 yJ2_coderFromArrayLen_85cad ∈ GW := mw_of (i := 1120) (by decide +kernel) rfl
theorem mw_1015 : Cond.static yJ2_coderFromArrayLen_85cad ∈ GW := mw_of (i := 1121) (by decide +kernel) rfl
theorem mw_1016 : Cond.code yJ2_coderFromArrayLen_85cad prog_29_method_15_code 2 (some .byte) ∈ GW := mw_of (i := 1122) (by decide +kernel) rfl
theorem mw_1017 : Cond.fieldLink "java/lang/String" 9 "java/lang/String" "value" "[B" ∈ GW := mw_of (i := 1123) (by decide +kernel) rfl
theorem mw_1018 : Cond.fieldLink "java/lang/String" 15 "java/lang/String" "coder" "B" ∈ GW := mw_of (i := 1124) (by decide +kernel) rfl
theorem mw_1023 : Cond.superclass "java/lang/String" "java/lang/Object" ∈ GW := mw_of (i := 1129) (by decide +kernel) rfl
theorem mw_1024 : Cond.methodLink "java/lang/StringIndexOutOfBoundsException" 7 ({ cls := "java/lang/IndexOutOfBoundsException", name := "<init>", desc := "(Ljava/lang/String;)V" } : MethodName) ∈ GW := mw_of (i := 1130) (by decide +kernel) rfl
theorem mw_1031 : Cond.superclass "java/lang/StringIndexOutOfBoundsException" "java/lang/IndexOutOfBoundsException" ∈ GW := mw_of (i := 1137) (by decide +kernel) rfl
theorem mw_1032 : Cond.methodLink "java/lang/AbstractStringBuilder" 133 yJ1_fillNull_b72d1 ∈ GW := mw_of (i := 1138) (by decide +kernel) rfl
theorem mw_1033 : Cond.static yJ1_fillNull_b72d1 ∈ GW := mw_of (i := 1139) (by decide +kernel) rfl
theorem mw_1034 : Cond.code yJ1_fillNull_b72d1 prog_28_method_48_code 3 none ∈ GW := mw_of (i := 1140) (by decide +kernel) rfl
theorem mw_1035 : Cond.methodLink "java/lang/StringLatin1" 236 yJ7_fill_eb02e ∈ GW := mw_of (i := 1141) (by decide +kernel) rfl
theorem mw_1036 : Cond.static yJ7_fill_eb02e ∈ GW := mw_of (i := 1142) (by decide +kernel) rfl
theorem mw_1037 : Cond.code yJ7_fill_eb02e prog_35_method_110_code 5 none ∈ GW := mw_of (i := 1143) (by decide +kernel) rfl
theorem mw_1038 : Cond.methodLink "java/util/Arrays" 13 yJ7_rangeCheck_23922 ∈ GW := mw_of (i := 1144) (by decide +kernel) rfl
theorem mw_1039 : Cond.static yJ7_rangeCheck_23922 ∈ GW := mw_of (i := 1145) (by decide +kernel) rfl
theorem mw_1040 : Cond.code yJ7_rangeCheck_23922 prog_35_method_30_code 3 none ∈ GW := mw_of (i := 1146) (by decide +kernel) rfl
theorem mw_1044 : Cond.classLink "java/util/Arrays" 68 "java/lang/ArrayIndexOutOfBoundsException" ∈ GW := mw_of (i := 1150) (by decide +kernel) rfl
theorem mw_1045 : Cond.methodLink "java/util/Arrays" 70 yJx00060_init_d00df ∈ GW := mw_of (i := 1151) (by decide +kernel) rfl
theorem mw_1046 : Cond.instanceMethod yJx00060_init_d00df ∈ GW := mw_of (i := 1152) (by decide +kernel) rfl
theorem mw_1047 : Cond.code yJx00060_init_d00df prog_13_method_3_code 2 none ∈ GW := mw_of (i := 1153) (by decide +kernel) rfl
theorem mw_1048 : Cond.classLink "java/lang/ArrayIndexOutOfBoundsException" 10 "java/lang/StringBuilder" ∈ GW := mw_of (i := 1154) (by decide +kernel) rfl
theorem mw_1049 : Cond.methodLink "java/lang/ArrayIndexOutOfBoundsException" 12 yJ4_init_da8c8 ∈ GW := mw_of (i := 1155) (by decide +kernel) rfl
theorem mw_1051 : Cond.methodLink "java/lang/ArrayIndexOutOfBoundsException" 15 yJ4_append_15ec4 ∈ GW := mw_of (i := 1157) (by decide +kernel) rfl
theorem mw_1052 : Cond.methodLink "java/lang/ArrayIndexOutOfBoundsException" 19 yJ4_append_bf812 ∈ GW := mw_of (i := 1158) (by decide +kernel) rfl
theorem mw_1053 : Cond.methodLink "java/lang/ArrayIndexOutOfBoundsException" 22 yJ4_toString_0e30d ∈ GW := mw_of (i := 1159) (by decide +kernel) rfl
theorem mw_1054 : Cond.methodLink "java/lang/AbstractStringBuilder" 137 yJ2_fillNull_b72d1 ∈ GW := mw_of (i := 1160) (by decide +kernel) rfl
theorem mw_1055 : Cond.static yJ2_fillNull_b72d1 ∈ GW := mw_of (i := 1161) (by decide +kernel) rfl
theorem mw_1056 : Cond.code yJ2_fillNull_b72d1 prog_29_method_70_code 3 none ∈ GW := mw_of (i := 1162) (by decide +kernel) rfl
theorem mw_1057 : Cond.methodLink "java/lang/StringUTF16" 380 yJ7_fill_eb02e ∈ GW := mw_of (i := 1163) (by decide +kernel) rfl
theorem mw_1058 : Cond.methodLink "EveningLedger" 240 yJ4_append_cf468 ∈ GW := mw_of (i := 1164) (by decide +kernel) rfl
theorem mw_1059 : Cond.instanceMethod yJ4_append_cf468 ∈ GW := mw_of (i := 1165) (by decide +kernel) rfl
theorem mw_1060 : Cond.selects "java/lang/StringBuilder" yJ4_append_cf468 yJ4_append_cf468 ∈ GW := mw_of (i := 1166) (by decide +kernel) rfl
theorem mw_1061 : Cond.code yJ4_append_cf468 prog_26_method_14_code 2 (some (FieldType.object "java/lang/StringBuilder")) ∈ GW := mw_of (i := 1167) (by decide +kernel) rfl
theorem mw_1062 : Cond.methodLink "java/lang/StringBuilder" 50 yJ5_append_3fe6f ∈ GW := mw_of (i := 1168) (by decide +kernel) rfl
theorem mw_1063 : Cond.instanceMethod yJ5_append_3fe6f ∈ GW := mw_of (i := 1169) (by decide +kernel) rfl
theorem mw_1064 : Cond.code yJ5_append_3fe6f prog_10_method_31_code 2 (some (FieldType.object "java/lang/AbstractStringBuilder")) ∈ GW := mw_of (i := 1170) (by decide +kernel) rfl
theorem mw_1065 : Cond.methodLink "java/lang/AbstractStringBuilder" 191 yJ1_canEncode_fc78d ∈ GW := mw_of (i := 1171) (by decide +kernel) rfl
theorem mw_1066 : Cond.static yJ1_canEncode_fc78d ∈ GW := mw_of (i := 1172) (by decide +kernel) rfl
theorem mw_1067 : Cond.code yJ1_canEncode_fc78d prog_28_method_3_code 1 (some .boolean) ∈ GW := mw_of (i := 1173) (by decide +kernel) rfl
theorem mw_1068 : Cond.methodLink "java/lang/AbstractStringBuilder" 197 yJ2_putCharSB_b72d1 ∈ GW := mw_of (i := 1174) (by decide +kernel) rfl
theorem mw_1069 : Cond.static yJ2_putCharSB_b72d1 ∈ GW := mw_of (i := 1175) (by decide +kernel) rfl
theorem mw_1070 : Cond.code yJ2_putCharSB_b72d1 prog_29_method_71_code 3 none ∈ GW := mw_of (i := 1176) (by decide +kernel) rfl
theorem mw_1071 : Cond.methodLink "java/lang/StringUTF16" 67 yJ2_checkIndex_2214a ∈ GW := mw_of (i := 1177) (by decide +kernel) rfl
theorem mw_1072 : Cond.static yJ2_checkIndex_2214a ∈ GW := mw_of (i := 1178) (by decide +kernel) rfl
theorem mw_1073 : Cond.code yJ2_checkIndex_2214a prog_29_method_91_code 2 none ∈ GW := mw_of (i := 1179) (by decide +kernel) rfl
theorem mw_1074 : Cond.methodLink "java/lang/StringUTF16" 414 yJ0_checkIndex_df160 ∈ GW := mw_of (i := 1180) (by decide +kernel) rfl
theorem mw_1075 : Cond.static yJ0_checkIndex_df160 ∈ GW := mw_of (i := 1181) (by decide +kernel) rfl
theorem mw_1076 : Cond.code yJ0_checkIndex_df160 prog_25_method_155_code 2 none ∈ GW := mw_of (i := 1182) (by decide +kernel) rfl
theorem mw_1077 : Cond.methodLink "java/lang/String" 1059 yJ3_checkIndex_8e157 ∈ GW := mw_of (i := 1183) (by decide +kernel) rfl
theorem mw_1078 : Cond.static yJ3_checkIndex_8e157 ∈ GW := mw_of (i := 1184) (by decide +kernel) rfl
theorem mw_1079 : Cond.code yJ3_checkIndex_8e157 prog_38_method_11_code 3 (some .int) ∈ GW := mw_of (i := 1185) (by decide +kernel) rfl
theorem mw_1080 : Cond.methodLink "EveningLedger" 244 yX5_putPlace ∈ GW := mw_of (i := 1186) (by decide +kernel) rfl
theorem mw_1082 : Cond.instanceMethod yX5_putPlace ∈ GW := mw_of (i := 1188) (by decide +kernel) rfl
theorem mw_1083 : Cond.code yX5_putPlace prog_1_method_50_code 5 none ∈ GW := mw_of (i := 1189) (by decide +kernel) rfl
theorem mw_1084 : Cond.methodLink "EveningLedger" 330 yJ4_append_bf812 ∈ GW := mw_of (i := 1190) (by decide +kernel) rfl
theorem mw_1085 : Cond.methodLink "EveningLedger" 247 yJ4_length_8abf5 ∈ GW := mw_of (i := 1191) (by decide +kernel) rfl
theorem mw_1086 : Cond.methodLink "EveningLedgerLaw" 220 yL_show ∈ GW := mw_of (i := 1192) (by decide +kernel) rfl
theorem mw_1087 : Cond.static yL_show ∈ GW := mw_of (i := 1193) (by decide +kernel) rfl
theorem mw_1088 : Cond.codeWith yL_show method_26_code 4 (some .int) [(0, 9, 12, 13)] ∈ GW := mw_of (i := 1194) (by decide +kernel) rfl
theorem mw_1089 : Cond.methodLink "EveningLedgerLaw" 97 yX5_show ∈ GW := mw_of (i := 1195) (by decide +kernel) rfl
theorem mw_1090 : Cond.instanceMethod yX5_show ∈ GW := mw_of (i := 1196) (by decide +kernel) rfl
theorem mw_1091 : Cond.selects "EveningLedger" yX5_show yX5_show ∈ GW := mw_of (i := 1197) (by decide +kernel) rfl
theorem mw_1092 : Cond.code yX5_show prog_1_method_25_code 4 (some .int) ∈ GW := mw_of (i := 1198) (by decide +kernel) rfl
theorem mw_1093 : Cond.methodLink "EveningLedger" 251 yX5_putSheet ∈ GW := mw_of (i := 1199) (by decide +kernel) rfl
theorem mw_1095 : Cond.instanceMethod yX5_putSheet ∈ GW := mw_of (i := 1201) (by decide +kernel) rfl
theorem mw_1096 : Cond.code yX5_putSheet prog_1_method_51_code 4 none ∈ GW := mw_of (i := 1202) (by decide +kernel) rfl
theorem mw_1097 : Cond.methodLink "EveningLedgerLaw" 223 yL_character ∈ GW := mw_of (i := 1203) (by decide +kernel) rfl
theorem mw_1098 : Cond.static yL_character ∈ GW := mw_of (i := 1204) (by decide +kernel) rfl
theorem mw_1099 : Cond.codeWith yL_character method_27_code 4 (some .int) [(0, 9, 12, 38)] ∈ GW := mw_of (i := 1205) (by decide +kernel) rfl
theorem mw_1100 : Cond.methodLink "EveningLedgerLaw" 100 yX5_character ∈ GW := mw_of (i := 1206) (by decide +kernel) rfl
theorem mw_1101 : Cond.instanceMethod yX5_character ∈ GW := mw_of (i := 1207) (by decide +kernel) rfl
theorem mw_1102 : Cond.selects "EveningLedger" yX5_character yX5_character ∈ GW := mw_of (i := 1208) (by decide +kernel) rfl
theorem mw_1103 : Cond.code yX5_character prog_1_method_26_code 2 (some .char) ∈ GW := mw_of (i := 1209) (by decide +kernel) rfl
theorem mw_1104 : Cond.methodLink "EveningLedger" 254 yJ4_charAt_5068e ∈ GW := mw_of (i := 1210) (by decide +kernel) rfl
theorem mw_1105 : Cond.instanceMethod yJ4_charAt_5068e ∈ GW := mw_of (i := 1211) (by decide +kernel) rfl
theorem mw_1106 : Cond.selects "java/lang/StringBuilder" yJ4_charAt_5068e yJ4_charAt_5068e ∈ GW := mw_of (i := 1212) (by decide +kernel) rfl
theorem mw_1107 : Cond.code yJ4_charAt_5068e prog_26_method_88_code 2 (some .char) ∈ GW := mw_of (i := 1213) (by decide +kernel) rfl
theorem mw_1108 : Cond.methodLink "java/lang/StringBuilder" 329 yJ5_charAt_5068e ∈ GW := mw_of (i := 1214) (by decide +kernel) rfl
theorem mw_1109 : Cond.instanceMethod yJ5_charAt_5068e ∈ GW := mw_of (i := 1215) (by decide +kernel) rfl
theorem mw_1110 : Cond.code yJ5_charAt_5068e prog_10_method_14_code 5 (some .char) ∈ GW := mw_of (i := 1216) (by decide +kernel) rfl
theorem mw_1111 : Cond.methodLink "java/lang/AbstractStringBuilder" 138 yJ9_min_7cf53 ∈ GW := mw_of (i := 1217) (by decide +kernel) rfl
theorem mw_1112 : Cond.methodLink "java/lang/AbstractStringBuilder" 144 yJ0_checkIndex_df160 ∈ GW := mw_of (i := 1218) (by decide +kernel) rfl
theorem mw_1113 : Cond.methodLink "java/lang/AbstractStringBuilder" 148 yJ2_getChar_3b067 ∈ GW := mw_of (i := 1219) (by decide +kernel) rfl
theorem mw_1114 : Cond.methodLink "EveningLedgerLaw" 226 yL_meanDebt ∈ GW := mw_of (i := 1220) (by decide +kernel) rfl
theorem mw_1115 : Cond.static yL_meanDebt ∈ GW := mw_of (i := 1221) (by decide +kernel) rfl
theorem mw_1116 : Cond.codeWith yL_meanDebt method_28_code 4 (some .int) [(0, 8, 11, 13), (0, 8, 14, 108)] ∈ GW := mw_of (i := 1222) (by decide +kernel) rfl
theorem mw_1117 : Cond.classLink "EveningLedgerLaw" 108 "java/lang/ArithmeticException" ∈ GW := mw_of (i := 1223) (by decide +kernel) rfl
theorem mw_1118 : Cond.instantiable "java/lang/ArithmeticException" 6 ∈ GW := mw_of (i := 1224) (by decide +kernel) rfl
theorem mw_1119 : Cond.instanceMethod ({ cls := "java/lang/ArithmeticException", name := "<init>", desc := "(Ljava/lang/String;)V" } : MethodName) ∈ GW := mw_of (i := 1225) (by decide +kernel) rfl
theorem mw_1120 : Cond.code ({ cls := "java/lang/ArithmeticException", name := "<init>", desc := "(Ljava/lang/String;)V" } : MethodName) prog_12_method_2_code 2 none ∈ GW := mw_of (i := 1226) (by decide +kernel) rfl
theorem mw_1121 : Cond.methodLink "java/lang/ArithmeticException" 7 ({ cls := "java/lang/RuntimeException", name := "<init>", desc := "(Ljava/lang/String;)V" } : MethodName) ∈ GW := mw_of (i := 1227) (by decide +kernel) rfl
theorem mw_1128 : Cond.superclass "java/lang/ArithmeticException" "java/lang/RuntimeException" ∈ GW := mw_of (i := 1234) (by decide +kernel) rfl
theorem nw_1129 : Cond.castable "java/lang/ArithmeticException" "java/lang/ArithmeticException" ∈ NW := nw_of (i := 1235) (by decide +kernel) rfl
theorem mw_1130 : Cond.selects "java/lang/ArithmeticException" ({ cls := "java/lang/Throwable", name := "fillInStackTrace", desc := "(I)Ljava/lang/Throwable;" } : MethodName) ({ cls := "java/lang/Throwable", name := "fillInStackTrace", desc := "(I)Ljava/lang/Throwable;" } : MethodName) ∈ GW := mw_of (i := 1236) (by decide +kernel) rfl
theorem mw_1131 : Cond.methodLink "EveningLedgerLaw" 104 yX5_meanDebt ∈ GW := mw_of (i := 1237) (by decide +kernel) rfl
theorem mw_1132 : Cond.instanceMethod yX5_meanDebt ∈ GW := mw_of (i := 1238) (by decide +kernel) rfl
theorem mw_1133 : Cond.selects "EveningLedger" yX5_meanDebt yX5_meanDebt ∈ GW := mw_of (i := 1239) (by decide +kernel) rfl
theorem mw_1134 : Cond.code yX5_meanDebt prog_1_method_27_code 4 (some .double) ∈ GW := mw_of (i := 1240) (by decide +kernel) rfl
theorem nw_1135 : Cond.methodLinkNest "EveningLedger" 257 yX0_allEntries "EveningLedger" ∈ NW := nw_of (i := 1241) (by decide +kernel) rfl
theorem mw_1137 : Cond.instanceMethod yX0_allEntries ∈ GW := mw_of (i := 1243) (by decide +kernel) rfl
theorem mw_1138 : Cond.code yX0_allEntries prog_2_method_25_code 4 (some .int) ∈ GW := mw_of (i := 1244) (by decide +kernel) rfl
theorem mw_1139 : Cond.methodLink "EveningLedger$Book" 89 yX0_entriesOn ∈ GW := mw_of (i := 1245) (by decide +kernel) rfl
theorem mw_1140 : Cond.classLink "EveningLedger" 260 "java/lang/ArithmeticException" ∈ GW := mw_of (i := 1246) (by decide +kernel) rfl
theorem mw_1141 : Cond.methodLink "EveningLedger" 262 ({ cls := "java/lang/ArithmeticException", name := "<init>", desc := "()V" } : MethodName) ∈ GW := mw_of (i := 1247) (by decide +kernel) rfl
theorem mw_1142 : Cond.instanceMethod ({ cls := "java/lang/ArithmeticException", name := "<init>", desc := "()V" } : MethodName) ∈ GW := mw_of (i := 1248) (by decide +kernel) rfl
theorem mw_1143 : Cond.code ({ cls := "java/lang/ArithmeticException", name := "<init>", desc := "()V" } : MethodName) prog_12_method_1_code 1 none ∈ GW := mw_of (i := 1249) (by decide +kernel) rfl
theorem mw_1144 : Cond.methodLink "java/lang/ArithmeticException" 1 ({ cls := "java/lang/RuntimeException", name := "<init>", desc := "()V" } : MethodName) ∈ GW := mw_of (i := 1250) (by decide +kernel) rfl
theorem nw_1145 : Cond.methodLinkNest "EveningLedger" 263 yX0_sumOfAll "EveningLedger" ∈ NW := nw_of (i := 1251) (by decide +kernel) rfl
theorem mw_1147 : Cond.instanceMethod yX0_sumOfAll ∈ GW := mw_of (i := 1253) (by decide +kernel) rfl
theorem mw_1148 : Cond.code yX0_sumOfAll prog_2_method_26_code 4 (some .int) ∈ GW := mw_of (i := 1254) (by decide +kernel) rfl
theorem mw_1149 : Cond.methodLink "EveningLedger$Book" 92 yX0_sumOn ∈ GW := mw_of (i := 1255) (by decide +kernel) rfl
theorem mw_1150 : Cond.methodLink "EveningLedgerLaw" 235 yL_account ∈ GW := mw_of (i := 1256) (by decide +kernel) rfl
theorem mw_1151 : Cond.static yL_account ∈ GW := mw_of (i := 1257) (by decide +kernel) rfl
theorem mw_1152 : Cond.codeWith yL_account method_29_code 4 (some .int) [(0, 9, 12, 15)] ∈ GW := mw_of (i := 1258) (by decide +kernel) rfl
theorem mw_1153 : Cond.methodLink "EveningLedgerLaw" 110 yX5_account ∈ GW := mw_of (i := 1259) (by decide +kernel) rfl
theorem mw_1154 : Cond.instanceMethod yX5_account ∈ GW := mw_of (i := 1260) (by decide +kernel) rfl
theorem mw_1155 : Cond.selects "EveningLedger" yX5_account yX5_account ∈ GW := mw_of (i := 1261) (by decide +kernel) rfl
theorem mw_1156 : Cond.code yX5_account prog_1_method_29_code 2 (some .int) ∈ GW := mw_of (i := 1262) (by decide +kernel) rfl
theorem nw_1157 : Cond.methodLinkNest "EveningLedger" 266 yX0_sheetsLeft "EveningLedger" ∈ NW := nw_of (i := 1263) (by decide +kernel) rfl
theorem mw_1159 : Cond.instanceMethod yX0_sheetsLeft ∈ GW := mw_of (i := 1265) (by decide +kernel) rfl
theorem mw_1160 : Cond.code yX0_sheetsLeft prog_2_method_10_code 4 (some .int) ∈ GW := mw_of (i := 1266) (by decide +kernel) rfl
theorem mw_1161 : Cond.methodLink "EveningLedgerLaw" 238 yL_append ∈ GW := mw_of (i := 1267) (by decide +kernel) rfl
theorem mw_1162 : Cond.static yL_append ∈ GW := mw_of (i := 1268) (by decide +kernel) rfl
theorem mw_1163 : Cond.codeWith yL_append method_30_code 4 (some .int) [(0, 9, 12, 15), (0, 9, 15, 116)] ∈ GW := mw_of (i := 1269) (by decide +kernel) rfl
theorem mw_1164 : Cond.classLink "EveningLedgerLaw" 116 "java/lang/IllegalStateException" ∈ GW := mw_of (i := 1270) (by decide +kernel) rfl
theorem mw_1165 : Cond.methodLink "EveningLedgerLaw" 113 yX5_append ∈ GW := mw_of (i := 1271) (by decide +kernel) rfl
theorem mw_1166 : Cond.instanceMethod yX5_append ∈ GW := mw_of (i := 1272) (by decide +kernel) rfl
theorem mw_1167 : Cond.selects "EveningLedger" yX5_append yX5_append ∈ GW := mw_of (i := 1273) (by decide +kernel) rfl
theorem mw_1168 : Cond.code yX5_append prog_1_method_30_code 2 (some .int) ∈ GW := mw_of (i := 1274) (by decide +kernel) rfl
theorem mw_1169 : Cond.classLink "EveningLedger" 287 "java/lang/IllegalStateException" ∈ GW := mw_of (i := 1275) (by decide +kernel) rfl
theorem mw_1170 : Cond.instantiable "java/lang/IllegalStateException" 6 ∈ GW := mw_of (i := 1276) (by decide +kernel) rfl
theorem nw_1171 : Cond.castable "java/lang/IllegalStateException" "java/lang/IllegalStateException" ∈ NW := nw_of (i := 1277) (by decide +kernel) rfl
theorem mw_1172 : Cond.selects "java/lang/IllegalStateException" ({ cls := "java/lang/Throwable", name := "fillInStackTrace", desc := "(I)Ljava/lang/Throwable;" } : MethodName) ({ cls := "java/lang/Throwable", name := "fillInStackTrace", desc := "(I)Ljava/lang/Throwable;" } : MethodName) ∈ GW := mw_of (i := 1278) (by decide +kernel) rfl
theorem mw_1178 : Cond.methodLink "EveningLedger" 289 ({ cls := "java/lang/IllegalStateException", name := "<init>", desc := "()V" } : MethodName) ∈ GW := mw_of (i := 1284) (by decide +kernel) rfl
theorem mw_1179 : Cond.instanceMethod ({ cls := "java/lang/IllegalStateException", name := "<init>", desc := "()V" } : MethodName) ∈ GW := mw_of (i := 1285) (by decide +kernel) rfl
theorem mw_1180 : Cond.code ({ cls := "java/lang/IllegalStateException", name := "<init>", desc := "()V" } : MethodName) prog_19_method_1_code 1 none ∈ GW := mw_of (i := 1286) (by decide +kernel) rfl
theorem mw_1181 : Cond.methodLink "java/lang/IllegalStateException" 1 ({ cls := "java/lang/RuntimeException", name := "<init>", desc := "()V" } : MethodName) ∈ GW := mw_of (i := 1287) (by decide +kernel) rfl
theorem mw_1183 : Cond.superclass "java/lang/IllegalStateException" "java/lang/RuntimeException" ∈ GW := mw_of (i := 1289) (by decide +kernel) rfl
theorem mw_1184 : Cond.methodLink "EveningLedgerLaw" 241 yL_read ∈ GW := mw_of (i := 1290) (by decide +kernel) rfl
theorem mw_1185 : Cond.static yL_read ∈ GW := mw_of (i := 1291) (by decide +kernel) rfl
theorem mw_1186 : Cond.codeWith yL_read method_31_code 3 (some .int) [(0, 8, 11, 15), (0, 8, 14, 116), (0, 8, 17, 17)] ∈ GW := mw_of (i := 1292) (by decide +kernel) rfl
theorem mw_1187 : Cond.methodLink "EveningLedgerLaw" 118 yX5_read ∈ GW := mw_of (i := 1293) (by decide +kernel) rfl
theorem mw_1188 : Cond.instanceMethod yX5_read ∈ GW := mw_of (i := 1294) (by decide +kernel) rfl
theorem mw_1189 : Cond.selects "EveningLedger" yX5_read yX5_read ∈ GW := mw_of (i := 1295) (by decide +kernel) rfl
theorem mw_1190 : Cond.code yX5_read prog_1_method_31_code 3 (some .int) ∈ GW := mw_of (i := 1296) (by decide +kernel) rfl
theorem nw_1191 : Cond.methodLinkNest "EveningLedger" 290 yX3_countCommands "EveningLedger" ∈ NW := nw_of (i := 1297) (by decide +kernel) rfl
theorem mw_1193 : Cond.instanceMethod yX3_countCommands ∈ GW := mw_of (i := 1299) (by decide +kernel) rfl
theorem mw_1194 : Cond.code yX3_countCommands prog_5_method_4_code 2 (some .int) ∈ GW := mw_of (i := 1300) (by decide +kernel) rfl
theorem mw_1195 : Cond.methodLink "EveningLedger$Text" 42 yX3_startAgain ∈ GW := mw_of (i := 1301) (by decide +kernel) rfl
theorem mw_1197 : Cond.instanceMethod yX3_startAgain ∈ GW := mw_of (i := 1303) (by decide +kernel) rfl
theorem mw_1198 : Cond.code yX3_startAgain prog_5_method_3_code 1 none ∈ GW := mw_of (i := 1304) (by decide +kernel) rfl
theorem mw_1199 : Cond.methodLink "EveningLedger$Text" 45 yX3_takeCommand ∈ GW := mw_of (i := 1305) (by decide +kernel) rfl
theorem mw_1201 : Cond.instanceMethod yX3_takeCommand ∈ GW := mw_of (i := 1307) (by decide +kernel) rfl
theorem mw_1202 : Cond.code yX3_takeCommand prog_5_method_5_code 1 (some .boolean) ∈ GW := mw_of (i := 1308) (by decide +kernel) rfl
theorem mw_1203 : Cond.methodLink "EveningLedger$Text" 49 yX3_takeSign ∈ GW := mw_of (i := 1309) (by decide +kernel) rfl
theorem mw_1205 : Cond.instanceMethod yX3_takeSign ∈ GW := mw_of (i := 1311) (by decide +kernel) rfl
theorem mw_1206 : Cond.code yX3_takeSign prog_5_method_12_code 2 (some .boolean) ∈ GW := mw_of (i := 1312) (by decide +kernel) rfl
theorem mw_1207 : Cond.methodLink "EveningLedger$Text" 76 yX3_isAtSignFrom ∈ GW := mw_of (i := 1313) (by decide +kernel) rfl
theorem mw_1209 : Cond.instanceMethod yX3_isAtSignFrom ∈ GW := mw_of (i := 1315) (by decide +kernel) rfl
theorem mw_1210 : Cond.code yX3_isAtSignFrom prog_5_method_13_code 4 (some .boolean) ∈ GW := mw_of (i := 1316) (by decide +kernel) rfl
theorem mw_1211 : Cond.methodLink "EveningLedger$Text" 53 yJ4_length_8abf5 ∈ GW := mw_of (i := 1317) (by decide +kernel) rfl
theorem mw_1212 : Cond.methodLink "EveningLedger$Text" 80 yJ4_charAt_5068e ∈ GW := mw_of (i := 1318) (by decide +kernel) rfl
theorem mw_1213 : Cond.methodLink "EveningLedger$Text" 57 yX3_takeNumber ∈ GW := mw_of (i := 1319) (by decide +kernel) rfl
theorem mw_1215 : Cond.instanceMethod yX3_takeNumber ∈ GW := mw_of (i := 1321) (by decide +kernel) rfl
theorem mw_1216 : Cond.code yX3_takeNumber prog_5_method_10_code 5 (some .boolean) ∈ GW := mw_of (i := 1322) (by decide +kernel) rfl
theorem mw_1217 : Cond.methodLink "EveningLedger$Text" 73 yX3_takeDigit ∈ GW := mw_of (i := 1323) (by decide +kernel) rfl
theorem mw_1219 : Cond.instanceMethod yX3_takeDigit ∈ GW := mw_of (i := 1325) (by decide +kernel) rfl
theorem mw_1220 : Cond.code yX3_takeDigit prog_5_method_11_code 2 (some .int) ∈ GW := mw_of (i := 1326) (by decide +kernel) rfl
theorem mw_1221 : Cond.methodLink "EveningLedger$Text" 61 yX3_takePage ∈ GW := mw_of (i := 1327) (by decide +kernel) rfl
theorem mw_1223 : Cond.instanceMethod yX3_takePage ∈ GW := mw_of (i := 1329) (by decide +kernel) rfl
theorem mw_1224 : Cond.code yX3_takePage prog_5_method_7_code 1 (some .boolean) ∈ GW := mw_of (i := 1330) (by decide +kernel) rfl
theorem mw_1225 : Cond.methodLink "EveningLedger$Text" 64 yX3_takeEntryCommand ∈ GW := mw_of (i := 1331) (by decide +kernel) rfl
theorem mw_1227 : Cond.instanceMethod yX3_takeEntryCommand ∈ GW := mw_of (i := 1333) (by decide +kernel) rfl
theorem mw_1228 : Cond.code yX3_takeEntryCommand prog_5_method_6_code 1 (some .boolean) ∈ GW := mw_of (i := 1334) (by decide +kernel) rfl
theorem mw_1229 : Cond.methodLink "EveningLedger$Text" 67 yX3_takeLetter ∈ GW := mw_of (i := 1335) (by decide +kernel) rfl
theorem mw_1231 : Cond.instanceMethod yX3_takeLetter ∈ GW := mw_of (i := 1337) (by decide +kernel) rfl
theorem mw_1232 : Cond.code yX3_takeLetter prog_5_method_9_code 1 (some .boolean) ∈ GW := mw_of (i := 1338) (by decide +kernel) rfl
theorem mw_1233 : Cond.methodLink "EveningLedger$Text" 70 yX3_takePlace ∈ GW := mw_of (i := 1339) (by decide +kernel) rfl
theorem mw_1235 : Cond.instanceMethod yX3_takePlace ∈ GW := mw_of (i := 1341) (by decide +kernel) rfl
theorem mw_1236 : Cond.code yX3_takePlace prog_5_method_8_code 1 (some .boolean) ∈ GW := mw_of (i := 1342) (by decide +kernel) rfl
theorem nw_1237 : Cond.methodLinkNest "EveningLedger" 296 yX3_empty "EveningLedger" ∈ NW := nw_of (i := 1343) (by decide +kernel) rfl
theorem mw_1239 : Cond.instanceMethod yX3_empty ∈ GW := mw_of (i := 1345) (by decide +kernel) rfl
theorem mw_1240 : Cond.code yX3_empty prog_5_method_2_code 1 none ∈ GW := mw_of (i := 1346) (by decide +kernel) rfl
theorem mw_1241 : Cond.methodLink "EveningLedger$Text" 38 yJ4_setLength_d00df ∈ GW := mw_of (i := 1347) (by decide +kernel) rfl
theorem mw_1242 : Cond.methodLink "EveningLedger" 302 yX5_carryOut ∈ GW := mw_of (i := 1348) (by decide +kernel) rfl
theorem mw_1244 : Cond.instanceMethod yX5_carryOut ∈ GW := mw_of (i := 1350) (by decide +kernel) rfl
theorem mw_1245 : Cond.code yX5_carryOut prog_1_method_52_code 3 (some .int) ∈ GW := mw_of (i := 1351) (by decide +kernel) rfl
theorem nw_1246 : Cond.methodLinkNest "EveningLedger" 333 yX3_startAgain "EveningLedger" ∈ NW := nw_of (i := 1352) (by decide +kernel) rfl
theorem nw_1247 : Cond.methodLinkNest "EveningLedger" 336 yX3_takeCommand "EveningLedger" ∈ NW := nw_of (i := 1353) (by decide +kernel) rfl
theorem mw_1248 : Cond.methodLink "EveningLedger" 340 yX5_tellsWhatIs ∈ GW := mw_of (i := 1354) (by decide +kernel) rfl
theorem mw_1250 : Cond.instanceMethod yX5_tellsWhatIs ∈ GW := mw_of (i := 1356) (by decide +kernel) rfl
theorem mw_1251 : Cond.code yX5_tellsWhatIs prog_1_method_53_code 1 (some .boolean) ∈ GW := mw_of (i := 1357) (by decide +kernel) rfl
theorem mw_1252 : Cond.methodLink "EveningLedger" 343 yX5_commandIsRefused ∈ GW := mw_of (i := 1358) (by decide +kernel) rfl
theorem mw_1254 : Cond.instanceMethod yX5_commandIsRefused ∈ GW := mw_of (i := 1360) (by decide +kernel) rfl
theorem mw_1255 : Cond.code yX5_commandIsRefused prog_1_method_54_code 1 (some .boolean) ∈ GW := mw_of (i := 1361) (by decide +kernel) rfl
theorem mw_1256 : Cond.methodLink "EveningLedger" 346 yX5_doCommand ∈ GW := mw_of (i := 1362) (by decide +kernel) rfl
theorem mw_1258 : Cond.instanceMethod yX5_doCommand ∈ GW := mw_of (i := 1364) (by decide +kernel) rfl
theorem mw_1259 : Cond.code yX5_doCommand prog_1_method_55_code 1 none ∈ GW := mw_of (i := 1365) (by decide +kernel) rfl
theorem nw_1260 : Cond.methodLinkNest "EveningLedger" 349 yX3_takeSign "EveningLedger" ∈ NW := nw_of (i := 1366) (by decide +kernel) rfl
theorem mw_1261 : Cond.methodLink "EveningLedgerLaw" 244 yL_errorPosition ∈ GW := mw_of (i := 1367) (by decide +kernel) rfl
theorem mw_1262 : Cond.static yL_errorPosition ∈ GW := mw_of (i := 1368) (by decide +kernel) rfl
theorem mw_1263 : Cond.codeWith yL_errorPosition method_32_code 3 (some .int) [(0, 8, 11, 38)] ∈ GW := mw_of (i := 1369) (by decide +kernel) rfl
theorem mw_1264 : Cond.methodLink "EveningLedgerLaw" 121 yX5_errorPosition ∈ GW := mw_of (i := 1370) (by decide +kernel) rfl
theorem mw_1265 : Cond.instanceMethod yX5_errorPosition ∈ GW := mw_of (i := 1371) (by decide +kernel) rfl
theorem mw_1266 : Cond.selects "EveningLedger" yX5_errorPosition yX5_errorPosition ∈ GW := mw_of (i := 1372) (by decide +kernel) rfl
theorem mw_1267 : Cond.code yX5_errorPosition prog_1_method_32_code 1 (some .int) ∈ GW := mw_of (i := 1373) (by decide +kernel) rfl
theorem mw_1268 : Cond.methodLink "EveningLedgerLaw" 247 yL_reason ∈ GW := mw_of (i := 1374) (by decide +kernel) rfl
theorem mw_1269 : Cond.static yL_reason ∈ GW := mw_of (i := 1375) (by decide +kernel) rfl
theorem mw_1270 : Cond.codeWith yL_reason method_33_code 4 (some .int) [(0, 9, 12, 38)] ∈ GW := mw_of (i := 1376) (by decide +kernel) rfl
theorem mw_1271 : Cond.methodLink "EveningLedgerLaw" 124 yX5_reason ∈ GW := mw_of (i := 1377) (by decide +kernel) rfl
theorem mw_1272 : Cond.instanceMethod yX5_reason ∈ GW := mw_of (i := 1378) (by decide +kernel) rfl
theorem mw_1273 : Cond.selects "EveningLedger" yX5_reason yX5_reason ∈ GW := mw_of (i := 1379) (by decide +kernel) rfl
theorem mw_1274 : Cond.code yX5_reason prog_1_method_33_code 2 (some .int) ∈ GW := mw_of (i := 1380) (by decide +kernel) rfl
theorem mw_1275 : Cond.methodLink "EveningLedgerLaw" 251 yL_undo ∈ GW := mw_of (i := 1381) (by decide +kernel) rfl
theorem mw_1276 : Cond.static yL_undo ∈ GW := mw_of (i := 1382) (by decide +kernel) rfl
theorem mw_1277 : Cond.codeWith yL_undo method_34_code 3 (some .int) [(0, 8, 11, 38)] ∈ GW := mw_of (i := 1383) (by decide +kernel) rfl
theorem mw_1278 : Cond.methodLink "EveningLedgerLaw" 128 yX5_undo ∈ GW := mw_of (i := 1384) (by decide +kernel) rfl
theorem mw_1279 : Cond.instanceMethod yX5_undo ∈ GW := mw_of (i := 1385) (by decide +kernel) rfl
theorem mw_1280 : Cond.selects "EveningLedger" yX5_undo yX5_undo ∈ GW := mw_of (i := 1386) (by decide +kernel) rfl
theorem mw_1281 : Cond.code yX5_undo prog_1_method_34_code 1 (some .int) ∈ GW := mw_of (i := 1387) (by decide +kernel) rfl
theorem nw_1282 : Cond.methodLinkNest "EveningLedger" 311 yX1_giveBack "EveningLedger" ∈ NW := nw_of (i := 1388) (by decide +kernel) rfl
theorem mw_1284 : Cond.instanceMethod yX1_giveBack ∈ GW := mw_of (i := 1390) (by decide +kernel) rfl
theorem mw_1285 : Cond.code yX1_giveBack prog_3_method_3_code 3 none ∈ GW := mw_of (i := 1391) (by decide +kernel) rfl
theorem mw_1286 : Cond.methodLink "EveningLedgerLaw" 258 yL_restore ∈ GW := mw_of (i := 1392) (by decide +kernel) rfl
theorem mw_1287 : Cond.static yL_restore ∈ GW := mw_of (i := 1393) (by decide +kernel) rfl
theorem mw_1288 : Cond.codeWith yL_restore method_35_code 3 (some .int) [(0, 8, 11, 116)] ∈ GW := mw_of (i := 1394) (by decide +kernel) rfl
theorem mw_1289 : Cond.methodLink "EveningLedgerLaw" 131 yX5_restore ∈ GW := mw_of (i := 1395) (by decide +kernel) rfl
theorem mw_1290 : Cond.instanceMethod yX5_restore ∈ GW := mw_of (i := 1396) (by decide +kernel) rfl
theorem mw_1291 : Cond.selects "EveningLedger" yX5_restore yX5_restore ∈ GW := mw_of (i := 1397) (by decide +kernel) rfl
theorem mw_1292 : Cond.code yX5_restore prog_1_method_36_code 1 (some .int) ∈ GW := mw_of (i := 1398) (by decide +kernel) rfl
theorem mw_1293 : Cond.classLink "EveningLedgerLaw" 135 "EveningLedgerModel" ∈ GW := mw_of (i := 1399) (by decide +kernel) rfl
theorem mw_1294 : Cond.instantiable "EveningLedgerModel" 22 ∈ GW := mw_of (i := 1400) (by decide +kernel) rfl
theorem mw_1295 : Cond.methodLink "EveningLedgerLaw" 137 yX6_init ∈ GW := mw_of (i := 1401) (by decide +kernel) rfl
theorem mw_1296 : Cond.instanceMethod yX6_init ∈ GW := mw_of (i := 1402) (by decide +kernel) rfl
theorem mw_1297 : Cond.code yX6_init prog_8_method_1_code 2 none ∈ GW := mw_of (i := 1403) (by decide +kernel) rfl
theorem mw_1298 : Cond.methodLink "EveningLedgerModel" 3 Lib.objectInit ∈ GW := mw_of (i := 1404) (by decide +kernel) rfl
theorem mw_1299 : Cond.classLink "EveningLedgerModel" 19 "[[I" ∈ GW := mw_of (i := 1405) (by decide +kernel) rfl
theorem mw_1301 : Cond.methodLink "EveningLedgerModel" 35 yX6_at ∈ GW := mw_of (i := 1407) (by decide +kernel) rfl
theorem mw_1302 : Cond.static yX6_at ∈ GW := mw_of (i := 1408) (by decide +kernel) rfl
theorem mw_1303 : Cond.code yX6_at prog_8_method_9_code 2 (some .int) ∈ GW := mw_of (i := 1409) (by decide +kernel) rfl
theorem mw_1304 : Cond.fieldLink "EveningLedgerModel" 39 "EveningLedgerModel" "thrown" "I" ∈ GW := mw_of (i := 1410) (by decide +kernel) rfl
theorem mw_1305 : Cond.fieldLink "EveningLedgerModel" 9 "EveningLedgerModel" "now" "[I" ∈ GW := mw_of (i := 1411) (by decide +kernel) rfl
theorem mw_1306 : Cond.fieldLink "EveningLedgerModel" 13 "EveningLedgerModel" "saved" "[I" ∈ GW := mw_of (i := 1412) (by decide +kernel) rfl
theorem mw_1307 : Cond.fieldLink "EveningLedgerModel" 16 "EveningLedgerModel" "before" "[I" ∈ GW := mw_of (i := 1413) (by decide +kernel) rfl
theorem mw_1308 : Cond.fieldLink "EveningLedgerModel" 21 "EveningLedgerModel" "history" "[[I" ∈ GW := mw_of (i := 1414) (by decide +kernel) rfl
theorem mw_1309 : Cond.fieldLink "EveningLedgerModel" 48 "EveningLedgerModel" "kept" "I" ∈ GW := mw_of (i := 1415) (by decide +kernel) rfl
theorem mw_1310 : Cond.fieldLink "EveningLedgerModel" 42 "EveningLedgerModel" "reason" "I" ∈ GW := mw_of (i := 1416) (by decide +kernel) rfl
theorem mw_1311 : Cond.fieldLink "EveningLedgerModel" 45 "EveningLedgerModel" "detail" "I" ∈ GW := mw_of (i := 1417) (by decide +kernel) rfl
theorem mw_1312 : Cond.fieldLink "EveningLedgerModel" 256 "EveningLedgerModel" "isSaved" "Z" ∈ GW := mw_of (i := 1418) (by decide +kernel) rfl
theorem mw_1313 : Cond.fieldLink "EveningLedgerModel" 55 "EveningLedgerModel" "isInText" "Z" ∈ GW := mw_of (i := 1419) (by decide +kernel) rfl
theorem mw_1314 : Cond.fieldLink "EveningLedgerModel" 24 "EveningLedgerModel" "line" "[C" ∈ GW := mw_of (i := 1420) (by decide +kernel) rfl
theorem mw_1315 : Cond.fieldLink "EveningLedgerModel" 162 "EveningLedgerModel" "written" "I" ∈ GW := mw_of (i := 1421) (by decide +kernel) rfl
theorem mw_1316 : Cond.fieldLink "EveningLedgerModel" 28 "EveningLedgerModel" "input" "[C" ∈ GW := mw_of (i := 1422) (by decide +kernel) rfl
theorem mw_1317 : Cond.fieldLink "EveningLedgerModel" 181 "EveningLedgerModel" "length" "I" ∈ GW := mw_of (i := 1423) (by decide +kernel) rfl
theorem mw_1318 : Cond.fieldLink "EveningLedgerModel" 190 "EveningLedgerModel" "at" "I" ∈ GW := mw_of (i := 1424) (by decide +kernel) rfl
theorem mw_1319 : Cond.fieldLink "EveningLedgerModel" 31 "EveningLedgerModel" "error" "I" ∈ GW := mw_of (i := 1425) (by decide +kernel) rfl
theorem mw_1320 : Cond.fieldLink "EveningLedgerModel" 222 "EveningLedgerModel" "toldPage" "I" ∈ GW := mw_of (i := 1426) (by decide +kernel) rfl
theorem mw_1321 : Cond.fieldLink "EveningLedgerModel" 219 "EveningLedgerModel" "toldPlace" "I" ∈ GW := mw_of (i := 1427) (by decide +kernel) rfl
theorem mw_1322 : Cond.fieldLink "EveningLedgerModel" 203 "EveningLedgerModel" "toldPerson" "I" ∈ GW := mw_of (i := 1428) (by decide +kernel) rfl
theorem mw_1323 : Cond.fieldLink "EveningLedgerModel" 196 "EveningLedgerModel" "toldNumber" "I" ∈ GW := mw_of (i := 1429) (by decide +kernel) rfl
theorem mw_1324 : Cond.fieldLink "EveningLedgerModel" 212 "EveningLedgerModel" "sign" "C" ∈ GW := mw_of (i := 1430) (by decide +kernel) rfl
theorem mw_1325 : Cond.fieldLink "EveningLedgerModel" 187 "EveningLedgerModel" "isWrong" "Z" ∈ GW := mw_of (i := 1431) (by decide +kernel) rfl
theorem mw_1370 : Cond.superclass "EveningLedgerModel" "java/lang/Object" ∈ GW := mw_of (i := 1476) (by decide +kernel) rfl
theorem mw_1371 : Cond.methodLink "EveningLedgerLaw" 144 yX6_thrown ∈ GW := mw_of (i := 1477) (by decide +kernel) rfl
theorem mw_1372 : Cond.instanceMethod yX6_thrown ∈ GW := mw_of (i := 1478) (by decide +kernel) rfl
theorem mw_1373 : Cond.selects "EveningLedgerModel" yX6_thrown yX6_thrown ∈ GW := mw_of (i := 1479) (by decide +kernel) rfl
theorem mw_1374 : Cond.code yX6_thrown prog_8_method_2_code 1 (some .int) ∈ GW := mw_of (i := 1480) (by decide +kernel) rfl
theorem mw_1375 : Cond.methodLink "EveningLedgerLaw" 143 yX6_write ∈ GW := mw_of (i := 1481) (by decide +kernel) rfl
theorem mw_1376 : Cond.instanceMethod yX6_write ∈ GW := mw_of (i := 1482) (by decide +kernel) rfl
theorem mw_1377 : Cond.selects "EveningLedgerModel" yX6_write yX6_write ∈ GW := mw_of (i := 1483) (by decide +kernel) rfl
theorem mw_1378 : Cond.code yX6_write prog_8_method_22_code 5 (some .int) ∈ GW := mw_of (i := 1484) (by decide +kernel) rfl
theorem mw_1379 : Cond.methodLink "EveningLedgerModel" 80 yX6_isPage ∈ GW := mw_of (i := 1485) (by decide +kernel) rfl
theorem mw_1380 : Cond.static yX6_isPage ∈ GW := mw_of (i := 1486) (by decide +kernel) rfl
theorem mw_1381 : Cond.code yX6_isPage prog_8_method_15_code 1 (some .boolean) ∈ GW := mw_of (i := 1487) (by decide +kernel) rfl
theorem mw_1382 : Cond.methodLink "EveningLedgerModel" 63 yX6_isBetween ∈ GW := mw_of (i := 1488) (by decide +kernel) rfl
theorem mw_1383 : Cond.static yX6_isBetween ∈ GW := mw_of (i := 1489) (by decide +kernel) rfl
theorem mw_1384 : Cond.code yX6_isBetween prog_8_method_3_code 3 (some .boolean) ∈ GW := mw_of (i := 1490) (by decide +kernel) rfl
theorem mw_1385 : Cond.methodLink "EveningLedgerModel" 84 yX6_isPlace ∈ GW := mw_of (i := 1491) (by decide +kernel) rfl
theorem mw_1386 : Cond.static yX6_isPlace ∈ GW := mw_of (i := 1492) (by decide +kernel) rfl
theorem mw_1387 : Cond.code yX6_isPlace prog_8_method_16_code 1 (some .boolean) ∈ GW := mw_of (i := 1493) (by decide +kernel) rfl
theorem mw_1388 : Cond.methodLink "EveningLedgerModel" 87 yX6_fails ∈ GW := mw_of (i := 1494) (by decide +kernel) rfl
theorem mw_1390 : Cond.instanceMethod yX6_fails ∈ GW := mw_of (i := 1496) (by decide +kernel) rfl
theorem mw_1391 : Cond.code yX6_fails prog_8_method_5_code 3 (some .boolean) ∈ GW := mw_of (i := 1497) (by decide +kernel) rfl
theorem mw_1392 : Cond.methodLink "EveningLedgerModel" 91 yX6_isPerson ∈ GW := mw_of (i := 1498) (by decide +kernel) rfl
theorem mw_1393 : Cond.static yX6_isPerson ∈ GW := mw_of (i := 1499) (by decide +kernel) rfl
theorem mw_1394 : Cond.code yX6_isPerson prog_8_method_17_code 1 (some .boolean) ∈ GW := mw_of (i := 1500) (by decide +kernel) rfl
theorem mw_1395 : Cond.methodLink "EveningLedgerModel" 95 yX6_isDebt ∈ GW := mw_of (i := 1501) (by decide +kernel) rfl
theorem mw_1396 : Cond.static yX6_isDebt ∈ GW := mw_of (i := 1502) (by decide +kernel) rfl
theorem mw_1397 : Cond.code yX6_isDebt prog_8_method_18_code 1 (some .boolean) ∈ GW := mw_of (i := 1503) (by decide +kernel) rfl
theorem mw_1398 : Cond.methodLink "EveningLedgerModel" 67 yX6_debt ∈ GW := mw_of (i := 1504) (by decide +kernel) rfl
theorem mw_1400 : Cond.instanceMethod yX6_debt ∈ GW := mw_of (i := 1506) (by decide +kernel) rfl
theorem mw_1401 : Cond.code yX6_debt prog_8_method_12_code 4 (some .int) ∈ GW := mw_of (i := 1507) (by decide +kernel) rfl
theorem mw_1402 : Cond.methodLink "EveningLedgerModel" 98 yX6_refuse ∈ GW := mw_of (i := 1508) (by decide +kernel) rfl
theorem mw_1404 : Cond.instanceMethod yX6_refuse ∈ GW := mw_of (i := 1510) (by decide +kernel) rfl
theorem mw_1405 : Cond.code yX6_refuse prog_8_method_6_code 4 (some .boolean) ∈ GW := mw_of (i := 1511) (by decide +kernel) rfl
theorem mw_1406 : Cond.methodLink "EveningLedgerModel" 102 yX6_changePage ∈ GW := mw_of (i := 1512) (by decide +kernel) rfl
theorem mw_1408 : Cond.instanceMethod yX6_changePage ∈ GW := mw_of (i := 1514) (by decide +kernel) rfl
theorem mw_1409 : Cond.code yX6_changePage prog_8_method_21_code 2 none ∈ GW := mw_of (i := 1515) (by decide +kernel) rfl
theorem mw_1410 : Cond.methodLink "EveningLedgerModel" 74 yX6_change ∈ GW := mw_of (i := 1516) (by decide +kernel) rfl
theorem mw_1412 : Cond.instanceMethod yX6_change ∈ GW := mw_of (i := 1518) (by decide +kernel) rfl
theorem mw_1413 : Cond.code yX6_change prog_8_method_8_code 1 none ∈ GW := mw_of (i := 1519) (by decide +kernel) rfl
theorem mw_1414 : Cond.methodLink "EveningLedgerModel" 59 yX6_remember ∈ GW := mw_of (i := 1520) (by decide +kernel) rfl
theorem mw_1416 : Cond.instanceMethod yX6_remember ∈ GW := mw_of (i := 1522) (by decide +kernel) rfl
theorem mw_1417 : Cond.code yX6_remember prog_8_method_7_code 3 none ∈ GW := mw_of (i := 1523) (by decide +kernel) rfl
theorem mw_1418 : Cond.methodLink "EveningLedgerModel" 51 yX6_copyRow ∈ GW := mw_of (i := 1524) (by decide +kernel) rfl
theorem mw_1419 : Cond.static yX6_copyRow ∈ GW := mw_of (i := 1525) (by decide +kernel) rfl
theorem mw_1420 : Cond.code yX6_copyRow prog_8_method_4_code 3 none ∈ GW := mw_of (i := 1526) (by decide +kernel) rfl
theorem mw_1421 : Cond.methodLink "EveningLedgerModel" 71 yX6_sheet ∈ GW := mw_of (i := 1527) (by decide +kernel) rfl
theorem mw_1423 : Cond.instanceMethod yX6_sheet ∈ GW := mw_of (i := 1529) (by decide +kernel) rfl
theorem mw_1424 : Cond.code yX6_sheet prog_8_method_10_code 3 (some .int) ∈ GW := mw_of (i := 1530) (by decide +kernel) rfl
theorem mw_1425 : Cond.methodLink "EveningLedgerModel" 77 yX6_sharing ∈ GW := mw_of (i := 1531) (by decide +kernel) rfl
theorem mw_1427 : Cond.instanceMethod yX6_sharing ∈ GW := mw_of (i := 1533) (by decide +kernel) rfl
theorem mw_1428 : Cond.code yX6_sharing prog_8_method_20_code 5 (some .int) ∈ GW := mw_of (i := 1534) (by decide +kernel) rfl
theorem mw_1429 : Cond.methodLink "EveningLedgerModel" 106 yX6_put ∈ GW := mw_of (i := 1535) (by decide +kernel) rfl
theorem mw_1431 : Cond.instanceMethod yX6_put ∈ GW := mw_of (i := 1537) (by decide +kernel) rfl
theorem mw_1432 : Cond.code yX6_put prog_8_method_13_code 5 none ∈ GW := mw_of (i := 1538) (by decide +kernel) rfl
theorem mw_1433 : Cond.methodLink "EveningLedgerModel" 110 yX6_entries ∈ GW := mw_of (i := 1539) (by decide +kernel) rfl
theorem mw_1435 : Cond.instanceMethod yX6_entries ∈ GW := mw_of (i := 1541) (by decide +kernel) rfl
theorem mw_1436 : Cond.code yX6_entries prog_8_method_19_code 5 (some .int) ∈ GW := mw_of (i := 1542) (by decide +kernel) rfl
theorem mw_1437 : Cond.methodLink "EveningLedgerLaw" 150 yX6_add ∈ GW := mw_of (i := 1543) (by decide +kernel) rfl
theorem mw_1438 : Cond.instanceMethod yX6_add ∈ GW := mw_of (i := 1544) (by decide +kernel) rfl
theorem mw_1439 : Cond.selects "EveningLedgerModel" yX6_add yX6_add ∈ GW := mw_of (i := 1545) (by decide +kernel) rfl
theorem mw_1440 : Cond.code yX6_add prog_8_method_23_code 5 (some .int) ∈ GW := mw_of (i := 1546) (by decide +kernel) rfl
theorem mw_1441 : Cond.methodLink "EveningLedgerLaw" 154 yX6_owe ∈ GW := mw_of (i := 1547) (by decide +kernel) rfl
theorem mw_1442 : Cond.instanceMethod yX6_owe ∈ GW := mw_of (i := 1548) (by decide +kernel) rfl
theorem mw_1443 : Cond.selects "EveningLedgerModel" yX6_owe yX6_owe ∈ GW := mw_of (i := 1549) (by decide +kernel) rfl
theorem mw_1444 : Cond.code yX6_owe prog_8_method_26_code 5 (some .int) ∈ GW := mw_of (i := 1550) (by decide +kernel) rfl
theorem mw_1445 : Cond.methodLink "EveningLedgerModel" 113 yX6_isEmpty ∈ GW := mw_of (i := 1551) (by decide +kernel) rfl
theorem mw_1447 : Cond.instanceMethod yX6_isEmpty ∈ GW := mw_of (i := 1553) (by decide +kernel) rfl
theorem mw_1448 : Cond.code yX6_isEmpty prog_8_method_24_code 3 (some .boolean) ∈ GW := mw_of (i := 1554) (by decide +kernel) rfl
theorem mw_1449 : Cond.methodLink "EveningLedgerModel" 117 yX6_beyond ∈ GW := mw_of (i := 1555) (by decide +kernel) rfl
theorem mw_1450 : Cond.static yX6_beyond ∈ GW := mw_of (i := 1556) (by decide +kernel) rfl
theorem mw_1451 : Cond.code yX6_beyond prog_8_method_25_code 1 (some .int) ∈ GW := mw_of (i := 1557) (by decide +kernel) rfl
theorem mw_1452 : Cond.methodLink "EveningLedgerModel" 121 yX6_person ∈ GW := mw_of (i := 1558) (by decide +kernel) rfl
theorem mw_1454 : Cond.instanceMethod yX6_person ∈ GW := mw_of (i := 1560) (by decide +kernel) rfl
theorem mw_1455 : Cond.code yX6_person prog_8_method_11_code 4 (some .int) ∈ GW := mw_of (i := 1561) (by decide +kernel) rfl
theorem mw_1456 : Cond.methodLink "EveningLedgerLaw" 158 yX6_strike ∈ GW := mw_of (i := 1562) (by decide +kernel) rfl
theorem mw_1457 : Cond.instanceMethod yX6_strike ∈ GW := mw_of (i := 1563) (by decide +kernel) rfl
theorem mw_1458 : Cond.selects "EveningLedgerModel" yX6_strike yX6_strike ∈ GW := mw_of (i := 1564) (by decide +kernel) rfl
theorem mw_1459 : Cond.code yX6_strike prog_8_method_27_code 4 (some .int) ∈ GW := mw_of (i := 1565) (by decide +kernel) rfl
theorem mw_1460 : Cond.methodLink "EveningLedgerLaw" 161 yX6_swap ∈ GW := mw_of (i := 1566) (by decide +kernel) rfl
theorem mw_1461 : Cond.instanceMethod yX6_swap ∈ GW := mw_of (i := 1567) (by decide +kernel) rfl
theorem mw_1462 : Cond.selects "EveningLedgerModel" yX6_swap yX6_swap ∈ GW := mw_of (i := 1568) (by decide +kernel) rfl
theorem mw_1463 : Cond.code yX6_swap prog_8_method_28_code 6 (some .int) ∈ GW := mw_of (i := 1569) (by decide +kernel) rfl
theorem mw_1464 : Cond.methodLink "EveningLedgerLaw" 174 yX6_evening ∈ GW := mw_of (i := 1570) (by decide +kernel) rfl
theorem mw_1465 : Cond.instanceMethod yX6_evening ∈ GW := mw_of (i := 1571) (by decide +kernel) rfl
theorem mw_1466 : Cond.selects "EveningLedgerModel" yX6_evening yX6_evening ∈ GW := mw_of (i := 1572) (by decide +kernel) rfl
theorem mw_1467 : Cond.code yX6_evening prog_8_method_31_code 2 (some .int) ∈ GW := mw_of (i := 1573) (by decide +kernel) rfl
theorem mw_1468 : Cond.methodLink "EveningLedgerModel" 124 yX6_latest ∈ GW := mw_of (i := 1574) (by decide +kernel) rfl
theorem mw_1470 : Cond.instanceMethod yX6_latest ∈ GW := mw_of (i := 1576) (by decide +kernel) rfl
theorem mw_1471 : Cond.code yX6_latest prog_8_method_30_code 1 (some .int) ∈ GW := mw_of (i := 1577) (by decide +kernel) rfl
theorem mw_1472 : Cond.methodLink "EveningLedgerModel" 128 yX6_copySlot ∈ GW := mw_of (i := 1578) (by decide +kernel) rfl
theorem mw_1474 : Cond.instanceMethod yX6_copySlot ∈ GW := mw_of (i := 1580) (by decide +kernel) rfl
theorem mw_1475 : Cond.code yX6_copySlot prog_8_method_29_code 4 none ∈ GW := mw_of (i := 1581) (by decide +kernel) rfl
theorem mw_1476 : Cond.methodLink "EveningLedgerLaw" 177 yX6_takeOver ∈ GW := mw_of (i := 1582) (by decide +kernel) rfl
theorem mw_1477 : Cond.instanceMethod yX6_takeOver ∈ GW := mw_of (i := 1583) (by decide +kernel) rfl
theorem mw_1478 : Cond.selects "EveningLedgerModel" yX6_takeOver yX6_takeOver ∈ GW := mw_of (i := 1584) (by decide +kernel) rfl
theorem mw_1479 : Cond.code yX6_takeOver prog_8_method_32_code 5 (some .int) ∈ GW := mw_of (i := 1585) (by decide +kernel) rfl
theorem mw_1480 : Cond.methodLink "EveningLedgerModel" 132 yX6_slot ∈ GW := mw_of (i := 1586) (by decide +kernel) rfl
theorem mw_1482 : Cond.instanceMethod yX6_slot ∈ GW := mw_of (i := 1588) (by decide +kernel) rfl
theorem mw_1483 : Cond.code yX6_slot prog_8_method_14_code 3 (some .int) ∈ GW := mw_of (i := 1589) (by decide +kernel) rfl
theorem mw_1484 : Cond.methodLink "EveningLedgerLaw" 181 yX6_forget ∈ GW := mw_of (i := 1590) (by decide +kernel) rfl
theorem mw_1485 : Cond.instanceMethod yX6_forget ∈ GW := mw_of (i := 1591) (by decide +kernel) rfl
theorem mw_1486 : Cond.selects "EveningLedgerModel" yX6_forget yX6_forget ∈ GW := mw_of (i := 1592) (by decide +kernel) rfl
theorem mw_1487 : Cond.code yX6_forget prog_8_method_34_code 5 (some .int) ∈ GW := mw_of (i := 1593) (by decide +kernel) rfl
theorem mw_1488 : Cond.methodLink "EveningLedgerModel" 135 yX6_sheets ∈ GW := mw_of (i := 1594) (by decide +kernel) rfl
theorem mw_1490 : Cond.instanceMethod yX6_sheets ∈ GW := mw_of (i := 1596) (by decide +kernel) rfl
theorem mw_1491 : Cond.code yX6_sheets prog_8_method_33_code 6 (some .int) ∈ GW := mw_of (i := 1597) (by decide +kernel) rfl
theorem mw_1492 : Cond.methodLink "EveningLedgerLaw" 184 yX6_keptAt ∈ GW := mw_of (i := 1598) (by decide +kernel) rfl
theorem mw_1493 : Cond.instanceMethod yX6_keptAt ∈ GW := mw_of (i := 1599) (by decide +kernel) rfl
theorem mw_1494 : Cond.selects "EveningLedgerModel" yX6_keptAt yX6_keptAt ∈ GW := mw_of (i := 1600) (by decide +kernel) rfl
theorem mw_1495 : Cond.code yX6_keptAt prog_8_method_35_code 2 (some .int) ∈ GW := mw_of (i := 1601) (by decide +kernel) rfl
theorem mw_1496 : Cond.methodLink "EveningLedgerLaw" 164 yX6_personAt ∈ GW := mw_of (i := 1602) (by decide +kernel) rfl
theorem mw_1497 : Cond.instanceMethod yX6_personAt ∈ GW := mw_of (i := 1603) (by decide +kernel) rfl
theorem mw_1498 : Cond.selects "EveningLedgerModel" yX6_personAt yX6_personAt ∈ GW := mw_of (i := 1604) (by decide +kernel) rfl
theorem mw_1499 : Cond.code yX6_personAt prog_8_method_36_code 5 (some .char) ∈ GW := mw_of (i := 1605) (by decide +kernel) rfl
theorem mw_1500 : Cond.methodLink "EveningLedgerLaw" 167 yX6_debtAt ∈ GW := mw_of (i := 1606) (by decide +kernel) rfl
theorem mw_1501 : Cond.instanceMethod yX6_debtAt ∈ GW := mw_of (i := 1607) (by decide +kernel) rfl
theorem mw_1502 : Cond.selects "EveningLedgerModel" yX6_debtAt yX6_debtAt ∈ GW := mw_of (i := 1608) (by decide +kernel) rfl
theorem mw_1503 : Cond.code yX6_debtAt prog_8_method_37_code 5 (some .int) ∈ GW := mw_of (i := 1609) (by decide +kernel) rfl
theorem mw_1504 : Cond.methodLink "EveningLedgerLaw" 170 yX6_pageOf ∈ GW := mw_of (i := 1610) (by decide +kernel) rfl
theorem mw_1505 : Cond.instanceMethod yX6_pageOf ∈ GW := mw_of (i := 1611) (by decide +kernel) rfl
theorem mw_1506 : Cond.selects "EveningLedgerModel" yX6_pageOf yX6_pageOf ∈ GW := mw_of (i := 1612) (by decide +kernel) rfl
theorem mw_1507 : Cond.code yX6_pageOf prog_8_method_41_code 5 (some .int) ∈ GW := mw_of (i := 1613) (by decide +kernel) rfl
theorem mw_1508 : Cond.methodLink "EveningLedgerModel" 141 yX6_sumOf ∈ GW := mw_of (i := 1614) (by decide +kernel) rfl
theorem mw_1510 : Cond.instanceMethod yX6_sumOf ∈ GW := mw_of (i := 1616) (by decide +kernel) rfl
theorem mw_1511 : Cond.code yX6_sumOf prog_8_method_38_code 5 (some .int) ∈ GW := mw_of (i := 1617) (by decide +kernel) rfl
theorem mw_1512 : Cond.methodLink "EveningLedgerModel" 144 yX6_people ∈ GW := mw_of (i := 1618) (by decide +kernel) rfl
theorem mw_1514 : Cond.instanceMethod yX6_people ∈ GW := mw_of (i := 1620) (by decide +kernel) rfl
theorem mw_1515 : Cond.code yX6_people prog_8_method_40_code 5 (some .int) ∈ GW := mw_of (i := 1621) (by decide +kernel) rfl
theorem mw_1516 : Cond.methodLink "EveningLedgerModel" 138 yX6_isOn ∈ GW := mw_of (i := 1622) (by decide +kernel) rfl
theorem mw_1518 : Cond.instanceMethod yX6_isOn ∈ GW := mw_of (i := 1624) (by decide +kernel) rfl
theorem mw_1519 : Cond.code yX6_isOn prog_8_method_39_code 6 (some .boolean) ∈ GW := mw_of (i := 1625) (by decide +kernel) rfl
theorem mw_1520 : Cond.methodLink "EveningLedgerLaw" 187 yX6_sheetsApart ∈ GW := mw_of (i := 1626) (by decide +kernel) rfl
theorem mw_1521 : Cond.instanceMethod yX6_sheetsApart ∈ GW := mw_of (i := 1627) (by decide +kernel) rfl
theorem mw_1522 : Cond.selects "EveningLedgerModel" yX6_sheetsApart yX6_sheetsApart ∈ GW := mw_of (i := 1628) (by decide +kernel) rfl
theorem mw_1523 : Cond.code yX6_sheetsApart prog_8_method_43_code 7 (some .int) ∈ GW := mw_of (i := 1629) (by decide +kernel) rfl
theorem mw_1524 : Cond.methodLink "EveningLedgerLaw" 190 yX6_placesApart ∈ GW := mw_of (i := 1630) (by decide +kernel) rfl
theorem mw_1525 : Cond.instanceMethod yX6_placesApart ∈ GW := mw_of (i := 1631) (by decide +kernel) rfl
theorem mw_1526 : Cond.selects "EveningLedgerModel" yX6_placesApart yX6_placesApart ∈ GW := mw_of (i := 1632) (by decide +kernel) rfl
theorem mw_1527 : Cond.code yX6_placesApart prog_8_method_44_code 7 (some .int) ∈ GW := mw_of (i := 1633) (by decide +kernel) rfl
theorem mw_1528 : Cond.methodLink "EveningLedgerModel" 147 yX6_unlike ∈ GW := mw_of (i := 1634) (by decide +kernel) rfl
theorem mw_1530 : Cond.instanceMethod yX6_unlike ∈ GW := mw_of (i := 1636) (by decide +kernel) rfl
theorem mw_1531 : Cond.code yX6_unlike prog_8_method_42_code 7 (some .int) ∈ GW := mw_of (i := 1637) (by decide +kernel) rfl
theorem mw_1532 : Cond.methodLink "EveningLedgerLaw" 193 yX6_isLike ∈ GW := mw_of (i := 1638) (by decide +kernel) rfl
theorem mw_1533 : Cond.instanceMethod yX6_isLike ∈ GW := mw_of (i := 1639) (by decide +kernel) rfl
theorem mw_1534 : Cond.selects "EveningLedgerModel" yX6_isLike yX6_isLike ∈ GW := mw_of (i := 1640) (by decide +kernel) rfl
theorem mw_1535 : Cond.code yX6_isLike prog_8_method_45_code 6 (some .boolean) ∈ GW := mw_of (i := 1641) (by decide +kernel) rfl
theorem mw_1536 : Cond.methodLink "EveningLedgerLaw" 197 yX6_debt_ ∈ GW := mw_of (i := 1642) (by decide +kernel) rfl
theorem mw_1537 : Cond.instanceMethod yX6_debt_ ∈ GW := mw_of (i := 1643) (by decide +kernel) rfl
theorem mw_1538 : Cond.selects "EveningLedgerModel" yX6_debt_ yX6_debt_ ∈ GW := mw_of (i := 1644) (by decide +kernel) rfl
theorem mw_1539 : Cond.code yX6_debt_ prog_8_method_48_code 4 (some .int) ∈ GW := mw_of (i := 1645) (by decide +kernel) rfl
theorem mw_1540 : Cond.methodLink "EveningLedgerModel" 150 yX6_debtOf ∈ GW := mw_of (i := 1646) (by decide +kernel) rfl
theorem mw_1542 : Cond.instanceMethod yX6_debtOf ∈ GW := mw_of (i := 1648) (by decide +kernel) rfl
theorem mw_1543 : Cond.code yX6_debtOf prog_8_method_46_code 6 (some .int) ∈ GW := mw_of (i := 1649) (by decide +kernel) rfl
theorem mw_1544 : Cond.methodLink "EveningLedgerLaw" 200 yX6_debtAgain ∈ GW := mw_of (i := 1650) (by decide +kernel) rfl
theorem mw_1545 : Cond.instanceMethod yX6_debtAgain ∈ GW := mw_of (i := 1651) (by decide +kernel) rfl
theorem mw_1546 : Cond.selects "EveningLedgerModel" yX6_debtAgain yX6_debtAgain ∈ GW := mw_of (i := 1652) (by decide +kernel) rfl
theorem mw_1547 : Cond.code yX6_debtAgain prog_8_method_49_code 3 (some .int) ∈ GW := mw_of (i := 1653) (by decide +kernel) rfl
theorem mw_1548 : Cond.methodLink "EveningLedgerModel" 153 yX6_debt_ ∈ GW := mw_of (i := 1654) (by decide +kernel) rfl
theorem mw_1549 : Cond.methodLink "EveningLedgerLaw" 204 yX6_greatestOn ∈ GW := mw_of (i := 1655) (by decide +kernel) rfl
theorem mw_1550 : Cond.instanceMethod yX6_greatestOn ∈ GW := mw_of (i := 1656) (by decide +kernel) rfl
theorem mw_1551 : Cond.selects "EveningLedgerModel" yX6_greatestOn yX6_greatestOn ∈ GW := mw_of (i := 1657) (by decide +kernel) rfl
theorem mw_1552 : Cond.code yX6_greatestOn prog_8_method_50_code 4 (some .int) ∈ GW := mw_of (i := 1658) (by decide +kernel) rfl
theorem mw_1553 : Cond.methodLink "EveningLedgerLaw" 207 yX6_without ∈ GW := mw_of (i := 1659) (by decide +kernel) rfl
theorem mw_1554 : Cond.instanceMethod yX6_without ∈ GW := mw_of (i := 1660) (by decide +kernel) rfl
theorem mw_1555 : Cond.selects "EveningLedgerModel" yX6_without yX6_without ∈ GW := mw_of (i := 1661) (by decide +kernel) rfl
theorem mw_1556 : Cond.code yX6_without prog_8_method_51_code 3 (some .int) ∈ GW := mw_of (i := 1662) (by decide +kernel) rfl
theorem mw_1557 : Cond.methodLink "EveningLedgerModel" 156 yX6_hasEntry ∈ GW := mw_of (i := 1663) (by decide +kernel) rfl
theorem mw_1559 : Cond.instanceMethod yX6_hasEntry ∈ GW := mw_of (i := 1665) (by decide +kernel) rfl
theorem mw_1560 : Cond.code yX6_hasEntry prog_8_method_47_code 5 (some .boolean) ∈ GW := mw_of (i := 1666) (by decide +kernel) rfl
theorem mw_1561 : Cond.methodLink "EveningLedgerLaw" 210 yX6_owing ∈ GW := mw_of (i := 1667) (by decide +kernel) rfl
theorem mw_1562 : Cond.instanceMethod yX6_owing ∈ GW := mw_of (i := 1668) (by decide +kernel) rfl
theorem mw_1563 : Cond.selects "EveningLedgerModel" yX6_owing yX6_owing ∈ GW := mw_of (i := 1669) (by decide +kernel) rfl
theorem mw_1564 : Cond.code yX6_owing prog_8_method_52_code 8 (some .char) ∈ GW := mw_of (i := 1670) (by decide +kernel) rfl
theorem mw_1565 : Cond.methodLink "EveningLedgerLaw" 213 yX6_greatest ∈ GW := mw_of (i := 1671) (by decide +kernel) rfl
theorem mw_1566 : Cond.instanceMethod yX6_greatest ∈ GW := mw_of (i := 1672) (by decide +kernel) rfl
theorem mw_1567 : Cond.selects "EveningLedgerModel" yX6_greatest yX6_greatest ∈ GW := mw_of (i := 1673) (by decide +kernel) rfl
theorem mw_1568 : Cond.code yX6_greatest prog_8_method_54_code 9 (some .int) ∈ GW := mw_of (i := 1674) (by decide +kernel) rfl
theorem mw_1569 : Cond.methodLink "EveningLedgerModel" 159 yX6_debtByNumber ∈ GW := mw_of (i := 1675) (by decide +kernel) rfl
theorem mw_1571 : Cond.instanceMethod yX6_debtByNumber ∈ GW := mw_of (i := 1677) (by decide +kernel) rfl
theorem mw_1572 : Cond.code yX6_debtByNumber prog_8_method_53_code 3 (some .int) ∈ GW := mw_of (i := 1678) (by decide +kernel) rfl
theorem mw_1573 : Cond.methodLink "EveningLedgerLaw" 216 yX6_find ∈ GW := mw_of (i := 1679) (by decide +kernel) rfl
theorem mw_1574 : Cond.instanceMethod yX6_find ∈ GW := mw_of (i := 1680) (by decide +kernel) rfl
theorem mw_1575 : Cond.selects "EveningLedgerModel" yX6_find yX6_find ∈ GW := mw_of (i := 1681) (by decide +kernel) rfl
theorem mw_1576 : Cond.code yX6_find prog_8_method_55_code 5 (some .int) ∈ GW := mw_of (i := 1682) (by decide +kernel) rfl
theorem mw_1577 : Cond.methodLink "EveningLedgerLaw" 219 yX6_tell ∈ GW := mw_of (i := 1683) (by decide +kernel) rfl
theorem mw_1578 : Cond.instanceMethod yX6_tell ∈ GW := mw_of (i := 1684) (by decide +kernel) rfl
theorem mw_1579 : Cond.selects "EveningLedgerModel" yX6_tell yX6_tell ∈ GW := mw_of (i := 1685) (by decide +kernel) rfl
theorem mw_1580 : Cond.code yX6_tell prog_8_method_58_code 5 (some .int) ∈ GW := mw_of (i := 1686) (by decide +kernel) rfl
theorem mw_1581 : Cond.methodLink "EveningLedgerModel" 165 yX6_write_ ∈ GW := mw_of (i := 1687) (by decide +kernel) rfl
theorem mw_1583 : Cond.instanceMethod yX6_write_ ∈ GW := mw_of (i := 1689) (by decide +kernel) rfl
theorem mw_1584 : Cond.code yX6_write_ prog_8_method_56_code 2 none ∈ GW := mw_of (i := 1690) (by decide +kernel) rfl
theorem mw_1585 : Cond.methodLink "EveningLedgerModel" 169 yX6_writeNumber ∈ GW := mw_of (i := 1691) (by decide +kernel) rfl
theorem mw_1587 : Cond.instanceMethod yX6_writeNumber ∈ GW := mw_of (i := 1693) (by decide +kernel) rfl
theorem mw_1588 : Cond.code yX6_writeNumber prog_8_method_57_code 3 none ∈ GW := mw_of (i := 1694) (by decide +kernel) rfl
theorem mw_1589 : Cond.methodLink "EveningLedgerLaw" 222 yX6_show ∈ GW := mw_of (i := 1695) (by decide +kernel) rfl
theorem mw_1590 : Cond.instanceMethod yX6_show ∈ GW := mw_of (i := 1696) (by decide +kernel) rfl
theorem mw_1591 : Cond.selects "EveningLedgerModel" yX6_show yX6_show ∈ GW := mw_of (i := 1697) (by decide +kernel) rfl
theorem mw_1592 : Cond.code yX6_show prog_8_method_60_code 4 (some .int) ∈ GW := mw_of (i := 1698) (by decide +kernel) rfl
theorem mw_1593 : Cond.methodLink "EveningLedgerModel" 172 yX6_isOlder ∈ GW := mw_of (i := 1699) (by decide +kernel) rfl
theorem mw_1595 : Cond.instanceMethod yX6_isOlder ∈ GW := mw_of (i := 1701) (by decide +kernel) rfl
theorem mw_1596 : Cond.code yX6_isOlder prog_8_method_59_code 5 (some .boolean) ∈ GW := mw_of (i := 1702) (by decide +kernel) rfl
theorem mw_1597 : Cond.methodLink "EveningLedgerLaw" 225 yX6_character ∈ GW := mw_of (i := 1703) (by decide +kernel) rfl
theorem mw_1598 : Cond.instanceMethod yX6_character ∈ GW := mw_of (i := 1704) (by decide +kernel) rfl
theorem mw_1599 : Cond.selects "EveningLedgerModel" yX6_character yX6_character ∈ GW := mw_of (i := 1705) (by decide +kernel) rfl
theorem mw_1600 : Cond.code yX6_character prog_8_method_61_code 2 (some .char) ∈ GW := mw_of (i := 1706) (by decide +kernel) rfl
theorem mw_1601 : Cond.methodLink "EveningLedgerLaw" 229 yX6_meanDebt ∈ GW := mw_of (i := 1707) (by decide +kernel) rfl
theorem mw_1602 : Cond.instanceMethod yX6_meanDebt ∈ GW := mw_of (i := 1708) (by decide +kernel) rfl
theorem mw_1603 : Cond.selects "EveningLedgerModel" yX6_meanDebt yX6_meanDebt ∈ GW := mw_of (i := 1709) (by decide +kernel) rfl
theorem mw_1604 : Cond.code yX6_meanDebt prog_8_method_64_code 3 (some .double) ∈ GW := mw_of (i := 1710) (by decide +kernel) rfl
theorem mw_1605 : Cond.methodLink "EveningLedgerModel" 175 yX6_allEntries ∈ GW := mw_of (i := 1711) (by decide +kernel) rfl
theorem mw_1607 : Cond.instanceMethod yX6_allEntries ∈ GW := mw_of (i := 1713) (by decide +kernel) rfl
theorem mw_1608 : Cond.code yX6_allEntries prog_8_method_62_code 4 (some .int) ∈ GW := mw_of (i := 1714) (by decide +kernel) rfl
theorem mw_1609 : Cond.methodLink "EveningLedgerModel" 178 yX6_allDebts ∈ GW := mw_of (i := 1715) (by decide +kernel) rfl
theorem mw_1611 : Cond.instanceMethod yX6_allDebts ∈ GW := mw_of (i := 1717) (by decide +kernel) rfl
theorem mw_1612 : Cond.code yX6_allDebts prog_8_method_63_code 4 (some .int) ∈ GW := mw_of (i := 1718) (by decide +kernel) rfl
theorem mw_1613 : Cond.methodLink "EveningLedgerLaw" 234 yX6_aloneShare ∈ GW := mw_of (i := 1719) (by decide +kernel) rfl
theorem mw_1614 : Cond.instanceMethod yX6_aloneShare ∈ GW := mw_of (i := 1720) (by decide +kernel) rfl
theorem mw_1615 : Cond.selects "EveningLedgerModel" yX6_aloneShare yX6_aloneShare ∈ GW := mw_of (i := 1721) (by decide +kernel) rfl
theorem mw_1616 : Cond.code yX6_aloneShare prog_8_method_65_code 5 (some .float) ∈ GW := mw_of (i := 1722) (by decide +kernel) rfl
theorem mw_1617 : Cond.methodLink "EveningLedgerLaw" 237 yX6_account ∈ GW := mw_of (i := 1723) (by decide +kernel) rfl
theorem mw_1618 : Cond.instanceMethod yX6_account ∈ GW := mw_of (i := 1724) (by decide +kernel) rfl
theorem mw_1619 : Cond.selects "EveningLedgerModel" yX6_account yX6_account ∈ GW := mw_of (i := 1725) (by decide +kernel) rfl
theorem mw_1620 : Cond.code yX6_account prog_8_method_67_code 2 (some .int) ∈ GW := mw_of (i := 1726) (by decide +kernel) rfl
theorem mw_1621 : Cond.methodLink "EveningLedgerModel" 184 yX6_otherAccount ∈ GW := mw_of (i := 1727) (by decide +kernel) rfl
theorem mw_1623 : Cond.instanceMethod yX6_otherAccount ∈ GW := mw_of (i := 1729) (by decide +kernel) rfl
theorem mw_1624 : Cond.code yX6_otherAccount prog_8_method_66_code 2 (some .int) ∈ GW := mw_of (i := 1730) (by decide +kernel) rfl
theorem mw_1625 : Cond.methodLink "EveningLedgerLaw" 240 yX6_append ∈ GW := mw_of (i := 1731) (by decide +kernel) rfl
theorem mw_1626 : Cond.instanceMethod yX6_append ∈ GW := mw_of (i := 1732) (by decide +kernel) rfl
theorem mw_1627 : Cond.selects "EveningLedgerModel" yX6_append yX6_append ∈ GW := mw_of (i := 1733) (by decide +kernel) rfl
theorem mw_1628 : Cond.code yX6_append prog_8_method_68_code 2 (some .int) ∈ GW := mw_of (i := 1734) (by decide +kernel) rfl
theorem mw_1629 : Cond.methodLink "EveningLedgerLaw" 243 yX6_read ∈ GW := mw_of (i := 1735) (by decide +kernel) rfl
theorem mw_1630 : Cond.instanceMethod yX6_read ∈ GW := mw_of (i := 1736) (by decide +kernel) rfl
theorem mw_1631 : Cond.selects "EveningLedgerModel" yX6_read yX6_read ∈ GW := mw_of (i := 1737) (by decide +kernel) rfl
theorem mw_1632 : Cond.code yX6_read prog_8_method_78_code 5 (some .int) ∈ GW := mw_of (i := 1738) (by decide +kernel) rfl
theorem mw_1633 : Cond.methodLink "EveningLedgerModel" 250 yX6_countCommands ∈ GW := mw_of (i := 1739) (by decide +kernel) rfl
theorem mw_1635 : Cond.instanceMethod yX6_countCommands ∈ GW := mw_of (i := 1741) (by decide +kernel) rfl
theorem mw_1636 : Cond.code yX6_countCommands prog_8_method_76_code 2 (some .int) ∈ GW := mw_of (i := 1742) (by decide +kernel) rfl
theorem mw_1637 : Cond.methodLink "EveningLedgerModel" 228 yX6_readCommand ∈ GW := mw_of (i := 1743) (by decide +kernel) rfl
theorem mw_1639 : Cond.instanceMethod yX6_readCommand ∈ GW := mw_of (i := 1745) (by decide +kernel) rfl
theorem mw_1640 : Cond.code yX6_readCommand prog_8_method_75_code 1 none ∈ GW := mw_of (i := 1746) (by decide +kernel) rfl
theorem mw_1641 : Cond.methodLink "EveningLedgerModel" 206 yX6_takes ∈ GW := mw_of (i := 1747) (by decide +kernel) rfl
theorem mw_1643 : Cond.instanceMethod yX6_takes ∈ GW := mw_of (i := 1749) (by decide +kernel) rfl
theorem mw_1644 : Cond.code yX6_takes prog_8_method_70_code 3 (some .boolean) ∈ GW := mw_of (i := 1750) (by decide +kernel) rfl
theorem mw_1645 : Cond.methodLink "EveningLedgerModel" 192 yX6_sees ∈ GW := mw_of (i := 1751) (by decide +kernel) rfl
theorem mw_1647 : Cond.instanceMethod yX6_sees ∈ GW := mw_of (i := 1753) (by decide +kernel) rfl
theorem mw_1648 : Cond.code yX6_sees prog_8_method_69_code 3 (some .boolean) ∈ GW := mw_of (i := 1754) (by decide +kernel) rfl
theorem mw_1649 : Cond.methodLink "EveningLedgerModel" 209 yX6_readNumber ∈ GW := mw_of (i := 1755) (by decide +kernel) rfl
theorem mw_1651 : Cond.instanceMethod yX6_readNumber ∈ GW := mw_of (i := 1757) (by decide +kernel) rfl
theorem mw_1652 : Cond.code yX6_readNumber prog_8_method_72_code 2 none ∈ GW := mw_of (i := 1758) (by decide +kernel) rfl
theorem mw_1653 : Cond.methodLink "EveningLedgerModel" 199 yX6_readOne ∈ GW := mw_of (i := 1759) (by decide +kernel) rfl
theorem mw_1655 : Cond.instanceMethod yX6_readOne ∈ GW := mw_of (i := 1761) (by decide +kernel) rfl
theorem mw_1656 : Cond.code yX6_readOne prog_8_method_71_code 4 (some .int) ∈ GW := mw_of (i := 1762) (by decide +kernel) rfl
theorem mw_1657 : Cond.methodLink "EveningLedgerModel" 225 yX6_readOfPage ∈ GW := mw_of (i := 1763) (by decide +kernel) rfl
theorem mw_1659 : Cond.instanceMethod yX6_readOfPage ∈ GW := mw_of (i := 1765) (by decide +kernel) rfl
theorem mw_1660 : Cond.code yX6_readOfPage prog_8_method_74_code 1 none ∈ GW := mw_of (i := 1766) (by decide +kernel) rfl
theorem mw_1661 : Cond.methodLink "EveningLedgerModel" 216 yX6_readEntry ∈ GW := mw_of (i := 1767) (by decide +kernel) rfl
theorem mw_1663 : Cond.instanceMethod yX6_readEntry ∈ GW := mw_of (i := 1769) (by decide +kernel) rfl
theorem mw_1664 : Cond.code yX6_readEntry prog_8_method_73_code 2 none ∈ GW := mw_of (i := 1770) (by decide +kernel) rfl
theorem mw_1665 : Cond.methodLink "EveningLedgerModel" 253 yX6_carryOut ∈ GW := mw_of (i := 1771) (by decide +kernel) rfl
theorem mw_1667 : Cond.instanceMethod yX6_carryOut ∈ GW := mw_of (i := 1773) (by decide +kernel) rfl
theorem mw_1668 : Cond.code yX6_carryOut prog_8_method_77_code 1 (some .int) ∈ GW := mw_of (i := 1774) (by decide +kernel) rfl
theorem mw_1669 : Cond.methodLink "EveningLedgerModel" 231 yX6_evening ∈ GW := mw_of (i := 1775) (by decide +kernel) rfl
theorem mw_1670 : Cond.methodLink "EveningLedgerModel" 234 yX6_forget ∈ GW := mw_of (i := 1776) (by decide +kernel) rfl
theorem mw_1671 : Cond.methodLink "EveningLedgerModel" 237 yX6_takeOver ∈ GW := mw_of (i := 1777) (by decide +kernel) rfl
theorem mw_1672 : Cond.methodLink "EveningLedgerModel" 240 yX6_add ∈ GW := mw_of (i := 1778) (by decide +kernel) rfl
theorem mw_1673 : Cond.methodLink "EveningLedgerModel" 244 yX6_strike ∈ GW := mw_of (i := 1779) (by decide +kernel) rfl
theorem mw_1674 : Cond.methodLink "EveningLedgerModel" 247 yX6_write ∈ GW := mw_of (i := 1780) (by decide +kernel) rfl
theorem mw_1675 : Cond.methodLink "EveningLedgerLaw" 246 yX6_errorPosition ∈ GW := mw_of (i := 1781) (by decide +kernel) rfl
theorem mw_1676 : Cond.instanceMethod yX6_errorPosition ∈ GW := mw_of (i := 1782) (by decide +kernel) rfl
theorem mw_1677 : Cond.selects "EveningLedgerModel" yX6_errorPosition yX6_errorPosition ∈ GW := mw_of (i := 1783) (by decide +kernel) rfl
theorem mw_1678 : Cond.code yX6_errorPosition prog_8_method_79_code 1 (some .int) ∈ GW := mw_of (i := 1784) (by decide +kernel) rfl
theorem mw_1679 : Cond.methodLink "EveningLedgerLaw" 250 yX6_reason ∈ GW := mw_of (i := 1785) (by decide +kernel) rfl
theorem mw_1680 : Cond.instanceMethod yX6_reason ∈ GW := mw_of (i := 1786) (by decide +kernel) rfl
theorem mw_1681 : Cond.selects "EveningLedgerModel" yX6_reason yX6_reason ∈ GW := mw_of (i := 1787) (by decide +kernel) rfl
theorem mw_1682 : Cond.code yX6_reason prog_8_method_80_code 2 (some .int) ∈ GW := mw_of (i := 1788) (by decide +kernel) rfl
theorem mw_1683 : Cond.methodLink "EveningLedgerLaw" 253 yX6_undo ∈ GW := mw_of (i := 1789) (by decide +kernel) rfl
theorem mw_1684 : Cond.instanceMethod yX6_undo ∈ GW := mw_of (i := 1790) (by decide +kernel) rfl
theorem mw_1685 : Cond.selects "EveningLedgerModel" yX6_undo yX6_undo ∈ GW := mw_of (i := 1791) (by decide +kernel) rfl
theorem mw_1686 : Cond.code yX6_undo prog_8_method_81_code 1 (some .int) ∈ GW := mw_of (i := 1792) (by decide +kernel) rfl
theorem mw_1687 : Cond.methodLink "EveningLedgerLaw" 257 yX6_save ∈ GW := mw_of (i := 1793) (by decide +kernel) rfl
theorem mw_1688 : Cond.instanceMethod yX6_save ∈ GW := mw_of (i := 1794) (by decide +kernel) rfl
theorem mw_1689 : Cond.selects "EveningLedgerModel" yX6_save yX6_save ∈ GW := mw_of (i := 1795) (by decide +kernel) rfl
theorem mw_1690 : Cond.code yX6_save prog_8_method_82_code 1 (some .int) ∈ GW := mw_of (i := 1796) (by decide +kernel) rfl
theorem mw_1691 : Cond.methodLink "EveningLedgerLaw" 260 yX6_restore ∈ GW := mw_of (i := 1797) (by decide +kernel) rfl
theorem mw_1692 : Cond.instanceMethod yX6_restore ∈ GW := mw_of (i := 1798) (by decide +kernel) rfl
theorem mw_1693 : Cond.selects "EveningLedgerModel" yX6_restore yX6_restore ∈ GW := mw_of (i := 1799) (by decide +kernel) rfl
theorem mw_1694 : Cond.code yX6_restore prog_8_method_83_code 1 (some .int) ∈ GW := mw_of (i := 1800) (by decide +kernel) rfl
theorem mw_1695 : Cond.arrayClass FieldType.long ∈ GW := mw_of (i := 1801) (by decide +kernel) rfl
theorem mw_1696 : Cond.arrayClass FieldType.double ∈ GW := mw_of (i := 1802) (by decide +kernel) rfl
theorem mw_1697 : Cond.sameMethod "java/lang/Throwable" "java/lang/Throwable" "fillInStackTrace" "(I)Ljava/lang/Throwable;" ∈ GW := mw_of (i := 1803) (by decide +kernel) rfl
theorem mw_1698 : Cond.sameMethod "java/lang/AbstractStringBuilder" "java/lang/AbstractStringBuilder" "setLength" "(I)V" ∈ GW := mw_of (i := 1804) (by decide +kernel) rfl
theorem mw_1699 : Cond.sameMethod "java/lang/AbstractStringBuilder" "java/lang/AbstractStringBuilder" "append" "(Ljava/lang/String;)Ljava/lang/AbstractStringBuilder;" ∈ GW := mw_of (i := 1805) (by decide +kernel) rfl
theorem mw_1700 : Cond.sameMethod "java/lang/AbstractStringBuilder" "java/lang/AbstractStringBuilder" "appendNull" "()Ljava/lang/AbstractStringBuilder;" ∈ GW := mw_of (i := 1806) (by decide +kernel) rfl
theorem mw_1701 : Cond.sameMethod "java/lang/AbstractStringBuilder" "java/lang/AbstractStringBuilder" "ensureCapacityInternal" "(I)V" ∈ GW := mw_of (i := 1807) (by decide +kernel) rfl
theorem mw_1702 : Cond.sameMethod "java/lang/AbstractStringBuilder" "java/lang/AbstractStringBuilder" "newCapacity" "(I)I" ∈ GW := mw_of (i := 1808) (by decide +kernel) rfl
theorem mw_1703 : Cond.sameMethod "java/lang/AbstractStringBuilder" "java/lang/AbstractStringBuilder" "putStringAt" "(ILjava/lang/String;)V" ∈ GW := mw_of (i := 1809) (by decide +kernel) rfl
theorem mw_1704 : Cond.sameMethod "java/lang/AbstractStringBuilder" "java/lang/AbstractStringBuilder" "inflateIfNeededFor" "(Ljava/lang/String;)V" ∈ GW := mw_of (i := 1810) (by decide +kernel) rfl
theorem mw_1705 : Cond.sameMethod "java/lang/AbstractStringBuilder" "java/lang/AbstractStringBuilder" "inflate" "()V" ∈ GW := mw_of (i := 1811) (by decide +kernel) rfl
theorem mw_1706 : Cond.sameMethod "java/lang/AbstractStringBuilder" "java/lang/AbstractStringBuilder" "append" "(I)Ljava/lang/AbstractStringBuilder;" ∈ GW := mw_of (i := 1812) (by decide +kernel) rfl
theorem mw_1707 : Cond.sameMethod "java/lang/AbstractStringBuilder" "java/lang/AbstractStringBuilder" "append" "(C)Ljava/lang/AbstractStringBuilder;" ∈ GW := mw_of (i := 1813) (by decide +kernel) rfl
theorem mw_1708 : Cond.selects "java/lang/StringBuilder" yJ4_length_8abf5 yJ4_length_8abf5 ∈ GW := mw_of (i := 1814) (by decide +kernel) rfl
theorem mw_1709 : Cond.sameMethod "java/lang/AbstractStringBuilder" "java/lang/AbstractStringBuilder" "charAt" "(I)C" ∈ GW := mw_of (i := 1815) (by decide +kernel) rfl
theorem nw_1710 : Cond.castable "java/lang/ArrayIndexOutOfBoundsException" "java/lang/IndexOutOfBoundsException" ∈ NW := nw_of (i := 1816) (by decide +kernel) rfl
theorem nw_1711 : Cond.castable "java/lang/StringIndexOutOfBoundsException" "java/lang/IndexOutOfBoundsException" ∈ NW := nw_of (i := 1817) (by decide +kernel) rfl
theorem nw_1712 : Cond.castable "EveningLedger" "java/lang/Object" ∈ NW := nw_of (i := 1818) (by decide +kernel) rfl
theorem nw_1713 : Cond.castable "EveningLedger$Book" "java/lang/Object" ∈ NW := nw_of (i := 1819) (by decide +kernel) rfl
theorem nw_1714 : Cond.castable "EveningLedger$History" "java/lang/Object" ∈ NW := nw_of (i := 1820) (by decide +kernel) rfl
theorem nw_1715 : Cond.castable "EveningLedger$Refusal" "java/lang/Object" ∈ NW := nw_of (i := 1821) (by decide +kernel) rfl
theorem nw_1716 : Cond.castable "EveningLedger$Totals" "java/lang/Object" ∈ NW := nw_of (i := 1822) (by decide +kernel) rfl
theorem nw_1717 : Cond.castable "EveningLedger$Text" "java/lang/Object" ∈ NW := nw_of (i := 1823) (by decide +kernel) rfl
theorem nw_1718 : Cond.castable "java/lang/StringBuilder" "java/lang/Object" ∈ NW := nw_of (i := 1824) (by decide +kernel) rfl
theorem nw_1719 : Cond.castable "EveningLedgerModel" "java/lang/Object" ∈ NW := nw_of (i := 1825) (by decide +kernel) rfl
theorem nw_1720 : Cond.castable "java/lang/ArrayIndexOutOfBoundsException" "java/lang/Object" ∈ NW := nw_of (i := 1826) (by decide +kernel) rfl
theorem nw_1721 : Cond.castable "java/lang/IndexOutOfBoundsException" "java/lang/Object" ∈ NW := nw_of (i := 1827) (by decide +kernel) rfl
theorem nw_1722 : Cond.castable "java/lang/IllegalArgumentException" "java/lang/Object" ∈ NW := nw_of (i := 1828) (by decide +kernel) rfl
theorem nw_1723 : Cond.castable "java/lang/UnsupportedOperationException" "java/lang/Object" ∈ NW := nw_of (i := 1829) (by decide +kernel) rfl
theorem nw_1724 : Cond.castable "java/util/NoSuchElementException" "java/lang/Object" ∈ NW := nw_of (i := 1830) (by decide +kernel) rfl
theorem nw_1725 : Cond.castable "java/lang/StringIndexOutOfBoundsException" "java/lang/Object" ∈ NW := nw_of (i := 1831) (by decide +kernel) rfl
theorem nw_1726 : Cond.castable "java/lang/String" "java/lang/Object" ∈ NW := nw_of (i := 1832) (by decide +kernel) rfl
theorem nw_1727 : Cond.castable "java/lang/ArithmeticException" "java/lang/Object" ∈ NW := nw_of (i := 1833) (by decide +kernel) rfl
theorem nw_1728 : Cond.castable "java/lang/IllegalStateException" "java/lang/Object" ∈ NW := nw_of (i := 1834) (by decide +kernel) rfl
theorem nw_1729 : Cond.castable "java/lang/Throwable" "java/lang/Object" ∈ NW := nw_of (i := 1835) (by decide +kernel) rfl
theorem xw_ens : Cond.selects "java/lang/StringBuilder" yJ5_ensureCapacityInternal_d00df yJ5_ensureCapacityInternal_d00df ∈ GW := List.mem_filter.mpr ⟨List.mem_append_right _ List.mem_cons_self, rfl⟩
theorem xw_cap : Cond.selects "java/lang/StringBuilder" yJ5_newCapacity_0f7a4 yJ5_newCapacity_0f7a4 ∈ GW := List.mem_filter.mpr ⟨List.mem_append_right _ (List.mem_cons_of_mem _ List.mem_cons_self), rfl⟩
