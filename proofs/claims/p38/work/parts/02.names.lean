def RX0 : String := "EveningLedger$Book"
def TX0 : u_T := fun k => match k with
  | 0 => ("EveningLedger$Book", "numbers", "[I", true)
  | 1 => ("EveningLedger$Book", "sheets", "[I", true)
  | 2 => ("EveningLedger$Book", "people", "[C", true)
  | 3 => ("EveningLedger$Book", "debts", "[I", true)
  | 4 => ("EveningLedger$Book", "kept", "I", false)
  | 5 => ("EveningLedger$Book", "latest", "I", false)
  | 6 => ("EveningLedger$Book", "sheetsMade", "I", false)
  | 7 => ("EveningLedger$Book", "written", "I", false)
  | 8 => ("EveningLedger$Book", "struck", "I", false)
  | _ => ("EveningLedger$Book", "takenOver", "I", false)
def tyX0 : Nat → FieldType := fun k => match k with
  | 0 => .array .int
  | 1 => .array .int
  | 2 => .array .char
  | 3 => .array .int
  | 4 => .int
  | 5 => .int
  | 6 => .int
  | 7 => .int
  | 8 => .int
  | _ => .int
abbrev wsX00 : List Cond := u_ws RX0 TX0 10
theorem nmX0 : ∀ a, a < 10 → ∀ b, b < 10 → a ≠ b → (TX0 a).2.1 ≠ (TX0 b).2.1 := by decide +kernel
theorem tyX0_ok : ∀ k, k < 10 → parseFieldDescriptor (TX0 k).2.2.1 = some (tyX0 k) := by decide +kernel
abbrev cX0_init : ByteArray := prog_2_method_1_code
def yX0_init : MethodName := ⟨RX0, "<init>", "()V"⟩
abbrev cX0_copyFrom : ByteArray := prog_2_method_2_code
def yX0_copyFrom : MethodName := ⟨RX0, "copyFrom", "(LEveningLedger$Book;)V"⟩
abbrev cX0_indexOf : ByteArray := prog_2_method_3_code
def yX0_indexOf : MethodName := ⟨RX0, "indexOf", "(III)I"⟩
abbrev cX0_dayOf : ByteArray := prog_2_method_4_code
def yX0_dayOf : MethodName := ⟨RX0, "dayOf", "(I)I"⟩
abbrev cX0_personOn : ByteArray := prog_2_method_5_code
def yX0_personOn : MethodName := ⟨RX0, "personOn", "(III)C"⟩
abbrev cX0_debtOn : ByteArray := prog_2_method_6_code
def yX0_debtOn : MethodName := ⟨RX0, "debtOn", "(III)I"⟩
abbrev cX0_sheetOn : ByteArray := prog_2_method_7_code
def yX0_sheetOn : MethodName := ⟨RX0, "sheetOn", "(II)I"⟩
abbrev cX0_daysWithSheet : ByteArray := prog_2_method_8_code
def yX0_daysWithSheet : MethodName := ⟨RX0, "daysWithSheet", "(III)I"⟩
abbrev cX0_pagesAlone : ByteArray := prog_2_method_9_code
def yX0_pagesAlone : MethodName := ⟨RX0, "pagesAlone", "(I)I"⟩
abbrev cX0_sheetsLeft : ByteArray := prog_2_method_10_code
def yX0_sheetsLeft : MethodName := ⟨RX0, "sheetsLeft", "()I"⟩
abbrev cX0_writeEntry : ByteArray := prog_2_method_11_code
def yX0_writeEntry : MethodName := ⟨RX0, "writeEntry", "(IICI)V"⟩
abbrev cX0_firstEmptyPlace : ByteArray := prog_2_method_12_code
def yX0_firstEmptyPlace : MethodName := ⟨RX0, "firstEmptyPlace", "(I)I"⟩
abbrev cX0_oweMore : ByteArray := prog_2_method_13_code
def yX0_oweMore : MethodName := ⟨RX0, "oweMore", "(III)I"⟩
abbrev cX0_strikeOut : ByteArray := prog_2_method_14_code
def yX0_strikeOut : MethodName := ⟨RX0, "strikeOut", "(II)I"⟩
abbrev cX0_swapEntries : ByteArray := prog_2_method_15_code
def yX0_swapEntries : MethodName := ⟨RX0, "swapEntries", "(III)V"⟩
abbrev cX0_put : ByteArray := prog_2_method_16_code
def yX0_put : MethodName := ⟨RX0, "put", "(IICI)V"⟩
abbrev cX0_makeSheetItsOwn : ByteArray := prog_2_method_17_code
def yX0_makeSheetItsOwn : MethodName := ⟨RX0, "makeSheetItsOwn", "(I)V"⟩
abbrev cX0_keepEvening : ByteArray := prog_2_method_18_code
def yX0_keepEvening : MethodName := ⟨RX0, "keepEvening", "()V"⟩
abbrev cX0_forgetDay : ByteArray := prog_2_method_19_code
def yX0_forgetDay : MethodName := ⟨RX0, "forgetDay", "(I)V"⟩
abbrev cX0_moveDays : ByteArray := prog_2_method_20_code
def yX0_moveDays : MethodName := ⟨RX0, "moveDays", "(III)V"⟩
abbrev cX0_takePageFrom : ByteArray := prog_2_method_21_code
def yX0_takePageFrom : MethodName := ⟨RX0, "takePageFrom", "(II)V"⟩
abbrev cX0_entriesOn : ByteArray := prog_2_method_22_code
def yX0_entriesOn : MethodName := ⟨RX0, "entriesOn", "(II)I"⟩
abbrev cX0_sumOn : ByteArray := prog_2_method_23_code
def yX0_sumOn : MethodName := ⟨RX0, "sumOn", "(II)I"⟩
abbrev cX0_peopleOn : ByteArray := prog_2_method_24_code
def yX0_peopleOn : MethodName := ⟨RX0, "peopleOn", "(II)I"⟩
abbrev cX0_allEntries : ByteArray := prog_2_method_25_code
def yX0_allEntries : MethodName := ⟨RX0, "allEntries", "(I)I"⟩
abbrev cX0_sumOfAll : ByteArray := prog_2_method_26_code
def yX0_sumOfAll : MethodName := ⟨RX0, "sumOfAll", "(I)I"⟩
abbrev cX0_differentSheets : ByteArray := prog_2_method_27_code
def yX0_differentSheets : MethodName := ⟨RX0, "differentSheets", "(II)I"⟩
abbrev cX0_differentPlaces : ByteArray := prog_2_method_28_code
def yX0_differentPlaces : MethodName := ⟨RX0, "differentPlaces", "(III)I"⟩
abbrev cX0_debtOf : ByteArray := prog_2_method_29_code
def yX0_debtOf : MethodName := ⟨RX0, "debtOf", "(CI)I"⟩
abbrev cX0_debtOnPage : ByteArray := prog_2_method_30_code
def yX0_debtOnPage : MethodName := ⟨RX0, "debtOnPage", "(CII)I"⟩
abbrev cX0_debtByDifferences : ByteArray := prog_2_method_31_code
def yX0_debtByDifferences : MethodName := ⟨RX0, "debtByDifferences", "(CI)I"⟩
abbrev cX0_differenceSince : ByteArray := prog_2_method_32_code
def yX0_differenceSince : MethodName := ⟨RX0, "differenceSince", "(CI)I"⟩
abbrev cX0_eveningOfGreatestDebt : ByteArray := prog_2_method_33_code
def yX0_eveningOfGreatestDebt : MethodName := ⟨RX0, "eveningOfGreatestDebt", "(C)I"⟩
abbrev cX0_latestEveningWithout : ByteArray := prog_2_method_34_code
def yX0_latestEveningWithout : MethodName := ⟨RX0, "latestEveningWithout", "(C)I"⟩
abbrev cX0_firstSpotOf : ByteArray := prog_2_method_35_code
def yX0_firstSpotOf : MethodName := ⟨RX0, "firstSpotOf", "(CI)I"⟩
abbrev cX0_spotByRank : ByteArray := prog_2_method_36_code
def yX0_spotByRank : MethodName := ⟨RX0, "spotByRank", "(II)I"⟩
abbrev cX0_entriesAhead : ByteArray := prog_2_method_37_code
def yX0_entriesAhead : MethodName := ⟨RX0, "entriesAhead", "(II)I"⟩
def RX1 : String := "EveningLedger$History"
def TX1 : u_T := fun k => match k with
  | 0 => ("EveningLedger$History", "books", "[LEveningLedger$Book;", true)
  | 1 => ("EveningLedger$History", "next", "I", false)
  | _ => ("EveningLedger$History", "size", "I", false)
def tyX1 : Nat → FieldType := fun k => match k with
  | 0 => .array (.object "EveningLedger$Book")
  | 1 => .int
  | _ => .int
abbrev wsX10 : List Cond := u_ws RX1 TX1 3
theorem nmX1 : ∀ a, a < 3 → ∀ b, b < 3 → a ≠ b → (TX1 a).2.1 ≠ (TX1 b).2.1 := by decide +kernel
theorem tyX1_ok : ∀ k, k < 3 → parseFieldDescriptor (TX1 k).2.2.1 = some (tyX1 k) := by decide +kernel
abbrev cX1_init : ByteArray := prog_3_method_1_code
def yX1_init : MethodName := ⟨RX1, "<init>", "()V"⟩
abbrev cX1_rememberBook : ByteArray := prog_3_method_2_code
def yX1_rememberBook : MethodName := ⟨RX1, "rememberBook", "(LEveningLedger$Book;)V"⟩
abbrev cX1_giveBack : ByteArray := prog_3_method_3_code
def yX1_giveBack : MethodName := ⟨RX1, "giveBack", "(LEveningLedger$Book;)V"⟩
def RX2 : String := "EveningLedger$Refusal"
def TX2 : u_T := fun k => match k with
  | 0 => ("EveningLedger$Refusal", "number", "I", false)
  | _ => ("EveningLedger$Refusal", "detail", "I", false)
def tyX2 : Nat → FieldType := fun k => match k with
  | 0 => .int
  | _ => .int
abbrev wsX20 : List Cond := u_ws RX2 TX2 2
theorem nmX2 : ∀ a, a < 2 → ∀ b, b < 2 → a ≠ b → (TX2 a).2.1 ≠ (TX2 b).2.1 := by decide +kernel
theorem tyX2_ok : ∀ k, k < 2 → parseFieldDescriptor (TX2 k).2.2.1 = some (tyX2 k) := by decide +kernel
abbrev cX2_init : ByteArray := prog_4_method_1_code
def yX2_init : MethodName := ⟨RX2, "<init>", "()V"⟩
abbrev cX2_keepIf : ByteArray := prog_4_method_2_code
def yX2_keepIf : MethodName := ⟨RX2, "keepIf", "(ZII)Z"⟩
abbrev cX2_stopsWriting : ByteArray := prog_4_method_3_code
def yX2_stopsWriting : MethodName := ⟨RX2, "stopsWriting", "(LEveningLedger$Book;II)Z"⟩
abbrev cX2_stopsAdding : ByteArray := prog_4_method_4_code
def yX2_stopsAdding : MethodName := ⟨RX2, "stopsAdding", "(LEveningLedger$Book;I)Z"⟩
abbrev cX2_stopsAtEmpty : ByteArray := prog_4_method_5_code
def yX2_stopsAtEmpty : MethodName := ⟨RX2, "stopsAtEmpty", "(LEveningLedger$Book;II)Z"⟩
abbrev cX2_stopsOwing : ByteArray := prog_4_method_6_code
def yX2_stopsOwing : MethodName := ⟨RX2, "stopsOwing", "(LEveningLedger$Book;III)Z"⟩
abbrev cX2_stopsEvening : ByteArray := prog_4_method_7_code
def yX2_stopsEvening : MethodName := ⟨RX2, "stopsEvening", "(LEveningLedger$Book;)Z"⟩
abbrev cX2_stopsTakingOver : ByteArray := prog_4_method_8_code
def yX2_stopsTakingOver : MethodName := ⟨RX2, "stopsTakingOver", "(LEveningLedger$Book;II)Z"⟩
abbrev cX2_stopsForgetting : ByteArray := prog_4_method_9_code
def yX2_stopsForgetting : MethodName := ⟨RX2, "stopsForgetting", "(LEveningLedger$Book;I)Z"⟩
def RX3 : String := "EveningLedger$Text"
def TX3 : u_T := fun k => match k with
  | 0 => ("EveningLedger$Text", "signs", "Ljava/lang/StringBuilder;", true)
  | 1 => ("EveningLedger$Text", "at", "I", false)
  | 2 => ("EveningLedger$Text", "kind", "I", false)
  | 3 => ("EveningLedger$Text", "page", "I", false)
  | 4 => ("EveningLedger$Text", "place", "I", false)
  | 5 => ("EveningLedger$Text", "letter", "C", false)
  | _ => ("EveningLedger$Text", "number", "I", false)
def tyX3 : Nat → FieldType := fun k => match k with
  | 0 => .object "java/lang/StringBuilder"
  | 1 => .int
  | 2 => .int
  | 3 => .int
  | 4 => .int
  | 5 => .char
  | _ => .int
abbrev wsX30 : List Cond := u_ws RX3 TX3 7
theorem nmX3 : ∀ a, a < 7 → ∀ b, b < 7 → a ≠ b → (TX3 a).2.1 ≠ (TX3 b).2.1 := by decide +kernel
theorem tyX3_ok : ∀ k, k < 7 → parseFieldDescriptor (TX3 k).2.2.1 = some (tyX3 k) := by decide +kernel
abbrev cX3_init : ByteArray := prog_5_method_1_code
def yX3_init : MethodName := ⟨RX3, "<init>", "()V"⟩
abbrev cX3_empty : ByteArray := prog_5_method_2_code
def yX3_empty : MethodName := ⟨RX3, "empty", "()V"⟩
abbrev cX3_startAgain : ByteArray := prog_5_method_3_code
def yX3_startAgain : MethodName := ⟨RX3, "startAgain", "()V"⟩
abbrev cX3_countCommands : ByteArray := prog_5_method_4_code
def yX3_countCommands : MethodName := ⟨RX3, "countCommands", "()I"⟩
abbrev cX3_takeCommand : ByteArray := prog_5_method_5_code
def yX3_takeCommand : MethodName := ⟨RX3, "takeCommand", "()Z"⟩
abbrev cX3_takeEntryCommand : ByteArray := prog_5_method_6_code
def yX3_takeEntryCommand : MethodName := ⟨RX3, "takeEntryCommand", "()Z"⟩
abbrev cX3_takePage : ByteArray := prog_5_method_7_code
def yX3_takePage : MethodName := ⟨RX3, "takePage", "()Z"⟩
abbrev cX3_takePlace : ByteArray := prog_5_method_8_code
def yX3_takePlace : MethodName := ⟨RX3, "takePlace", "()Z"⟩
abbrev cX3_takeLetter : ByteArray := prog_5_method_9_code
def yX3_takeLetter : MethodName := ⟨RX3, "takeLetter", "()Z"⟩
abbrev cX3_takeNumber : ByteArray := prog_5_method_10_code
def yX3_takeNumber : MethodName := ⟨RX3, "takeNumber", "(Z)Z"⟩
abbrev cX3_takeDigit : ByteArray := prog_5_method_11_code
def yX3_takeDigit : MethodName := ⟨RX3, "takeDigit", "()I"⟩
abbrev cX3_takeSign : ByteArray := prog_5_method_12_code
def yX3_takeSign : MethodName := ⟨RX3, "takeSign", "(C)Z"⟩
abbrev cX3_isAtSignFrom : ByteArray := prog_5_method_13_code
def yX3_isAtSignFrom : MethodName := ⟨RX3, "isAtSignFrom", "(CC)Z"⟩
def RX4 : String := "EveningLedger$Totals"
def TX4 : u_T := fun k => match k with
  | 0 => ("EveningLedger$Totals", "sums", "[I", true)
  | _ => ("EveningLedger$Totals", "entries", "[I", true)
def tyX4 : Nat → FieldType := fun k => match k with
  | 0 => .array .int
  | _ => .array .int
abbrev wsX40 : List Cond := u_ws RX4 TX4 2
theorem nmX4 : ∀ a, a < 2 → ∀ b, b < 2 → a ≠ b → (TX4 a).2.1 ≠ (TX4 b).2.1 := by decide +kernel
theorem tyX4_ok : ∀ k, k < 2 → parseFieldDescriptor (TX4 k).2.2.1 = some (tyX4 k) := by decide +kernel
abbrev cX4_init : ByteArray := prog_6_method_1_code
def yX4_init : MethodName := ⟨RX4, "<init>", "()V"⟩
abbrev cX4_sumUp : ByteArray := prog_6_method_2_code
def yX4_sumUp : MethodName := ⟨RX4, "sumUp", "(LEveningLedger$Book;I)V"⟩
abbrev cX4_personByRank : ByteArray := prog_6_method_3_code
def yX4_personByRank : MethodName := ⟨RX4, "personByRank", "(I)C"⟩
abbrev cX4_peopleAhead : ByteArray := prog_6_method_4_code
def yX4_peopleAhead : MethodName := ⟨RX4, "peopleAhead", "(I)I"⟩
def RX5 : String := "EveningLedger"
def TX5 : u_T := fun k => match k with
  | 0 => ("EveningLedger", "book", "LEveningLedger$Book;", true)
  | 1 => ("EveningLedger", "draft", "LEveningLedger$Book;", true)
  | 2 => ("EveningLedger", "saved", "LEveningLedger$Book;", true)
  | 3 => ("EveningLedger", "history", "LEveningLedger$History;", true)
  | 4 => ("EveningLedger", "refusal", "LEveningLedger$Refusal;", true)
  | 5 => ("EveningLedger", "totals", "LEveningLedger$Totals;", true)
  | 6 => ("EveningLedger", "text", "LEveningLedger$Text;", true)
  | 7 => ("EveningLedger", "line", "Ljava/lang/StringBuilder;", true)
  | 8 => ("EveningLedger", "isSaved", "Z", false)
  | _ => ("EveningLedger", "keptErrorPosition", "I", false)
def tyX5 : Nat → FieldType := fun k => match k with
  | 0 => .object "EveningLedger$Book"
  | 1 => .object "EveningLedger$Book"
  | 2 => .object "EveningLedger$Book"
  | 3 => .object "EveningLedger$History"
  | 4 => .object "EveningLedger$Refusal"
  | 5 => .object "EveningLedger$Totals"
  | 6 => .object "EveningLedger$Text"
  | 7 => .object "java/lang/StringBuilder"
  | 8 => .boolean
  | _ => .int
abbrev wsX50 : List Cond := u_ws RX5 TX5 10
theorem nmX5 : ∀ a, a < 10 → ∀ b, b < 10 → a ≠ b → (TX5 a).2.1 ≠ (TX5 b).2.1 := by decide +kernel
theorem tyX5_ok : ∀ k, k < 10 → parseFieldDescriptor (TX5 k).2.2.1 = some (tyX5 k) := by decide +kernel
abbrev cX5_init : ByteArray := prog_1_method_1_code
def yX5_init : MethodName := ⟨RX5, "<init>", "()V"⟩
abbrev cX5_write : ByteArray := prog_1_method_2_code
def yX5_write : MethodName := ⟨RX5, "write", "(IICI)I"⟩
abbrev cX5_add : ByteArray := prog_1_method_3_code
def yX5_add : MethodName := ⟨RX5, "add", "(ICI)I"⟩
abbrev cX5_owe : ByteArray := prog_1_method_4_code
def yX5_owe : MethodName := ⟨RX5, "owe", "(III)I"⟩
abbrev cX5_strike : ByteArray := prog_1_method_5_code
def yX5_strike : MethodName := ⟨RX5, "strike", "(II)I"⟩
abbrev cX5_swap : ByteArray := prog_1_method_6_code
def yX5_swap : MethodName := ⟨RX5, "swap", "(III)I"⟩
abbrev cX5_personAt : ByteArray := prog_1_method_7_code
def yX5_personAt : MethodName := ⟨RX5, "personAt", "(III)C"⟩
abbrev cX5_debtAt : ByteArray := prog_1_method_8_code
def yX5_debtAt : MethodName := ⟨RX5, "debtAt", "(III)I"⟩
abbrev cX5_pageOf : ByteArray := prog_1_method_9_code
def yX5_pageOf : MethodName := ⟨RX5, "pageOf", "(III)I"⟩
abbrev cX5_evening : ByteArray := prog_1_method_10_code
def yX5_evening : MethodName := ⟨RX5, "evening", "()I"⟩
abbrev cX5_takeOver : ByteArray := prog_1_method_11_code
def yX5_takeOver : MethodName := ⟨RX5, "takeOver", "(II)I"⟩
abbrev cX5_forget : ByteArray := prog_1_method_12_code
def yX5_forget : MethodName := ⟨RX5, "forget", "(I)I"⟩
abbrev cX5_keptAt : ByteArray := prog_1_method_13_code
def yX5_keptAt : MethodName := ⟨RX5, "keptAt", "(I)I"⟩
abbrev cX5_sheetsApart : ByteArray := prog_1_method_14_code
def yX5_sheetsApart : MethodName := ⟨RX5, "sheetsApart", "(II)I"⟩
abbrev cX5_placesApart : ByteArray := prog_1_method_15_code
def yX5_placesApart : MethodName := ⟨RX5, "placesApart", "(II)I"⟩
abbrev cX5_isLike : ByteArray := prog_1_method_16_code
def yX5_isLike : MethodName := ⟨RX5, "isLike", "(III)Z"⟩
abbrev cX5_debt : ByteArray := prog_1_method_17_code
def yX5_debt : MethodName := ⟨RX5, "debt", "(IC)I"⟩
abbrev cX5_debtAgain : ByteArray := prog_1_method_18_code
def yX5_debtAgain : MethodName := ⟨RX5, "debtAgain", "(IC)I"⟩
abbrev cX5_greatestOn : ByteArray := prog_1_method_19_code
def yX5_greatestOn : MethodName := ⟨RX5, "greatestOn", "(C)I"⟩
abbrev cX5_without : ByteArray := prog_1_method_20_code
def yX5_without : MethodName := ⟨RX5, "without", "(C)I"⟩
abbrev cX5_owing : ByteArray := prog_1_method_21_code
def yX5_owing : MethodName := ⟨RX5, "owing", "(II)C"⟩
abbrev cX5_greatest : ByteArray := prog_1_method_22_code
def yX5_greatest : MethodName := ⟨RX5, "greatest", "(II)I"⟩
abbrev cX5_find : ByteArray := prog_1_method_23_code
def yX5_find : MethodName := ⟨RX5, "find", "(IC)I"⟩
abbrev cX5_tell : ByteArray := prog_1_method_24_code
def yX5_tell : MethodName := ⟨RX5, "tell", "(II)I"⟩
abbrev cX5_show : ByteArray := prog_1_method_25_code
def yX5_show : MethodName := ⟨RX5, "show", "(I)I"⟩
abbrev cX5_character : ByteArray := prog_1_method_26_code
def yX5_character : MethodName := ⟨RX5, "character", "(I)C"⟩
abbrev cX5_meanDebt : ByteArray := prog_1_method_27_code
def yX5_meanDebt : MethodName := ⟨RX5, "meanDebt", "(I)D"⟩
abbrev cX5_aloneShare : ByteArray := prog_1_method_28_code
def yX5_aloneShare : MethodName := ⟨RX5, "aloneShare", "()F"⟩
abbrev cX5_account : ByteArray := prog_1_method_29_code
def yX5_account : MethodName := ⟨RX5, "account", "(I)I"⟩
abbrev cX5_append : ByteArray := prog_1_method_30_code
def yX5_append : MethodName := ⟨RX5, "append", "(C)I"⟩
abbrev cX5_read : ByteArray := prog_1_method_31_code
def yX5_read : MethodName := ⟨RX5, "read", "()I"⟩
abbrev cX5_undo : ByteArray := prog_1_method_34_code
def yX5_undo : MethodName := ⟨RX5, "undo", "()I"⟩
abbrev cX5_save : ByteArray := prog_1_method_35_code
def yX5_save : MethodName := ⟨RX5, "save", "()I"⟩
abbrev cX5_restore : ByteArray := prog_1_method_36_code
def yX5_restore : MethodName := ⟨RX5, "restore", "()I"⟩
abbrev cX5_isPage : ByteArray := prog_1_method_37_code
def yX5_isPage : MethodName := ⟨RX5, "isPage", "(I)Z"⟩
abbrev cX5_isPlace : ByteArray := prog_1_method_38_code
def yX5_isPlace : MethodName := ⟨RX5, "isPlace", "(I)Z"⟩
abbrev cX5_isPerson : ByteArray := prog_1_method_39_code
def yX5_isPerson : MethodName := ⟨RX5, "isPerson", "(C)Z"⟩
abbrev cX5_isInDebtRange : ByteArray := prog_1_method_40_code
def yX5_isInDebtRange : MethodName := ⟨RX5, "isInDebtRange", "(I)Z"⟩
abbrev cX5_isEntry : ByteArray := prog_1_method_41_code
def yX5_isEntry : MethodName := ⟨RX5, "isEntry", "(CI)Z"⟩
abbrev cX5_pageAndPlace : ByteArray := prog_1_method_42_code
def yX5_pageAndPlace : MethodName := ⟨RX5, "pageAndPlace", "(I)I"⟩
abbrev cX5_needIndex : ByteArray := prog_1_method_43_code
def yX5_needIndex : MethodName := ⟨RX5, "needIndex", "(Z)V"⟩
abbrev cX5_needArgument : ByteArray := prog_1_method_44_code
def yX5_needArgument : MethodName := ⟨RX5, "needArgument", "(Z)V"⟩
abbrev cX5_needElement : ByteArray := prog_1_method_45_code
def yX5_needElement : MethodName := ⟨RX5, "needElement", "(Z)V"⟩
abbrev cX5_refuseIf : ByteArray := prog_1_method_46_code
def yX5_refuseIf : MethodName := ⟨RX5, "refuseIf", "(Z)V"⟩
abbrev cX5_needPlace : ByteArray := prog_1_method_47_code
def yX5_needPlace : MethodName := ⟨RX5, "needPlace", "(II)V"⟩
abbrev cX5_needEntry : ByteArray := prog_1_method_48_code
def yX5_needEntry : MethodName := ⟨RX5, "needEntry", "(CI)V"⟩
abbrev cX5_needDay : ByteArray := prog_1_method_49_code
def yX5_needDay : MethodName := ⟨RX5, "needDay", "(I)I"⟩
abbrev cX5_putPlace : ByteArray := prog_1_method_50_code
def yX5_putPlace : MethodName := ⟨RX5, "putPlace", "(III)V"⟩
abbrev cX5_putSheet : ByteArray := prog_1_method_51_code
def yX5_putSheet : MethodName := ⟨RX5, "putSheet", "(II)V"⟩
abbrev cX5_carryOut : ByteArray := prog_1_method_52_code
def yX5_carryOut : MethodName := ⟨RX5, "carryOut", "(I)I"⟩
abbrev cX5_tellsWhatIs : ByteArray := prog_1_method_53_code
def yX5_tellsWhatIs : MethodName := ⟨RX5, "tellsWhatIs", "()Z"⟩
abbrev cX5_commandIsRefused : ByteArray := prog_1_method_54_code
def yX5_commandIsRefused : MethodName := ⟨RX5, "commandIsRefused", "()Z"⟩
abbrev cX5_doCommand : ByteArray := prog_1_method_55_code
def yX5_doCommand : MethodName := ⟨RX5, "doCommand", "()V"⟩
def RX6 : String := "EveningLedgerModel"
def TX6 : u_T := fun k => match k with
  | _ => ("", "", "", false)
def tyX6 : Nat → FieldType := fun k => match k with
  | _ => .int
abbrev wsX60 : List Cond := u_ws RX6 TX6 0
theorem nmX6 : ∀ a, a < 0 → ∀ b, b < 0 → a ≠ b → (TX6 a).2.1 ≠ (TX6 b).2.1 := by decide +kernel
theorem tyX6_ok : ∀ k, k < 0 → parseFieldDescriptor (TX6 k).2.2.1 = some (tyX6 k) := by decide +kernel
def RJx145de : String := "java/io/Serializable"
def TJx145de : u_T := fun k => match k with
  | _ => ("", "", "", false)
def tyJx145de : Nat → FieldType := fun k => match k with
  | _ => .int
abbrev wsJx145de0 : List Cond := u_ws RJx145de TJx145de 0
theorem nmJx145de : ∀ a, a < 0 → ∀ b, b < 0 → a ≠ b → (TJx145de a).2.1 ≠ (TJx145de b).2.1 := by decide +kernel
theorem tyJx145de_ok : ∀ k, k < 0 → parseFieldDescriptor (TJx145de k).2.2.1 = some (tyJx145de k) := by decide +kernel
def RJ5 : String := "java/lang/AbstractStringBuilder"
def TJ5 : u_T := fun k => match k with
  | _ => ("", "", "", false)
def tyJ5 : Nat → FieldType := fun k => match k with
  | _ => .int
abbrev wsJ50 : List Cond := u_ws RJ5 TJ5 0
theorem nmJ5 : ∀ a, a < 0 → ∀ b, b < 0 → a ≠ b → (TJ5 a).2.1 ≠ (TJ5 b).2.1 := by decide +kernel
theorem tyJ5_ok : ∀ k, k < 0 → parseFieldDescriptor (TJ5 k).2.2.1 = some (tyJ5 k) := by decide +kernel
abbrev cJ5_init_d00df : ByteArray := prog_10_method_2_code
def yJ5_init_d00df : MethodName := ⟨RJ5, "<init>", "(I)V"⟩
abbrev cJ5_length_8abf5 : ByteArray := prog_10_method_6_code
def yJ5_length_8abf5 : MethodName := ⟨RJ5, "length", "()I"⟩
abbrev cJ5_ensureCapacityInternal_d00df : ByteArray := prog_10_method_9_code
def yJ5_ensureCapacityInternal_d00df : MethodName := ⟨RJ5, "ensureCapacityInternal", "(I)V"⟩
abbrev cJ5_newCapacity_0f7a4 : ByteArray := prog_10_method_10_code
def yJ5_newCapacity_0f7a4 : MethodName := ⟨RJ5, "newCapacity", "(I)I"⟩
abbrev cJ5_inflate_da8c8 : ByteArray := prog_10_method_11_code
def yJ5_inflate_da8c8 : MethodName := ⟨RJ5, "inflate", "()V"⟩
abbrev cJ5_setLength_d00df : ByteArray := prog_10_method_13_code
def yJ5_setLength_d00df : MethodName := ⟨RJ5, "setLength", "(I)V"⟩
abbrev cJ5_charAt_5068e : ByteArray := prog_10_method_14_code
def yJ5_charAt_5068e : MethodName := ⟨RJ5, "charAt", "(I)C"⟩
abbrev cJ5_append_cf1ce : ByteArray := prog_10_method_22_code
def yJ5_append_cf1ce : MethodName := ⟨RJ5, "append", "(Ljava/lang/String;)Ljava/lang/AbstractStringBuilder;"⟩
abbrev cJ5_appendNull_278bc : ByteArray := prog_10_method_26_code
def yJ5_appendNull_278bc : MethodName := ⟨RJ5, "appendNull", "()Ljava/lang/AbstractStringBuilder;"⟩
abbrev cJ5_append_3fe6f : ByteArray := prog_10_method_31_code
def yJ5_append_3fe6f : MethodName := ⟨RJ5, "append", "(C)Ljava/lang/AbstractStringBuilder;"⟩
abbrev cJ5_append_c97b9 : ByteArray := prog_10_method_32_code
def yJ5_append_c97b9 : MethodName := ⟨RJ5, "append", "(I)Ljava/lang/AbstractStringBuilder;"⟩
abbrev cJ5_getValue_6d5f1 : ByteArray := prog_10_method_64_code
def yJ5_getValue_6d5f1 : MethodName := ⟨RJ5, "getValue", "()[B"⟩
abbrev cJ5_isLatin1_aae02 : ByteArray := prog_10_method_68_code
def yJ5_isLatin1_aae02 : MethodName := ⟨RJ5, "isLatin1", "()Z"⟩
abbrev cJ5_inflateIfNeededFor_a7421 : ByteArray := prog_10_method_71_code
def yJ5_inflateIfNeededFor_a7421 : MethodName := ⟨RJ5, "inflateIfNeededFor", "(Ljava/lang/String;)V"⟩
abbrev cJ5_putStringAt_47b60 : ByteArray := prog_10_method_73_code
def yJ5_putStringAt_47b60 : MethodName := ⟨RJ5, "putStringAt", "(ILjava/lang/String;)V"⟩
def RJx2cfe8 : String := "java/lang/Appendable"
def TJx2cfe8 : u_T := fun k => match k with
  | _ => ("", "", "", false)
def tyJx2cfe8 : Nat → FieldType := fun k => match k with
  | _ => .int
abbrev wsJx2cfe80 : List Cond := u_ws RJx2cfe8 TJx2cfe8 0
theorem nmJx2cfe8 : ∀ a, a < 0 → ∀ b, b < 0 → a ≠ b → (TJx2cfe8 a).2.1 ≠ (TJx2cfe8 b).2.1 := by decide +kernel
theorem tyJx2cfe8_ok : ∀ k, k < 0 → parseFieldDescriptor (TJx2cfe8 k).2.2.1 = some (tyJx2cfe8 k) := by decide +kernel
def RJx00060 : String := "java/lang/ArrayIndexOutOfBoundsException"
def TJx00060 : u_T := fun k => match k with
  | 0 => ("java/lang/Throwable", "backtrace", "Ljava/lang/Object;", false)
  | 1 => ("java/lang/Throwable", "detailMessage", "Ljava/lang/String;", false)
  | 2 => ("java/lang/Throwable", "cause", "Ljava/lang/Throwable;", false)
  | 3 => ("java/lang/Throwable", "stackTrace", "[Ljava/lang/StackTraceElement;", false)
  | 4 => ("java/lang/Throwable", "depth", "I", false)
  | _ => ("java/lang/Throwable", "suppressedExceptions", "Ljava/util/List;", false)
def tyJx00060 : Nat → FieldType := fun k => match k with
  | 0 => .object "java/lang/Object"
  | 1 => .object "java/lang/String"
  | 2 => .object "java/lang/Throwable"
  | 3 => .array (.object "java/lang/StackTraceElement")
  | 4 => .int
  | _ => .object "java/util/List"
abbrev wsJx000600 : List Cond := u_ws RJx00060 TJx00060 6
theorem nmJx00060 : ∀ a, a < 6 → ∀ b, b < 6 → a ≠ b → (TJx00060 a).2.1 ≠ (TJx00060 b).2.1 := by decide +kernel
theorem tyJx00060_ok : ∀ k, k < 6 → parseFieldDescriptor (TJx00060 k).2.2.1 = some (tyJx00060 k) := by decide +kernel
abbrev cJx00060_init_a7421 : ByteArray := prog_13_method_2_code
def yJx00060_init_a7421 : MethodName := ⟨RJx00060, "<init>", "(Ljava/lang/String;)V"⟩
abbrev cJx00060_init_d00df : ByteArray := prog_13_method_3_code
def yJx00060_init_d00df : MethodName := ⟨RJx00060, "<init>", "(I)V"⟩
def RJx9f9b0 : String := "java/lang/CharSequence"
def TJx9f9b0 : u_T := fun k => match k with
  | _ => ("", "", "", false)
def tyJx9f9b0 : Nat → FieldType := fun k => match k with
  | _ => .int
abbrev wsJx9f9b00 : List Cond := u_ws RJx9f9b0 TJx9f9b0 0
theorem nmJx9f9b0 : ∀ a, a < 0 → ∀ b, b < 0 → a ≠ b → (TJx9f9b0 a).2.1 ≠ (TJx9f9b0 b).2.1 := by decide +kernel
theorem tyJx9f9b0_ok : ∀ k, k < 0 → parseFieldDescriptor (TJx9f9b0 k).2.2.1 = some (tyJx9f9b0 k) := by decide +kernel
def RJx8e188 : String := "java/lang/Cloneable"
def TJx8e188 : u_T := fun k => match k with
  | _ => ("", "", "", false)
def tyJx8e188 : Nat → FieldType := fun k => match k with
  | _ => .int
abbrev wsJx8e1880 : List Cond := u_ws RJx8e188 TJx8e188 0
theorem nmJx8e188 : ∀ a, a < 0 → ∀ b, b < 0 → a ≠ b → (TJx8e188 a).2.1 ≠ (TJx8e188 b).2.1 := by decide +kernel
theorem tyJx8e188_ok : ∀ k, k < 0 → parseFieldDescriptor (TJx8e188 k).2.2.1 = some (tyJx8e188 k) := by decide +kernel
def RJxb160c : String := "java/lang/Comparable"
def TJxb160c : u_T := fun k => match k with
  | _ => ("", "", "", false)
def tyJxb160c : Nat → FieldType := fun k => match k with
  | _ => .int
abbrev wsJxb160c0 : List Cond := u_ws RJxb160c TJxb160c 0
theorem nmJxb160c : ∀ a, a < 0 → ∀ b, b < 0 → a ≠ b → (TJxb160c a).2.1 ≠ (TJxb160c b).2.1 := by decide +kernel
theorem tyJxb160c_ok : ∀ k, k < 0 → parseFieldDescriptor (TJxb160c k).2.2.1 = some (tyJxb160c k) := by decide +kernel
def RJ6 : String := "java/lang/Integer"
def TJ6 : u_T := fun k => match k with
  | _ => ("", "", "", false)
def tyJ6 : Nat → FieldType := fun k => match k with
  | _ => .int
abbrev wsJ60 : List Cond := u_ws RJ6 TJ6 0
theorem nmJ6 : ∀ a, a < 0 → ∀ b, b < 0 → a ≠ b → (TJ6 a).2.1 ≠ (TJ6 b).2.1 := by decide +kernel
theorem tyJ6_ok : ∀ k, k < 0 → parseFieldDescriptor (TJ6 k).2.2.1 = some (tyJ6 k) := by decide +kernel
abbrev cJ6_getChars_ba4f3 : ByteArray := prog_21_method_12_code
def yJ6_getChars_ba4f3 : MethodName := ⟨RJ6, "getChars", "(II[B)I"⟩
abbrev cJ6_stringSize_0f7a4 : ByteArray := prog_21_method_13_code
def yJ6_stringSize_0f7a4 : MethodName := ⟨RJ6, "stringSize", "(I)I"⟩
abbrev cJ6_bitCount_0f7a4 : ByteArray := prog_21_method_49_code
def yJ6_bitCount_0f7a4 : MethodName := ⟨RJ6, "bitCount", "(I)I"⟩
def RJ9 : String := "java/lang/Math"
def TJ9 : u_T := fun k => match k with
  | _ => ("", "", "", false)
def tyJ9 : Nat → FieldType := fun k => match k with
  | _ => .int
abbrev wsJ90 : List Cond := u_ws RJ9 TJ9 0
theorem nmJ9 : ∀ a, a < 0 → ∀ b, b < 0 → a ≠ b → (TJ9 a).2.1 ≠ (TJ9 b).2.1 := by decide +kernel
theorem tyJ9_ok : ∀ k, k < 0 → parseFieldDescriptor (TJ9 k).2.2.1 = some (tyJ9 k) := by decide +kernel
abbrev cJ9_abs_0f7a4 : ByteArray := prog_22_method_59_code
def yJ9_abs_0f7a4 : MethodName := ⟨RJ9, "abs", "(I)I"⟩
abbrev cJ9_max_7cf53 : ByteArray := prog_22_method_65_code
def yJ9_max_7cf53 : MethodName := ⟨RJ9, "max", "(II)I"⟩
abbrev cJ9_min_7cf53 : ByteArray := prog_22_method_69_code
def yJ9_min_7cf53 : MethodName := ⟨RJ9, "min", "(II)I"⟩
def RJxd2413 : String := "java/lang/Number"
def TJxd2413 : u_T := fun k => match k with
  | _ => ("", "", "", false)
def tyJxd2413 : Nat → FieldType := fun k => match k with
  | _ => .int
abbrev wsJxd24130 : List Cond := u_ws RJxd2413 TJxd2413 0
theorem nmJxd2413 : ∀ a, a < 0 → ∀ b, b < 0 → a ≠ b → (TJxd2413 a).2.1 ≠ (TJxd2413 b).2.1 := by decide +kernel
theorem tyJxd2413_ok : ∀ k, k < 0 → parseFieldDescriptor (TJxd2413 k).2.2.1 = some (tyJxd2413 k) := by decide +kernel
def RJ0 : String := "java/lang/String"
def TJ0 : u_T := fun k => match k with
  | 0 => ("java/lang/String", "value", "[B", true)
  | 1 => ("java/lang/String", "coder", "B", true)
  | 2 => ("java/lang/String", "hash", "I", false)
  | _ => ("java/lang/String", "hashIsZero", "Z", false)
def tyJ0 : Nat → FieldType := fun k => match k with
  | 0 => .array .byte
  | 1 => .byte
  | 2 => .int
  | _ => .boolean
abbrev wsJ00 : List Cond := u_ws RJ0 TJ0 4
theorem nmJ0 : ∀ a, a < 4 → ∀ b, b < 4 → a ≠ b → (TJ0 a).2.1 ≠ (TJ0 b).2.1 := by decide +kernel
theorem tyJ0_ok : ∀ k, k < 4 → parseFieldDescriptor (TJ0 k).2.2.1 = some (tyJ0 k) := by decide +kernel
abbrev cJ0_init_81219 : ByteArray := prog_25_method_53_code
def yJ0_init_81219 : MethodName := ⟨RJ0, "<init>", "(Ljava/lang/StringBuilder;)V"⟩
abbrev cJ0_length_8abf5 : ByteArray := prog_25_method_54_code
def yJ0_length_8abf5 : MethodName := ⟨RJ0, "length", "()I"⟩
abbrev cJ0_charAt_5068e : ByteArray := prog_25_method_56_code
def yJ0_charAt_5068e : MethodName := ⟨RJ0, "charAt", "(I)C"⟩
abbrev cJ0_getBytes_840e7 : ByteArray := prog_25_method_147_code
def yJ0_getBytes_840e7 : MethodName := ⟨RJ0, "getBytes", "([BIB)V"⟩
abbrev cJ0_init_db425 : ByteArray := prog_25_method_150_code
def yJ0_init_db425 : MethodName := ⟨RJ0, "<init>", "(Ljava/lang/AbstractStringBuilder;Ljava/lang/Void;)V"⟩
abbrev cJ0_coder_7d493 : ByteArray := prog_25_method_152_code
def yJ0_coder_7d493 : MethodName := ⟨RJ0, "coder", "()B"⟩
abbrev cJ0_isLatin1_aae02 : ByteArray := prog_25_method_154_code
def yJ0_isLatin1_aae02 : MethodName := ⟨RJ0, "isLatin1", "()Z"⟩
abbrev cJ0_checkIndex_df160 : ByteArray := prog_25_method_155_code
def yJ0_checkIndex_df160 : MethodName := ⟨RJ0, "checkIndex", "(II)V"⟩
abbrev cJ0_checkBoundsOffCount_cabcc : ByteArray := prog_25_method_157_code
def yJ0_checkBoundsOffCount_cabcc : MethodName := ⟨RJ0, "checkBoundsOffCount", "(III)I"⟩
abbrev cJ0_checkBoundsBeginEnd_23922 : ByteArray := prog_25_method_158_code
def yJ0_checkBoundsBeginEnd_23922 : MethodName := ⟨RJ0, "checkBoundsBeginEnd", "(III)V"⟩
def RJ4 : String := "java/lang/StringBuilder"
def TJ4 : u_T := fun k => match k with
  | 0 => ("java/lang/AbstractStringBuilder", "value", "[B", false)
  | 1 => ("java/lang/AbstractStringBuilder", "coder", "B", false)
  | 2 => ("java/lang/AbstractStringBuilder", "maybeLatin1", "Z", false)
  | _ => ("java/lang/AbstractStringBuilder", "count", "I", false)
def tyJ4 : Nat → FieldType := fun k => match k with
  | 0 => .array .byte
  | 1 => .byte
  | 2 => .boolean
  | _ => .int
abbrev wsJ40 : List Cond := u_ws RJ4 TJ4 4
theorem nmJ4 : ∀ a, a < 4 → ∀ b, b < 4 → a ≠ b → (TJ4 a).2.1 ≠ (TJ4 b).2.1 := by decide +kernel
theorem tyJ4_ok : ∀ k, k < 4 → parseFieldDescriptor (TJ4 k).2.2.1 = some (tyJ4 k) := by decide +kernel
abbrev cJ4_init_da8c8 : ByteArray := prog_26_method_1_code
def yJ4_init_da8c8 : MethodName := ⟨RJ4, "<init>", "()V"⟩
abbrev cJ4_append_15ec4 : ByteArray := prog_26_method_7_code
def yJ4_append_15ec4 : MethodName := ⟨RJ4, "append", "(Ljava/lang/String;)Ljava/lang/StringBuilder;"⟩
abbrev cJ4_append_cf468 : ByteArray := prog_26_method_14_code
def yJ4_append_cf468 : MethodName := ⟨RJ4, "append", "(C)Ljava/lang/StringBuilder;"⟩
abbrev cJ4_append_bf812 : ByteArray := prog_26_method_15_code
def yJ4_append_bf812 : MethodName := ⟨RJ4, "append", "(I)Ljava/lang/StringBuilder;"⟩
abbrev cJ4_toString_0e30d : ByteArray := prog_26_method_42_code
def yJ4_toString_0e30d : MethodName := ⟨RJ4, "toString", "()Ljava/lang/String;"⟩
abbrev cJ4_charAt_5068e : ByteArray := prog_26_method_88_code
def yJ4_charAt_5068e : MethodName := ⟨RJ4, "charAt", "(I)C"⟩
abbrev cJ4_setLength_d00df : ByteArray := prog_26_method_89_code
def yJ4_setLength_d00df : MethodName := ⟨RJ4, "setLength", "(I)V"⟩
abbrev cJ4_length_8abf5 : ByteArray := prog_26_method_93_code
def yJ4_length_8abf5 : MethodName := ⟨RJ4, "length", "()I"⟩
def RJx7c733 : String := "java/lang/StringIndexOutOfBoundsException"
def TJx7c733 : u_T := fun k => match k with
  | 0 => ("java/lang/Throwable", "backtrace", "Ljava/lang/Object;", false)
  | 1 => ("java/lang/Throwable", "detailMessage", "Ljava/lang/String;", false)
  | 2 => ("java/lang/Throwable", "cause", "Ljava/lang/Throwable;", false)
  | 3 => ("java/lang/Throwable", "stackTrace", "[Ljava/lang/StackTraceElement;", false)
  | 4 => ("java/lang/Throwable", "depth", "I", false)
  | _ => ("java/lang/Throwable", "suppressedExceptions", "Ljava/util/List;", false)
def tyJx7c733 : Nat → FieldType := fun k => match k with
  | 0 => .object "java/lang/Object"
  | 1 => .object "java/lang/String"
  | 2 => .object "java/lang/Throwable"
  | 3 => .array (.object "java/lang/StackTraceElement")
  | 4 => .int
  | _ => .object "java/util/List"
abbrev wsJx7c7330 : List Cond := u_ws RJx7c733 TJx7c733 6
theorem nmJx7c733 : ∀ a, a < 6 → ∀ b, b < 6 → a ≠ b → (TJx7c733 a).2.1 ≠ (TJx7c733 b).2.1 := by decide +kernel
theorem tyJx7c733_ok : ∀ k, k < 6 → parseFieldDescriptor (TJx7c733 k).2.2.1 = some (tyJx7c733 k) := by decide +kernel
abbrev cJx7c733_init_d00df : ByteArray := prog_27_method_3_code
def yJx7c733_init_d00df : MethodName := ⟨RJx7c733, "<init>", "(I)V"⟩
def RJ1 : String := "java/lang/StringLatin1"
def TJ1 : u_T := fun k => match k with
  | _ => ("", "", "", false)
def tyJ1 : Nat → FieldType := fun k => match k with
  | _ => .int
abbrev wsJ10 : List Cond := u_ws RJ1 TJ1 0
theorem nmJ1 : ∀ a, a < 0 → ∀ b, b < 0 → a ≠ b → (TJ1 a).2.1 ≠ (TJ1 b).2.1 := by decide +kernel
theorem tyJ1_ok : ∀ k, k < 0 → parseFieldDescriptor (TJ1 k).2.2.1 = some (tyJ1 k) := by decide +kernel
abbrev cJ1_charAt_3b067 : ByteArray := prog_28_method_2_code
def yJ1_charAt_3b067 : MethodName := ⟨RJ1, "charAt", "([BI)C"⟩
abbrev cJ1_canEncode_fc78d : ByteArray := prog_28_method_3_code
def yJ1_canEncode_fc78d : MethodName := ⟨RJ1, "canEncode", "(C)Z"⟩
abbrev cJ1_fillNull_b72d1 : ByteArray := prog_28_method_48_code
def yJ1_fillNull_b72d1 : MethodName := ⟨RJ1, "fillNull", "([BII)V"⟩
abbrev cJ1_inflate_0e8fd : ByteArray := prog_28_method_50_code
def yJ1_inflate_0e8fd : MethodName := ⟨RJ1, "inflate", "([BI[BII)V"⟩
def RJ2 : String := "java/lang/StringUTF16"
def TJ2 : u_T := fun k => match k with
  | _ => ("", "", "", false)
def tyJ2 : Nat → FieldType := fun k => match k with
  | _ => .int
abbrev wsJ20 : List Cond := u_ws RJ2 TJ2 0
theorem nmJ2 : ∀ a, a < 0 → ∀ b, b < 0 → a ≠ b → (TJ2 a).2.1 ≠ (TJ2 b).2.1 := by decide +kernel
theorem tyJ2_ok : ∀ k, k < 0 → parseFieldDescriptor (TJ2 k).2.2.1 = some (tyJ2 k) := by decide +kernel
abbrev cJ2_newBytesFor_77867 : ByteArray := prog_29_method_2_code
def yJ2_newBytesFor_77867 : MethodName := ⟨RJ2, "newBytesFor", "(I)[B"⟩
abbrev cJ2_newBytesLength_0f7a4 : ByteArray := prog_29_method_3_code
def yJ2_newBytesLength_0f7a4 : MethodName := ⟨RJ2, "newBytesLength", "(I)I"⟩
abbrev cJ2_putChar_b72d1 : ByteArray := prog_29_method_4_code
def yJ2_putChar_b72d1 : MethodName := ⟨RJ2, "putChar", "([BII)V"⟩
abbrev cJ2_getChar_3b067 : ByteArray := prog_29_method_5_code
def yJ2_getChar_3b067 : MethodName := ⟨RJ2, "getChar", "([BI)C"⟩
abbrev cJ2_length_9d52b : ByteArray := prog_29_method_6_code
def yJ2_length_9d52b : MethodName := ⟨RJ2, "length", "([B)I"⟩
abbrev cJ2_coderFromArrayLen_85cad : ByteArray := prog_29_method_15_code
def yJ2_coderFromArrayLen_85cad : MethodName := ⟨RJ2, "coderFromArrayLen", "([BI)B"⟩
abbrev cJ2_compress_39247 : ByteArray := prog_29_method_17_code
def yJ2_compress_39247 : MethodName := ⟨RJ2, "compress", "([BII)[B"⟩
abbrev cJ2_compress_5af95 : ByteArray := prog_29_method_22_code
def yJ2_compress_5af95 : MethodName := ⟨RJ2, "compress", "([BI[BII)I"⟩
abbrev cJ2_fillNull_b72d1 : ByteArray := prog_29_method_70_code
def yJ2_fillNull_b72d1 : MethodName := ⟨RJ2, "fillNull", "([BII)V"⟩
abbrev cJ2_putCharSB_b72d1 : ByteArray := prog_29_method_71_code
def yJ2_putCharSB_b72d1 : MethodName := ⟨RJ2, "putCharSB", "([BII)V"⟩
abbrev cJ2_getChars_46870 : ByteArray := prog_29_method_77_code
def yJ2_getChars_46870 : MethodName := ⟨RJ2, "getChars", "(III[B)I"⟩
abbrev cJ2_putCharsAt_cd4e5 : ByteArray := prog_29_method_81_code
def yJ2_putCharsAt_cd4e5 : MethodName := ⟨RJ2, "putCharsAt", "([BICCCC)I"⟩
abbrev cJ2_charAt_3b067 : ByteArray := prog_29_method_83_code
def yJ2_charAt_3b067 : MethodName := ⟨RJ2, "charAt", "([BI)C"⟩
abbrev cJ2_inflate_0e8fd : ByteArray := prog_29_method_86_code
def yJ2_inflate_0e8fd : MethodName := ⟨RJ2, "inflate", "([BI[BII)V"⟩
abbrev cJ2_getChars_ba4f3 : ByteArray := prog_29_method_89_code
def yJ2_getChars_ba4f3 : MethodName := ⟨RJ2, "getChars", "(II[B)I"⟩
abbrev cJ2_checkIndex_2214a : ByteArray := prog_29_method_91_code
def yJ2_checkIndex_2214a : MethodName := ⟨RJ2, "checkIndex", "(I[B)V"⟩
abbrev cJ2_checkBoundsBeginEnd_d044e : ByteArray := prog_29_method_93_code
def yJ2_checkBoundsBeginEnd_d044e : MethodName := ⟨RJ2, "checkBoundsBeginEnd", "(II[B)V"⟩
abbrev cJ2_checkBoundsOffCount_d044e : ByteArray := prog_29_method_94_code
def yJ2_checkBoundsOffCount_d044e : MethodName := ⟨RJ2, "checkBoundsOffCount", "(II[B)V"⟩
def RJ10 : String := "java/lang/System"
def TJ10 : u_T := fun k => match k with
  | _ => ("", "", "", false)
def tyJ10 : Nat → FieldType := fun k => match k with
  | _ => .int
abbrev wsJ100 : List Cond := u_ws RJ10 TJ10 0
theorem nmJ10 : ∀ a, a < 0 → ∀ b, b < 0 → a ≠ b → (TJ10 a).2.1 ≠ (TJ10 b).2.1 := by decide +kernel
theorem tyJ10_ok : ∀ k, k < 0 → parseFieldDescriptor (TJ10 k).2.2.1 = some (tyJ10 k) := by decide +kernel
def RJxfd54e : String := "java/lang/constant/Constable"
def TJxfd54e : u_T := fun k => match k with
  | _ => ("", "", "", false)
def tyJxfd54e : Nat → FieldType := fun k => match k with
  | _ => .int
abbrev wsJxfd54e0 : List Cond := u_ws RJxfd54e TJxfd54e 0
theorem nmJxfd54e : ∀ a, a < 0 → ∀ b, b < 0 → a ≠ b → (TJxfd54e a).2.1 ≠ (TJxfd54e b).2.1 := by decide +kernel
theorem tyJxfd54e_ok : ∀ k, k < 0 → parseFieldDescriptor (TJxfd54e k).2.2.1 = some (tyJxfd54e k) := by decide +kernel
def RJx3cf43 : String := "java/lang/constant/ConstantDesc"
def TJx3cf43 : u_T := fun k => match k with
  | _ => ("", "", "", false)
def tyJx3cf43 : Nat → FieldType := fun k => match k with
  | _ => .int
abbrev wsJx3cf430 : List Cond := u_ws RJx3cf43 TJx3cf43 0
theorem nmJx3cf43 : ∀ a, a < 0 → ∀ b, b < 0 → a ≠ b → (TJx3cf43 a).2.1 ≠ (TJx3cf43 b).2.1 := by decide +kernel
theorem tyJx3cf43_ok : ∀ k, k < 0 → parseFieldDescriptor (TJx3cf43 k).2.2.1 = some (tyJx3cf43 k) := by decide +kernel
def RJ7 : String := "java/util/Arrays"
def TJ7 : u_T := fun k => match k with
  | _ => ("", "", "", false)
def tyJ7 : Nat → FieldType := fun k => match k with
  | _ => .int
abbrev wsJ70 : List Cond := u_ws RJ7 TJ7 0
theorem nmJ7 : ∀ a, a < 0 → ∀ b, b < 0 → a ≠ b → (TJ7 a).2.1 ≠ (TJ7 b).2.1 := by decide +kernel
theorem tyJ7_ok : ∀ k, k < 0 → parseFieldDescriptor (TJ7 k).2.2.1 = some (tyJ7 k) := by decide +kernel
abbrev cJ7_rangeCheck_23922 : ByteArray := prog_35_method_30_code
def yJ7_rangeCheck_23922 : MethodName := ⟨RJ7, "rangeCheck", "(III)V"⟩
abbrev cJ7_fill_eb02e : ByteArray := prog_35_method_110_code
def yJ7_fill_eb02e : MethodName := ⟨RJ7, "fill", "([BIIB)V"⟩
abbrev cJ7_copyOf_9075b : ByteArray := prog_35_method_121_code
def yJ7_copyOf_9075b : MethodName := ⟨RJ7, "copyOf", "([BI)[B"⟩
abbrev cJ7_checkLength_df160 : ByteArray := prog_35_method_131_code
def yJ7_checkLength_df160 : MethodName := ⟨RJ7, "checkLength", "(II)V"⟩
abbrev cJ7_copyOfRange_39247 : ByteArray := prog_35_method_132_code
def yJ7_copyOfRange_39247 : MethodName := ⟨RJ7, "copyOfRange", "([BII)[B"⟩
abbrev cJ7_copyOfRangeByte_39247 : ByteArray := prog_35_method_133_code
def yJ7_copyOfRangeByte_39247 : MethodName := ⟨RJ7, "copyOfRangeByte", "([BII)[B"⟩
def RJ8 : String := "jdk/internal/util/ArraysSupport"
def TJ8 : u_T := fun k => match k with
  | _ => ("", "", "", false)
def tyJ8 : Nat → FieldType := fun k => match k with
  | _ => .int
abbrev wsJ80 : List Cond := u_ws RJ8 TJ8 0
theorem nmJ8 : ∀ a, a < 0 → ∀ b, b < 0 → a ≠ b → (TJ8 a).2.1 ≠ (TJ8 b).2.1 := by decide +kernel
theorem tyJ8_ok : ∀ k, k < 0 → parseFieldDescriptor (TJ8 k).2.2.1 = some (tyJ8 k) := by decide +kernel
abbrev cJ8_newLength_cabcc : ByteArray := prog_37_method_27_code
def yJ8_newLength_cabcc : MethodName := ⟨RJ8, "newLength", "(III)I"⟩
abbrev cJ8_hugeLength_7cf53 : ByteArray := prog_37_method_28_code
def yJ8_hugeLength_7cf53 : MethodName := ⟨RJ8, "hugeLength", "(II)I"⟩
def RJ3 : String := "jdk/internal/util/Preconditions"
def TJ3 : u_T := fun k => match k with
  | _ => ("", "", "", false)
def tyJ3 : Nat → FieldType := fun k => match k with
  | _ => .int
abbrev wsJ30 : List Cond := u_ws RJ3 TJ3 0
theorem nmJ3 : ∀ a, a < 0 → ∀ b, b < 0 → a ≠ b → (TJ3 a).2.1 ≠ (TJ3 b).2.1 := by decide +kernel
theorem tyJ3_ok : ∀ k, k < 0 → parseFieldDescriptor (TJ3 k).2.2.1 = some (tyJ3 k) := by decide +kernel
abbrev cJ3_checkIndex_8e157 : ByteArray := prog_38_method_11_code
def yJ3_checkIndex_8e157 : MethodName := ⟨RJ3, "checkIndex", "(IILjava/util/function/BiFunction;)I"⟩
abbrev cJ3_checkFromToIndex_8c36e : ByteArray := prog_38_method_12_code
def yJ3_checkFromToIndex_8c36e : MethodName := ⟨RJ3, "checkFromToIndex", "(IIILjava/util/function/BiFunction;)I"⟩
abbrev cJ3_checkFromIndexSize_8c36e : ByteArray := prog_38_method_13_code
def yJ3_checkFromIndexSize_8c36e : MethodName := ⟨RJ3, "checkFromIndexSize", "(IIILjava/util/function/BiFunction;)I"⟩
def RL : String := "EveningLedgerLaw"
abbrev cL_cell : ByteArray := method_2_code
def yL_cell : MethodName := ⟨RL, "cell", "([II)I"⟩
abbrev cL_write : ByteArray := method_3_code
def yL_write : MethodName := ⟨RL, "write", "(LEveningLedger;IICI)I"⟩
abbrev cL_add : ByteArray := method_4_code
def yL_add : MethodName := ⟨RL, "add", "(LEveningLedger;ICI)I"⟩
abbrev cL_owe : ByteArray := method_5_code
def yL_owe : MethodName := ⟨RL, "owe", "(LEveningLedger;III)I"⟩
abbrev cL_strike : ByteArray := method_6_code
def yL_strike : MethodName := ⟨RL, "strike", "(LEveningLedger;II)I"⟩
abbrev cL_swap : ByteArray := method_7_code
def yL_swap : MethodName := ⟨RL, "swap", "(LEveningLedger;III)I"⟩
abbrev cL_evening : ByteArray := method_8_code
def yL_evening : MethodName := ⟨RL, "evening", "(LEveningLedger;)I"⟩
abbrev cL_takeOver : ByteArray := method_9_code
def yL_takeOver : MethodName := ⟨RL, "takeOver", "(LEveningLedger;II)I"⟩
abbrev cL_forget : ByteArray := method_10_code
def yL_forget : MethodName := ⟨RL, "forget", "(LEveningLedger;I)I"⟩
abbrev cL_keptAt : ByteArray := method_11_code
def yL_keptAt : MethodName := ⟨RL, "keptAt", "(LEveningLedger;I)I"⟩
abbrev cL_without : ByteArray := method_12_code
def yL_without : MethodName := ⟨RL, "without", "(LEveningLedger;C)I"⟩
abbrev cL_owing : ByteArray := method_13_code
def yL_owing : MethodName := ⟨RL, "owing", "(LEveningLedger;II)C"⟩
abbrev cL_greatest : ByteArray := method_14_code
def yL_greatest : MethodName := ⟨RL, "greatest", "(LEveningLedger;II)I"⟩
abbrev cL_find : ByteArray := method_15_code
def yL_find : MethodName := ⟨RL, "find", "(LEveningLedger;IC)I"⟩
abbrev cL_personAt : ByteArray := method_16_code
def yL_personAt : MethodName := ⟨RL, "personAt", "(LEveningLedger;III)C"⟩
abbrev cL_meanDebt : ByteArray := method_17_code
def yL_meanDebt : MethodName := ⟨RL, "meanDebt", "(LEveningLedger;I)D"⟩
abbrev cL_read : ByteArray := method_18_code
def yL_read : MethodName := ⟨RL, "read", "(LEveningLedger;)I"⟩
abbrev cL_undo : ByteArray := method_19_code
def yL_undo : MethodName := ⟨RL, "undo", "(LEveningLedger;)I"⟩
abbrev cL_restore : ByteArray := method_20_code
def yL_restore : MethodName := ⟨RL, "restore", "(LEveningLedger;)I"⟩
abbrev cL_put : ByteArray := method_21_code
def yL_put : MethodName := ⟨RL, "put", "(LEveningLedger;C)Z"⟩
abbrev cL_feed : ByteArray := method_22_code
def yL_feed : MethodName := ⟨RL, "feed", "(LEveningLedger;Ljava/lang/String;)LEveningLedger;"⟩
abbrev cL_act : ByteArray := method_23_code
def yL_act : MethodName := ⟨RL, "act", "(LEveningLedger;I)I"⟩
abbrev cL_digestOf : ByteArray := method_24_code
def yL_digestOf : MethodName := ⟨RL, "digestOf", "(LEveningLedger;I)J"⟩
abbrev cL_digest : ByteArray := method_25_code
def yL_digest : MethodName := ⟨RL, "digest", "(LEveningLedger;)J"⟩
abbrev cL_isEvening : ByteArray := method_26_code
def yL_isEvening : MethodName := ⟨RL, "isEvening", "(LEveningLedger;I)Z"⟩
abbrev cL_areDebts : ByteArray := method_27_code
def yL_areDebts : MethodName := ⟨RL, "areDebts", "(LEveningLedger;III)Z"⟩
abbrev cL_areEvenings : ByteArray := method_28_code
def yL_areEvenings : MethodName := ⟨RL, "areEvenings", "(LEveningLedger;)Z"⟩
abbrev cL_marks : ByteArray := method_29_code
def yL_marks : MethodName := ⟨RL, "marks", "(LEveningLedger;I)I"⟩
abbrev cL_areGreatest : ByteArray := method_30_code
def yL_areGreatest : MethodName := ⟨RL, "areGreatest", "(LEveningLedger;)Z"⟩
abbrev cL_isKept : ByteArray := method_31_code
def yL_isKept : MethodName := ⟨RL, "isKept", "(LEveningLedger;I)Z"⟩
abbrev cL_isFit : ByteArray := method_32_code
def yL_isFit : MethodName := ⟨RL, "isFit", "(LEveningLedger;)Z"⟩
abbrev cL_law : ByteArray := code
def yL_law : MethodName := ⟨RL, "law", "([I)Z"⟩
abbrev vwCl : List vw_C := [(RJ0, TJ0, 4), (RJ4, TJ4, 4), (RJx00060, TJx00060, 6), (RJx7c733, TJx7c733, 6), (RX0, TX0, 10), (RX1, TX1, 3), (RX2, TX2, 2), (RX3, TX3, 7), (RX4, TX4, 2), (RX5, TX5, 10)]
