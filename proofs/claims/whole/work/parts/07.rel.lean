def xyns : List MethodName := [yX0_init, yX0_wrongIn, yX0_wrongWorlds, yX0_suits, yX0_meanOf, yX0_costInTruth, yX0_swapsOf, yX0_tryPlaces, yX0_roundsOfTakes, yX0_holderOfTaken, yX0_findBest, yX0_weighPlaces, yX0_firstBest, yX0_meanWith, yX0_leastMean, yX0_bestPlaceOf, yX0_guestWhoMindsMost, yX1_init, yX1_splitOf, yX1_worstOf, yX1_nextOf, yX1_placesThatTell, yX1_isToldBy, yX1_mostAlike, yX1_findLikes, yX1_areAlike, yX1_likeOf, yX1_fewestOf, yX1_canEverTell, yX1_findParts, yX1_findPartsAt, yX1_canTell, yX1_mostTold, yX1_canTellBy, yX2_init, yX2_isShelf, yX2_isSort, yX2_isSize, yX2_thingOf, yX2_hasRow, yX2_faultOfRow, yX2_faultOfPair, yX2_hasElement, yX2_hasElements, yX2_putRow, yX2_putTeller, yX2_putElement, yX2_cutTo, yX2_elementOf, yX2_copyElements, yX2_dropTellersFrom, yX2_howManyHold, yX3_init, yX3_start, yX3_add, yX4_init, yX4_put, yX4_readStatements, yX4_byteAt, yX4_isLetter, yX4_isDigit, yX4_readToken, yX4_isToken, yX4_failAt, yX4_readStatement, yX4_readNumber, yX4_readCups, yX4_readPour, yX4_readLaw, yX4_readSort, yX4_readGuest, yX4_readSign, yX5_init, yX5_isKind, yX5_isUnder, yX5_sayingOf, yX5_firstUnknown, yX5_mostShades, yX5_lookOrSip, yX5_sipOfWhoMindsMost, yX6_init, yX6_takeAllOf, yX6_hasPlace, yX6_hasTeller, yX6_kindOf, yX6_tellerNumberOf, yX6_addTeller, yX6_layCups, yX6_pourRow, yX6_setLaw, yX6_setTruth, yX6_setNumber, yX6_setGuest, yX6_wantOf, yX6_mindOf, yX6_truthAt, yX6_numberOf, yX6_numberInTruth, yX6_placeOfSign, yX6_knows, yX6_learn, yX6_dropSigns, yX6_sortsWithSign, yX6_unlikePoured, yX6_howManyPoured, yX6_pouredAndTurned, yX6_turnsToTruth, yX6_isTurnedSo, yX6_draw, yX6_signFor, yX7_init, yX7_sortAt, yX7_putAt, yX7_worldIn, yX7_refresh, yX7_findMixed, yX7_stepMixed, yX7_findTurned, yX7_insertWorld, yX7_findPossible, yX7_isAllowed, yX7_takePossible, yX7_worldOf, yX7_possibleOf, yX7_isWorld, yX7_howManyStand, yX7_howManyHave, yX7_sortsAt, yX7_likeliestAt, yX7_isKnown, yX7_knownPlaces, yX7_oddAt, yX8_init, yX8_row, yX8_set, yX8_copy, yX8_element, yX8_holds, yX8_show, yX8_says, yX8_cups, yX8_pour, yX8_law, yX8_sort, yX8_guest, yX8_teller, yX8_sign, yX8_forget, yX8_feed, yX8_wipe, yX8_stair, yX8_worlds, yX8_world, yX8_sorts, yX8_likely, yX8_known, yX8_split, yX8_next, yX8_fewest, yX8_apart, yX8_marks, yX8_judge, yX8_handing, yX8_best, yX8_mind, yX8_tells, yX8_odd, yX8_turned, yX8_look, yX8_tries, yX8_stairs, yX8_truth, yX8_stands, yX8_seed, yX8_image, yX8_back, yX8_status, yX8_refuse, yX8_faultOfTold, yX8_faultOfSorts, yX8_isSort, yX8_isNumber, yX8_isLook, yX8_isSignKind, yX8_isEither, yX8_canBeSeen, yX9_init, yX9_refuse, yX9_in, yX9_isPlace, yX9_isTeller, yX9_has, yX9_bits, yX9_row, yX9_fit, yX9_noRow, yX9_set, yX9_copy, yX9_element, yX9_holds, yX9_show, yX9_isUnder, yX9_says, yX9_forgets, yX9_signsMany, yX9_becomeCups, yX9_cups, yX9_noCups, yX9_areSorts, yX9_pours, yX9_pour, yX9_law, yX9_sort, yX9_guest, yX9_addTeller, yX9_teller, yX9_mayBe, yX9_isSeen, yX9_sign, yX9_forget, yX9_feed, yX9_wipe, yX9_isLetter, yX9_isDigit, yX9_look, yX9_wrong, yX9_isWord, yX9_number, yX9_tells, yX9_pourTold, yX9_signTold, yX9_statement, yX9_readAll, yX9_fresh, yX9_stair, yX9_sortAt, yX9_seekWorlds, yX9_keepNow, yX9_against, yX9_turnNow, yX9_putNow, yX9_findWorlds, yX9_numberAt, yX9_hasSigns, yX9_findPossible, yX9_worlds, yX9_world, yX9_sortsAt, yX9_sorts, yX9_likely, yX9_isKnown, yX9_known, yX9_splitOf, yX9_worstOf, yX9_split, yX9_nextOf, yX9_next, yX9_withNumber, yX9_canTell, yX9_partsTell, yX9_areAlike, yX9_canNever, yX9_fewest, yX9_tellsApart, yX9_apart, yX9_marks, yX9_isWrong, yX9_mindOf, yX9_meanOf, yX9_seekBest, yX9_findBest, yX9_wrongIn, yX9_judge, yX9_swapsTo, yX9_whoHas, yX9_seekSwaps, yX9_handing, yX9_best, yX9_mind, yX9_firstUnknown, yX9_turnerSays, yX9_handerSays, yX9_toldBy, yX9_tells_, yX9_odd, yX9_turned, yX9_looks, yX9_look_, yX9_tries, yX9_below, yX9_stairs, yX9_truth, yX9_stands, yX9_seed, yX9_copied, yX9_takeFrom, yX9_image, yX9_back, yX9_status, yJ6_bitCount_0f7a4, yX0_tryPlace, yJ9_min_7cf53, yJ7_fill_53178, ⟨RL, "law", "([I)Z"⟩]
def xcbs : List ByteArray := [cX0_init, cX0_wrongIn, cX0_wrongWorlds, cX0_suits, cX0_meanOf, cX0_costInTruth, cX0_swapsOf, cX0_tryPlaces, cX0_roundsOfTakes, cX0_holderOfTaken, cX0_findBest, cX0_weighPlaces, cX0_firstBest, cX0_meanWith, cX0_leastMean, cX0_bestPlaceOf, cX0_guestWhoMindsMost, cX1_init, cX1_splitOf, cX1_worstOf, cX1_nextOf, cX1_placesThatTell, cX1_isToldBy, cX1_mostAlike, cX1_findLikes, cX1_areAlike, cX1_likeOf, cX1_fewestOf, cX1_canEverTell, cX1_findParts, cX1_findPartsAt, cX1_canTell, cX1_mostTold, cX1_canTellBy, cX2_init, cX2_isShelf, cX2_isSort, cX2_isSize, cX2_thingOf, cX2_hasRow, cX2_faultOfRow, cX2_faultOfPair, cX2_hasElement, cX2_hasElements, cX2_putRow, cX2_putTeller, cX2_putElement, cX2_cutTo, cX2_elementOf, cX2_copyElements, cX2_dropTellersFrom, cX2_howManyHold, cX3_init, cX3_start, cX3_add, cX4_init, cX4_put, cX4_readStatements, cX4_byteAt, cX4_isLetter, cX4_isDigit, cX4_readToken, cX4_isToken, cX4_failAt, cX4_readStatement, cX4_readNumber, cX4_readCups, cX4_readPour, cX4_readLaw, cX4_readSort, cX4_readGuest, cX4_readSign, cX5_init, cX5_isKind, cX5_isUnder, cX5_sayingOf, cX5_firstUnknown, cX5_mostShades, cX5_lookOrSip, cX5_sipOfWhoMindsMost, cX6_init, cX6_takeAllOf, cX6_hasPlace, cX6_hasTeller, cX6_kindOf, cX6_tellerNumberOf, cX6_addTeller, cX6_layCups, cX6_pourRow, cX6_setLaw, cX6_setTruth, cX6_setNumber, cX6_setGuest, cX6_wantOf, cX6_mindOf, cX6_truthAt, cX6_numberOf, cX6_numberInTruth, cX6_placeOfSign, cX6_knows, cX6_learn, cX6_dropSigns, cX6_sortsWithSign, cX6_unlikePoured, cX6_howManyPoured, cX6_pouredAndTurned, cX6_turnsToTruth, cX6_isTurnedSo, cX6_draw, cX6_signFor, cX7_init, cX7_sortAt, cX7_putAt, cX7_worldIn, cX7_refresh, cX7_findMixed, cX7_stepMixed, cX7_findTurned, cX7_insertWorld, cX7_findPossible, cX7_isAllowed, cX7_takePossible, cX7_worldOf, cX7_possibleOf, cX7_isWorld, cX7_howManyStand, cX7_howManyHave, cX7_sortsAt, cX7_likeliestAt, cX7_isKnown, cX7_knownPlaces, cX7_oddAt, cX8_init, cX8_row, cX8_set, cX8_copy, cX8_element, cX8_holds, cX8_show, cX8_says, cX8_cups, cX8_pour, cX8_law, cX8_sort, cX8_guest, cX8_teller, cX8_sign, cX8_forget, cX8_feed, cX8_wipe, cX8_stair, cX8_worlds, cX8_world, cX8_sorts, cX8_likely, cX8_known, cX8_split, cX8_next, cX8_fewest, cX8_apart, cX8_marks, cX8_judge, cX8_handing, cX8_best, cX8_mind, cX8_tells, cX8_odd, cX8_turned, cX8_look, cX8_tries, cX8_stairs, cX8_truth, cX8_stands, cX8_seed, cX8_image, cX8_back, cX8_status, cX8_refuse, cX8_faultOfTold, cX8_faultOfSorts, cX8_isSort, cX8_isNumber, cX8_isLook, cX8_isSignKind, cX8_isEither, cX8_canBeSeen, cX9_init, cX9_refuse, cX9_in, cX9_isPlace, cX9_isTeller, cX9_has, cX9_bits, cX9_row, cX9_fit, cX9_noRow, cX9_set, cX9_copy, cX9_element, cX9_holds, cX9_show, cX9_isUnder, cX9_says, cX9_forgets, cX9_signsMany, cX9_becomeCups, cX9_cups, cX9_noCups, cX9_areSorts, cX9_pours, cX9_pour, cX9_law, cX9_sort, cX9_guest, cX9_addTeller, cX9_teller, cX9_mayBe, cX9_isSeen, cX9_sign, cX9_forget, cX9_feed, cX9_wipe, cX9_isLetter, cX9_isDigit, cX9_look, cX9_wrong, cX9_isWord, cX9_number, cX9_tells, cX9_pourTold, cX9_signTold, cX9_statement, cX9_readAll, cX9_fresh, cX9_stair, cX9_sortAt, cX9_seekWorlds, cX9_keepNow, cX9_against, cX9_turnNow, cX9_putNow, cX9_findWorlds, cX9_numberAt, cX9_hasSigns, cX9_findPossible, cX9_worlds, cX9_world, cX9_sortsAt, cX9_sorts, cX9_likely, cX9_isKnown, cX9_known, cX9_splitOf, cX9_worstOf, cX9_split, cX9_nextOf, cX9_next, cX9_withNumber, cX9_canTell, cX9_partsTell, cX9_areAlike, cX9_canNever, cX9_fewest, cX9_tellsApart, cX9_apart, cX9_marks, cX9_isWrong, cX9_mindOf, cX9_meanOf, cX9_seekBest, cX9_findBest, cX9_wrongIn, cX9_judge, cX9_swapsTo, cX9_whoHas, cX9_seekSwaps, cX9_handing, cX9_best, cX9_mind, cX9_firstUnknown, cX9_turnerSays, cX9_handerSays, cX9_toldBy, cX9_tells_, cX9_odd, cX9_turned, cX9_looks, cX9_look_, cX9_tries, cX9_below, cX9_stairs, cX9_truth, cX9_stands, cX9_seed, cX9_copied, cX9_takeFrom, cX9_image, cX9_back, cX9_status, cJ6_bitCount_0f7a4, cX0_tryPlace, cJ9_min_7cf53, cJ7_fill_53178, cL_law]
def xrtys : List (Option FieldType) := [none, (some .int), (some .int), (some .boolean), (some .int), (some .int), (some .int), none, (some .int), (some .int), none, none, (some .int), (some .int), (some .int), (some .int), (some .int), none, (some .int), (some .int), (some .int), (some .int), (some .boolean), (some .int), none, (some .boolean), (some .int), (some .int), (some .boolean), none, none, (some .boolean), (some .int), (some .boolean), none, (some .boolean), (some .boolean), (some .boolean), (some .int), (some .boolean), (some .int), (some .int), (some .boolean), (some .boolean), none, none, none, (some .long), (some .long), none, none, (some .int), none, none, (some .int), none, (some .boolean), (some .int), (some .int), (some .boolean), (some .boolean), none, (some .boolean), (some .boolean), (some .boolean), (some .int), (some .boolean), (some .boolean), (some .boolean), (some .boolean), (some .boolean), (some .boolean), none, (some .boolean), (some .boolean), (some .int), (some .int), (some .int), (some .int), (some .int), none, none, (some .boolean), (some .boolean), (some .int), (some .int), (some .int), none, none, none, none, none, none, (some .int), (some .int), (some .int), (some .int), (some .int), (some .int), (some .boolean), (some .boolean), none, (some .int), (some .int), (some .int), (some .int), (some .int), (some .boolean), (some .int), (some .int), none, (some .int), (some .int), (some .int), none, none, (some .boolean), none, none, none, (some .boolean), none, (some .int), (some .int), (some .boolean), (some .int), (some .int), (some .int), (some .int), (some .boolean), (some .int), (some .int), none, (some .int), (some .int), (some .int), (some .long), (some .int), (some .int), (some .int), (some .int), (some .int), (some .int), (some .int), (some .int), (some .int), (some .int), (some .int), (some .int), (some .int), (some .int), (some .int), (some .int), (some .int), (some .int), (some .int), (some .int), (some .int), (some .int), (some .int), (some .int), (some .int), (some .int), (some .int), (some .int), (some .int), (some .int), (some .int), (some .int), (some .int), (some .int), (some .int), (some .int), (some .int), (some .int), (some .int), (some .int), (some .int), (some .int), (some .int), (some .boolean), (some .boolean), (some .boolean), (some .boolean), (some .boolean), (some .boolean), none, (some .int), (some .boolean), (some .boolean), (some .boolean), (some .boolean), (some .int), (some .int), (some .long), (some .int), (some .int), (some .int), (some .long), (some .int), (some .int), (some .boolean), (some .int), none, (some .int), none, (some .int), (some .int), (some .boolean), none, (some .int), (some .int), (some .int), (some .int), none, (some .int), (some .boolean), (some .boolean), (some .int), (some .int), (some .int), (some .int), (some .boolean), (some .boolean), none, (some .boolean), (some .boolean), (some .boolean), (some .boolean), (some .boolean), (some .boolean), (some .boolean), (some .boolean), (some (.object "TheOneWithoutModel")), (some .int), (some .int), none, none, (some .int), none, none, none, (some .int), (some .boolean), none, (some .int), (some .int), (some .int), (some .int), (some .int), (some .boolean), (some .int), (some .int), (some .int), (some .int), (some .int), (some .int), (some .int), (some .boolean), (some .boolean), (some .boolean), (some .boolean), (some .int), (some .boolean), (some .int), (some .int), (some .boolean), (some .int), (some .int), none, none, (some .int), (some .int), (some .int), (some .int), none, (some .int), (some .int), (some .int), (some .int), (some .int), (some .int), (some .int), (some .int), (some .int), (some .int), (some .int), (some .int), (some .int), (some .int), (some .int), (some .int), (some .int), (some .int), none, none, (some .int), (some .int), (some .int), (some .int), none, (some .int), none, (some .boolean)]
def xinis : List Bool := [true, false, false, false, false, false, false, false, false, false, false, false, false, false, false, false, false, true, false, false, false, false, false, false, false, false, false, false, false, false, false, false, false, false, true, false, false, false, false, false, false, false, false, false, false, false, false, false, false, false, false, false, true, false, false, true, false, false, false, false, false, false, false, false, false, false, false, false, false, false, false, false, true, false, false, false, false, false, false, false, true, false, false, false, false, false, false, false, false, false, false, false, false, false, false, false, false, false, false, false, false, false, false, false, false, false, false, false, false, false, true, false, false, false, false, false, false, false, false, false, false, false, false, false, false, false, false, false, false, false, false, false, true, false, false, false, false, false, false, false, false, false, false, false, false, false, false, false, false, false, false, false, false, false, false, false, false, false, false, false, false, false, false, false, false, false, false, false, false, false, false, false, false, false, false, false, false, false, false, false, false, false, false, false, false, false, true, false, false, false, false, false, false, false, false, false, false, false, false, false, false, false, false, false, false, false, false, false, false, false, false, false, false, false, false, false, false, false, false, false, false, false, false, false, false, false, false, false, false, false, false, false, false, false, false, false, false, false, false, false, false, false, false, false, false, false, false, false, false, false, false, false, false, false, false, false, false, false, false, false, false, false, false, false, false, false, false, false, false, false, false, false, false, false, false, false, false, false, false, false, false, false, false, false, false, false, false, false, false, false, false, false, false, false, false, false, false, false, false, false, false, false, false, false]
/-- the texts of the code: class, place, text, cell -/
def xstrs : List (String × Nat × String × Nat) := [(RX9, 249, "cups", 3), (RX9, 255, "pour", 4), (RX9, 260, "law", 5), (RX9, 261, "sort", 6), (RX9, 263, "guest", 7), (RX9, 265, "sign", 8), (RX4, 73, "cups", 3), (RX4, 82, "pour", 4), (RX4, 87, "law", 5), (RX4, 92, "sort", 6), (RX4, 97, "guest", 7), (RX4, 102, "sign", 8)]
/-! WHAT LINKS THE PURE MACHINE TO THE TABLES' WORDS -/
def xW : List Cond := lw_tbl.filter goodWord
theorem xW_in {w : Cond} (h : w ∈ lw_tbl) (g : goodWord w = true) : w ∈ xW := List.mem_filter.mpr ⟨h, g⟩
theorem xW_good {w : Cond} (h : w ∈ xW) : (w.onTables && w.keeps) = true ∨ ∃ ty, w = .arrayClass ty := good_of_word (List.mem_filter.mp h).2
def xcn (c : Nat) : vw_C := xnth ("", fun _ => ("", "", "", false), 0) vwCl c
def xtys : List (Nat → FieldType) := [tyX0, tyX1, tyX2, tyX3, tyX4, tyX5, tyX6, tyX7, tyX8, tyX9]
def xfty (c k : Nat) : FieldType := xnth (fun _ => .int) xtys c k
def xyn (c : Nat) : MethodName := xnth ⟨"", "", ""⟩ xyns c
def xcb (c : Nat) : ByteArray := xnth ⟨#[]⟩ xcbs c
def xrty (c : Nat) : Option FieldType := xnth none xrtys c
def xini (c : Nat) : Bool := xnth false xinis c
def xcw (c : Nat) : Cond := Cond.code (xyn c) (xcb c) (xmaxL c) (xrty c)
def xws (c : Nat) : List Cond := xcw c :: xW
def xisref : FieldType → Bool
  | .object _ => true
  | .array _ => true
  | _ => false
/-- a method that can be called -/
def xcal (c n : Nat) : Prop := xcw c ∈ xW ∧ Cond.initialized (xyn c).cls ∈ xW ∧ ((xyn c).cls ≠ "java/lang/invoke/MethodHandle" ∧ (xyn c).cls ≠ "java/lang/invoke/VarHandle" ∧ (parseMethodDescriptor (xyn c).desc).map (fun d => d.parameters.length) = some n) ∧ (Nat.blt c 301 || Nat.beq c 302) = true
def xfok (own : String) (ix c k : Nat) : Prop := k < (xcn c).2.2 ∧ vwCl[c]? = some (xcn c) ∧ Cond.fieldLink own ix ((xcn c).2.1 k).1 ((xcn c).2.1 k).2.1 ((xcn c).2.1 k).2.2.1 ∈ xW
/-- the words that an instruction of a method of 'own' needs -/
def xwP (own : String) (ini : Bool) : xE → Prop
  | (.ldc2_w ix, _, _, [a]) => Cond.constantLong own ix (Int64.ofNat a) ∈ xW
  | (.ldc ix, _, v, [0]) => Cond.constant own ix v ∈ xW
  | (.ldc_w ix, _, v, [0]) => Cond.constant own ix v ∈ xW
  | (.ldc ix, _, _, [s]) => ∃ tx, (own, ix, tx, s) ∈ xstrs
  | (.ldc_w ix, _, _, [s]) => ∃ tx, (own, ix, tx, s) ∈ xstrs
  | (.getfield ix, _, _, [c, k, t]) => xfok own ix c k ∧ Nat.beq t 2 = xisref (xfty c k)
  | (.putfield ix, _, _, [c, k, t]) => xfok own ix c k ∧ ((t = 0 ∧ xfty c k = .int) ∨ (t = 1 ∧ xfty c k = .boolean) ∨ (t = 2 ∧ xisref (xfty c k) = true)) ∧ (((xcn c).2.1 k).2.2.2 = false ∨ (((xcn c).2.1 k).1 = own ∧ ini = true))
  | (.getstatic ix, _, _, [a]) => (a = 1 ∧ Cond.fieldLink own ix "TheOneWithout$Tellers" "ABOVE" "[I" ∈ xW) ∨ (a = 2 ∧ Cond.fieldLink own ix "TheOneWithout$Worlds" "SHIFTS" "[I" ∈ xW)
  | (.new ix, _, _, [c, _, _]) => vwCl[c]? = some (xcn c) ∧ Cond.classLink own ix (xcn c).1 ∈ xW ∧ Cond.instantiable (xcn c).1 (xcn c).2.2 ∈ xW ∧ Cond.initialized (xcn c).1 ∈ xW
  | (.newarray t, _, _, [c, _, _]) => (t = .int ∧ c = 20) ∨ (t = .long ∧ c = 21)
  | (.anewarray ix, _, _, _) => Cond.classLink own ix "[I" ∈ xW
  | (.multianewarray ix d, _, _, [c, _, _, _, _]) => d = 2 ∧ ((c = 22 ∧ Cond.classLink own ix "[[I" ∈ xW) ∨ (c = 23 ∧ Cond.classLink own ix "[[J" ∈ xW))
  | (.invokestatic ix, _, _, [c, n, _, _]) => xcal c n ∧ Cond.methodLink own ix (xyn c) ∈ xW ∧ Cond.static (xyn c) ∈ xW
  | (.invokestatic ix, _, _, [f]) => (f = 904 ∧ Cond.methodLink own ix Lib.Math.max.name ∈ xW) ∨ (f = 905 ∧ Cond.methodLink own ix Lib.Math.min.name ∈ xW) ∨ (f = 906 ∧ Cond.methodLink own ix arraycopyName ∈ xW)
  | (.invokevirtual ix, _, _, [c, n, k, _]) => xcal c n ∧ Cond.methodLink own ix (xyn c) ∈ xW ∧ Cond.instanceMethod (xyn c) ∈ xW ∧ Cond.selects (xyn c).cls (xyn c) (xyn c) ∈ xW ∧ (vwCl[k]? = some (xcn k) ∧ (xyn c).cls = (xcn k).1)
  | (.invokevirtual ix, _, _, [f]) => (f = 902 ∧ Cond.methodLink own ix yJ0_length_8abf5 ∈ xW) ∨ (f = 903 ∧ Cond.methodLink own ix yJ0_charAt_5068e ∈ xW)
  | (.invokespecial ix, _, _, [c, n, k, _]) => xcal c n ∧ xrty c = none ∧ (xyn c).name = "<init>" ∧ Cond.methodLink own ix (xyn c) ∈ xW ∧ Cond.instanceMethod (xyn c) ∈ xW ∧ (vwCl[k]? = some (xcn k) ∧ (xyn c).cls = (xcn k).1)
  | (.invokespecial ix, _, _, [_]) => Cond.methodLink own ix Lib.objectInit ∈ xW
  | _ => True
/-- lengths and constants -/
def xwB : xE → Bool
  | (.iconst n, len, v, _) => Nat.beq len 1 && decide (Int32.ofInt n = v)
  | (.bipush n, len, v, _) => Nat.beq len 2 && decide ((Int8.ofInt n).toInt32 = v)
  | (.sipush n, len, v, _) => Nat.beq len 3 && decide ((Int16.ofInt n).toInt32 = v)
  | (.iinc _ n, len, v, _) => Nat.beq len 3 && decide (Int32.ofInt n = v)
  | (.lconst n, len, _, [a]) => Nat.beq len 1 && decide (Int64.ofNat n.val = Int64.ofNat a)
  | (.ldc _, len, _, _) => Nat.beq len 2
  | (.iload _, len, _, _) => Nat.beq len 2
  | (.lload _, len, _, _) => Nat.beq len 2
  | (.aload _, len, _, _) => Nat.beq len 2
  | (.istore _, len, _, _) => Nat.beq len 2
  | (.lstore _, len, _, _) => Nat.beq len 2
  | (.newarray _, len, _, _) => Nat.beq len 2
  | (.ldc_w _, len, _, _) => Nat.beq len 3
  | (.ldc2_w _, len, _, _) => Nat.beq len 3
  | (.goto _, len, _, _) => Nat.beq len 3
  | (.ifCond _ _, len, _, _) => Nat.beq len 3
  | (.if_icmp _ _, len, _, _) => Nat.beq len 3
  | (.ifnonnull _, len, _, _) => Nat.beq len 3
  | (.getfield _, len, _, _) => Nat.beq len 3
  | (.putfield _, len, _, _) => Nat.beq len 3
  | (.getstatic _, len, _, _) => Nat.beq len 3
  | (.new _, len, _, _) => Nat.beq len 3
  | (.anewarray _, len, _, _) => Nat.beq len 3
  | (.multianewarray _ _, len, _, _) => Nat.beq len 4
  | (.invokestatic _, len, _, _) => Nat.beq len 3
  | (.invokevirtual _, len, _, _) => Nat.beq len 3
  | (.invokespecial _, len, _, _) => Nat.beq len 3
  | (.tableswitch _ lo hi os, _, _, _) => decide (hi = lo + os.size - 1) && decide (-1000 ≤ lo) && decide (hi ≤ 1000) && decide (0 < os.size)
  | (.lookupswitch _ ps, _, _, _) => (ps.toList.zip (ps.toList.drop 1)).all (fun (a, next) => decide (a.1 < next.1)) && ps.toList.all (fun q => decide (-1000 ≤ q.1) && decide (q.1 ≤ 1000))
  | (_, len, _, _) => Nat.beq len 1
/-- jumps land at a place of the code -/
def xjok (pc : Nat) (o : Int) : Bool := decide (0 ≤ Int.ofNat pc + o)
def xjB (pc : Nat) : xE → Bool
  | (.goto o, _, _, _) => xjok pc o
  | (.ifCond _ o, _, _, _) => xjok pc o
  | (.if_icmp _ o, _, _, _) => xjok pc o
  | (.ifnonnull o, _, _, _) => xjok pc o
  | (.tableswitch d _ _ os, _, _, _) => xjok pc d && os.toList.all (xjok pc)
  | (.lookupswitch d ps, _, _, _) => xjok pc d && ps.toList.all (fun q => xjok pc q.2)
  | _ => true
def xallR (P : xE → Prop) : List (Option xE) → Prop
  | [] => True
  | none :: t => xallR P t
  | some e :: t => P e ∧ xallR P t
def xallT (P : xE → Prop) : List (List (Option xE)) → Prop
  | [] => True
  | r :: t => xallR P r ∧ xallT P t
theorem xallR_at {P : xE → Prop} : ∀ (r : List (Option xE)) (i : Nat) (e : xE), xallR P r → xnth none r i = some e → P e
  | [], _, _, _, h => by simp [xnth] at h
  | none :: t, 0, e, _, h => by simp [xnth] at h
  | none :: t, i + 1, e, h, q => xallR_at t i e h q
  | some a :: t, 0, e, h, q => by
    have : a = e := by simpa [xnth] using q
    exact this ▸ h.1
  | some a :: t, i + 1, e, h, q => xallR_at t i e h.2 q
theorem xallT_row {P : xE → Prop} : ∀ (T : List (List (Option xE))) (i : Nat), xallT P T → xallR P (xnth [] T i)
  | [], _, _ => trivial
  | r :: t, 0, h => h.1
  | r :: t, i + 1, h => xallT_row t i h.2
theorem xallT_at {P : xE → Prop} {T : List (List (Option xE))} {pc : Nat} {e : xE} (h : xallT P T) (q : xfetch T pc = some e) : P e := xallR_at _ _ _ (xallT_row _ _ h) q
/-- every entry is what the bytes say -/
def xdecR (bs : ByteArray) : Nat → List (Option xE) → Bool
  | _, [] => true
  | pc, none :: t => xdecR bs (pc + 1) t
  | pc, some e :: t => decide (decode bs pc = .ok (e.1, e.2.1)) && (xwB e && (xjB pc e && xdecR bs (pc + 1) t))
def xdecT (bs : ByteArray) : Nat → List (List (Option xE)) → Bool
  | _, [] => true
  | pc, r :: t => xdecR bs pc r && xdecT bs (pc + 8) t
theorem xdecR_at {bs : ByteArray} : ∀ (r : List (Option xE)) (pc i : Nat) (e : xE), xdecR bs pc r = true → xnth none r i = some e → decode bs (pc + i) = .ok (e.1, e.2.1) ∧ xwB e = true ∧ xjB (pc + i) e = true
  | [], _, _, _, _, h => by simp [xnth] at h
  | none :: t, pc, 0, e, _, h => by simp [xnth] at h
  | none :: t, pc, i + 1, e, h, q => by
    have := xdecR_at t (pc + 1) i e h q
    rwa [show pc + 1 + i = pc + (i + 1) by omega] at this
  | some a :: t, pc, 0, e, h, q => by
    have e1 : a = e := by simpa [xnth] using q
    subst e1
    simp only [xdecR, Bool.and_eq_true, decide_eq_true_eq] at h
    exact ⟨h.1, h.2.1, h.2.2.1⟩
  | some a :: t, pc, i + 1, e, h, q => by
    simp only [xdecR, Bool.and_eq_true] at h
    have := xdecR_at t (pc + 1) i e h.2.2.2 q
    rwa [show pc + 1 + i = pc + (i + 1) by omega] at this
theorem xdecT_row {bs : ByteArray} : ∀ (T : List (List (Option xE))) (pc i : Nat), xdecT bs pc T = true → xdecR bs (pc + 8 * i) (xnth [] T i) = true
  | [], _, _, _ => rfl
  | r :: t, pc, 0, h => by
    simp only [xdecT, Bool.and_eq_true] at h
    exact h.1
  | r :: t, pc, i + 1, h => by
    simp only [xdecT, Bool.and_eq_true] at h
    have := xdecT_row t (pc + 8) i h.2
    rwa [show pc + 8 + 8 * i = pc + 8 * (i + 1) by omega] at this
theorem xdecT_at {bs : ByteArray} {T : List (List (Option xE))} {pc : Nat} {e : xE} (h : xdecT bs 0 T = true) (q : xfetch T pc = some e) : decode bs pc = .ok (e.1, e.2.1) ∧ xwB e = true ∧ xjB pc e = true := by
  have h1 := xdecT_row T 0 (pc / 8) h
  have h2 := xdecR_at _ _ _ e h1 q
  rwa [show 0 + 8 * (pc / 8) + pc % 8 = pc by omega] at h2
theorem xdecT_cut {bs : ByteArray} (n : Nat) : ∀ {pc : Nat} {T : List (List (Option xE))}, xdecT bs pc (T.take n) = true → xdecT bs (pc + 8 * n) (T.drop n) = true → xdecT bs pc T = true := by
  induction n with
  | zero => intro pc T _ h; simpa using h
  | succ n ih =>
    intro pc T h1 h2
    cases T with
    | nil => rfl
    | cons r t =>
      simp only [List.take_succ_cons, xdecT, Bool.and_eq_true] at h1
      simp only [List.drop_succ_cons] at h2
      simp only [xdecT, Bool.and_eq_true]
      exact ⟨h1.1, ih h1.2 (by rw [show pc + 8 + 8 * n = pc + 8 * (n + 1) by omega]; exact h2)⟩
/-- a method whose table stands -/
def xmOK (c : Nat) : Prop := xallT (xwP (xyn c).cls (xini c)) (xcode c) ∧ xdecT (xcb c) 0 (xcode c) = true ∧ plainName (xyn c).cls = true ∧ (xini c = true → (xyn c).name = "<init>") ∧ ((xrt c = 0 ∧ xrty c = none) ∨ (xrt c = 1 ∧ xrty c = some .int) ∨ (xrt c = 2 ∧ xrty c = some .boolean) ∨ (xrt c = 3 ∧ xrty c = some .long) ∨ (xrt c = 4 ∧ ∃ n, xrty c = some (.object n)))
