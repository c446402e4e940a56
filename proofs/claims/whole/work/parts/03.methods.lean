/-! ===== the methods, the words on nest mates ===== -/
abbrev pm_I : Type := MethodName × (ByteArray × (Nat × Option FieldType))
def pm_mt : List pm_I := [
  (yX0_remember, cX0_remember, 2, none),
  (yX0_takeBack, cX0_takeBack, 2, none),
  (yX0_forgetFirst, cX0_forgetFirst, 3, none),
  (yX1_shareOf, cX1_shareOf, 8, (some .int)),
  (yX1_ordersWith, cX1_ordersWith, 4, (some .int)),
  (yX1_mostOf, cX1_mostOf, 3, (some .int)),
  (yX1_chanceOfLength, cX1_chanceOfLength, 7, (some .int)),
  (yX1_lengthBy, cX1_lengthBy, 5, (some .int)),
  (yX1_weightOf, cX1_weightOf, 5, (some .int)),
  (yX1_leastTerms, cX1_leastTerms, 4, (some .int)),
  (yX1_greatestDivisor, cX1_greatestDivisor, 4, (some .int)),
  (yX2_append, cX2_append, 3, (some .boolean)),
  (yX2_findLaws, cX2_findLaws, 3, none),
  (yX2_takeLaw, cX2_takeLaw, 3, none),
  (yX2_figuresOfLaw, cX2_figuresOfLaw, 4, (some .int)),
  (yX2_holds, cX2_holds, 6, (some .boolean)),
  (yX3_trialFrom, cX3_trialFrom, 2, (some (.object "LeafTable$Seats"))),
  (yX3_planPasses, cX3_planPasses, 4, none),
  (yX3_tryPasses, cX3_tryPasses, 7, none),
  (yX3_takePasses, cX3_takePasses, 3, none),
  (yX3_fewestSayings, cX3_fewestSayings, 5, (some .int)),
  (yX3_trySayings, cX3_trySayings, 9, (some .int)),
  (yX3_isReached, cX3_isReached, 3, (some .boolean)),
  (yX3_firstWrong, cX3_firstWrong, 6, (some .int)),
  (yX3_happens, cX3_happens, 3, (some .boolean)),
  (yX3_lengthByTurns, cX3_lengthByTurns, 3, (some .int)),
  (yX3_tryTurn, cX3_tryTurn, 9, (some .int)),
  (yX4_become, cX4_become, 3, none),
  (yX4_readFrom, cX4_readFrom, 4, none),
  (yX5_readFrom, cX5_readFrom, 3, none),
  (yX5_knows, cX5_knows, 2, (some .boolean)),
  (yX5_everybody, cX5_everybody, 1, (some .int)),
  (yX5_canSpeak, cX5_canSpeak, 5, (some .boolean)),
  (yX5_speak, cX5_speak, 6, none),
  (yX5_speakIfCan, cX5_speakIfCan, 3, (some .boolean)),
  (yX5_hand, cX5_hand, 4, none),
  (yX5_refill, cX5_refill, 2, none),
  (yX5_hearers, cX5_hearers, 7, (some .int)),
  (yX5_doAllHear, cX5_doAllHear, 2, (some .boolean)),
  (yX5_turnOfEars, cX5_turnOfEars, 5, (some .int)),
  (yX5_farthest, cX5_farthest, 5, (some .int)),
  (yX5_nextFrom, cX5_nextFrom, 6, (some .int)),
  (yX5_isTaken, cX5_isTaken, 4, (some .boolean)),
  (yX5_growthOf, cX5_growthOf, 3, (some .int)),
  (yX6_append, cX6_append, 2, (some .boolean)),
  (yX6_firstFault, cX6_firstFault, 2, (some .int)),
  (yX6_guestsTold, cX6_guestsTold, 1, (some .int)),
  (yX6_lengthTold, cX6_lengthTold, 1, (some .int)),
  (yX6_leafTold, cX6_leafTold, 3, (some .int)),
  (yX6_partTold, cX6_partTold, 3, (some .int)),
  (yX6_figureTold, cX6_figureTold, 3, (some .int)),
  (yX6_isLetter, cX6_isLetter, 3, (some .boolean)),
  (yX6_fitsHead, cX6_fitsHead, 3, (some .boolean)),
  (yX6_fitsGuest, cX6_fitsGuest, 4, (some .boolean)),
  (yX6_isAnyFree, cX6_isAnyFree, 4, (some .boolean)),
  (yX6_isFree, cX6_isFree, 4, (some .boolean)),
  (yX7_write, cX7_write, 2, (some .int)),
  (yX7_wipe, cX7_wipe, 2, (some .int)),
  (yX7_fault, cX7_fault, 1, (some .int)),
  (yX7_lay, cX7_lay, 2, (some .int)),
  (yX7_guest, cX7_guest, 3, (some .int)),
  (yX7_say, cX7_say, 2, (some .int)),
  (yX7_pass, cX7_pass, 2, (some .int)),
  (yX7_fetch, cX7_fetch, 2, (some .int)),
  (yX7_undo, cX7_undo, 1, (some .int)),
  (yX7_passes, cX7_passes, 2, (some .int)),
  (yX7_longBy, cX7_longBy, 3, (some .int)),
  (yX7_together, cX7_together, 2, (some .int)),
  (yX7_judge, cX7_judge, 3, (some .int)),
  (yX7_share, cX7_share, 3, (some .int)),
  (yX7_comes, cX7_comes, 3, (some .int)),
  (yX7_spoken, cX7_spoken, 3, (some .int)),
  (yX7_dine, cX7_dine, 3, (some .int)),
  (yX7_clear, cX7_clear, 2, (some .int)),
  (yX7_laws, cX7_laws, 2, (some .int)),
  (yX7_hosts, cX7_hosts, 4, (some .int)),
  (yX7_come, cX7_come, 4, (some .int)),
  (yX7_seed, cX7_seed, 5, (some .long)),
  (yX7_dinner, cX7_dinner, 4, (some .int)),
  (yX7_keep, cX7_keep, 2, (some .int)),
  (yX7_again, cX7_again, 2, (some .int)),
  (yX7_count, cX7_count, 2, (some .int)),
  (yX7_told, cX7_told, 2, (some .int)),
  (yX7_figuresOf, cX7_figuresOf, 2, (some .int)),
  (yX7_isRow, cX7_isRow, 2, (some .boolean)),
  (yX7_figureAt, cX7_figureAt, 4, (some .int)),
  (yX7_isWord, cX7_isWord, 3, (some .boolean)),
  (yX7_turned, cX7_turned, 5, (some .int)),
  (yX8_in, cX8_in, 6, (some .boolean)),
  (yX8_has, cX8_has, 2, (some .boolean)),
  (yX8_ones, cX8_ones, 3, (some .int)),
  (yX8_write, cX8_write, 2, (some .int)),
  (yX8_wipe, cX8_wipe, 2, (some .int)),
  (yX8_figure, cX8_figure, 4, (some .int)),
  (yX8_isFree, cX8_isFree, 4, (some .boolean)),
  (yX8_isFreeIn, cX8_isFreeIn, 4, (some .boolean)),
  (yX8_leafFigure, cX8_leafFigure, 4, (some .int)),
  (yX8_readText, cX8_readText, 2, (some .int)),
  (yX8_readGuest, cX8_readGuest, 6, none),
  (yX8_fault, cX8_fault, 1, (some .int)),
  (yX8_lay, cX8_lay, 2, (some .int)),
  (yX8_isGuest, cX8_isGuest, 2, (some .boolean)),
  (yX8_nextOf, cX8_nextOf, 7, (some .int)),
  (yX8_hears, cX8_hears, 5, (some .int)),
  (yX8_guest, cX8_guest, 3, (some .int)),
  (yX8_isTaken, cX8_isTaken, 5, (some .boolean)),
  (yX8_growth, cX8_growth, 2, (some .int)),
  (yX8_canSay, cX8_canSay, 4, (some .boolean)),
  (yX8_sayOn, cX8_sayOn, 7, none),
  (yX8_passOn, cX8_passOn, 6, none),
  (yX8_fetchOn, cX8_fetchOn, 2, none),
  (yX8_keepAct, cX8_keepAct, 2, none),
  (yX8_say, cX8_say, 2, (some .int)),
  (yX8_pass, cX8_pass, 2, (some .int)),
  (yX8_fetch, cX8_fetch, 2, (some .int)),
  (yX8_undo, cX8_undo, 2, (some .int)),
  (yX8_layTrial, cX8_layTrial, 2, none),
  (yX8_power, cX8_power, 4, (some .int)),
  (yX8_figureOf, cX8_figureOf, 3, (some .int)),
  (yX8_told, cX8_told, 4, (some .int)),
  (yX8_mostBy, cX8_mostBy, 10, (some .int)),
  (yX8_passes, cX8_passes, 3, (some .int)),
  (yX8_sayRow, cX8_sayRow, 6, (some .boolean)),
  (yX8_fewest, cX8_fewest, 6, (some .int)),
  (yX8_longBy, cX8_longBy, 3, (some .int)),
  (yX8_together, cX8_together, 2, (some .int)),
  (yX8_farthest, cX8_farthest, 4, (some .int)),
  (yX8_tryThing, cX8_tryThing, 4, (some .boolean)),
  (yX8_judge, cX8_judge, 4, (some .int)),
  (yX8_factorial, cX8_factorial, 3, (some .int)),
  (yX8_common, cX8_common, 5, (some .int)),
  (yX8_share, cX8_share, 6, (some .int)),
  (yX8_isWord, cX8_isWord, 4, (some .boolean)),
  (yX8_ears, cX8_ears, 3, (some .int)),
  (yX8_turned, cX8_turned, 5, (some .int)),
  (yX8_comes, cX8_comes, 3, (some .int)),
  (yX8_spoken, cX8_spoken, 3, (some .int)),
  (yX8_dine, cX8_dine, 3, (some .int)),
  (yX8_clear, cX8_clear, 2, (some .int)),
  (yX8_changeOf, cX8_changeOf, 2, (some .int)),
  (yX8_isLaw, cX8_isLaw, 6, (some .boolean)),
  (yX8_laws, cX8_laws, 7, (some .int)),
  (yX8_lengthBy, cX8_lengthBy, 5, (some .int)),
  (yX8_choice, cX8_choice, 7, (some .int)),
  (yX8_hosts, cX8_hosts, 7, (some .int)),
  (yX8_come, cX8_come, 9, (some .int)),
  (yX8_seed, cX8_seed, 5, (some .long)),
  (yX8_dinner, cX8_dinner, 4, (some .int)),
  (yX8_keep, cX8_keep, 3, (some .int)),
  (yX8_again, cX8_again, 3, (some .int)),
  (yX8_count, cX8_count, 2, (some .int)),
  (yJ6_bitCount_0f7a4, cJ6_bitCount_0f7a4, 1, (some .int)),
  (yJ9_floorMod_7cf53, cJ9_floorMod_7cf53, 3, (some .int)),
  (yJ9_abs_0f7a4, cJ9_abs_0f7a4, 1, (some .int)),
  (yJ9_max_7cf53, cJ9_max_7cf53, 2, (some .int)),
  (yJ9_min_7cf53, cJ9_min_7cf53, 2, (some .int))]
def pm_m (y : Nat) : pm_I := pm_nth (yX5_knows, cX5_knows, 2, some .boolean) pm_mt y
def pm_nF : List (String × (Nat × (String × (String × (String × String))))) := [
  ("LeafTable", 74, "LeafTable$Text", "size", "I", "LeafTable"),
  ("LeafTable", 100, "LeafTable$Table", "kinds", "[I", "LeafTable"),
  ("LeafTable", 103, "LeafTable$Table", "wants", "[I", "LeafTable"),
  ("LeafTable", 106, "LeafTable$Table", "ears", "[I", "LeafTable"),
  ("LeafTable$Chances", 42, "LeafTable$Table", "number", "I", "LeafTable"),
  ("LeafTable$Seats", 34, "LeafTable$Table", "number", "I", "LeafTable"),
  ("LeafTable$Plans", 54, "LeafTable$Table", "number", "I", "LeafTable"),
  ("LeafTable", 92, "LeafTable$Table", "number", "I", "LeafTable"),
  ("LeafTable$Seats", 43, "LeafTable$Table", "warm", "I", "LeafTable"),
  ("LeafTable", 240, "LeafTable$Table", "warm", "I", "LeafTable"),
  ("LeafTable", 234, "LeafTable$Table", "reach", "I", "LeafTable"),
  ("LeafTable$Table", 57, "LeafTable$Seats", "leaves", "[I", "LeafTable"),
  ("LeafTable", 96, "LeafTable$Seats", "leaves", "[I", "LeafTable"),
  ("LeafTable$Table", 52, "LeafTable$Seats", "length", "I", "LeafTable"),
  ("LeafTable$Chances", 82, "LeafTable$Seats", "length", "I", "LeafTable"),
  ("LeafTable", 128, "LeafTable$Seats", "length", "I", "LeafTable"),
  ("LeafTable$Plans", 78, "LeafTable$Seats", "length", "I", "LeafTable"),
  ("LeafTable$Table", 64, "LeafTable$Seats", "soup", "I", "LeafTable"),
  ("LeafTable", 237, "LeafTable$Seats", "soup", "I", "LeafTable"),
  ("LeafTable$Table", 74, "LeafTable$Seats", "warmth", "I", "LeafTable"),
  ("LeafTable", 134, "LeafTable$Seats", "warmth", "I", "LeafTable"),
  ("LeafTable$Plans", 88, "LeafTable$Seats", "warmth", "I", "LeafTable"),
  ("LeafTable$Plans", 30, "LeafTable$Seats", "served", "I", "LeafTable"),
  ("LeafTable", 109, "LeafTable$Seats", "served", "I", "LeafTable"),
  ("LeafTable$Table", 85, "LeafTable$Seats", "served", "I", "LeafTable"),
  ("LeafTable", 89, "LeafTable$Acts", "number", "I", "LeafTable"),
  ("LeafTable", 191, "LeafTable$Dinners", "number", "I", "LeafTable"),
  ("LeafTable", 195, "LeafTable$Dinners", "lawsFound", "I", "LeafTable"),
  ("LeafTable", 198, "LeafTable$Dinners", "firstLaw", "I", "LeafTable"),
  ("LeafTable", 201, "LeafTable$Dinners", "sameKinds", "I", "LeafTable"),
  ("LeafTable$Chances", 62, "LeafTable$Plans", "mostServed", "I", "LeafTable"),
  ("LeafTable", 153, "LeafTable$Plans", "mostServed", "I", "LeafTable"),
  ("LeafTable", 150, "LeafTable$Plans", "firstPasses", "I", "LeafTable"),
  ("LeafTable", 207, "LeafTable$Plans", "opening", "I", "LeafTable"),
  ("LeafTable$Table", 99, "LeafTable", "GROWTH", "[I", "LeafTable"),
  ("LeafTable$Chances", 38, "LeafTable", "FACTORIALS", "[I", "LeafTable"),
  ("LeafTable$Dinners", 47, "LeafTable", "TENS", "[I", "LeafTable"),
  ("LeafTable$Chances", 71, "LeafTable", "TENS", "[I", "LeafTable")]
def pm_nM : List (String × (Nat × (MethodName × String))) := [
  ("LeafTable", 9, (⟨"LeafTable$Text", "<init>", "()V"⟩ : MethodName), "LeafTable"),
  ("LeafTable", 18, (⟨"LeafTable$Table", "<init>", "()V"⟩ : MethodName), "LeafTable"),
  ("LeafTable", 25, (⟨"LeafTable$Seats", "<init>", "()V"⟩ : MethodName), "LeafTable"),
  ("LeafTable$Acts", 17, (⟨"LeafTable$Seats", "<init>", "()V"⟩ : MethodName), "LeafTable"),
  ("LeafTable", 47, (⟨"LeafTable$Dinners", "<init>", "()V"⟩ : MethodName), "LeafTable"),
  ("LeafTable$Plans", 21, (⟨"LeafTable$Seats", "<init>", "()V"⟩ : MethodName), "LeafTable"),
  ("LeafTable$Plans", 81, (⟨"LeafTable", "figureAt", "(III)I"⟩ : MethodName), "LeafTable"),
  ("LeafTable$Dinners", 43, (⟨"LeafTable", "figureAt", "(III)I"⟩ : MethodName), "LeafTable")]
set_option maxRecDepth 20000 in
theorem pm_cw0 : Cond.code (pm_m 0).1 (pm_m 0).2.1 (pm_m 0).2.2.1 (pm_m 0).2.2.2 ∈ wAll := wIn 385 rfl rfl
set_option maxRecDepth 20000 in
theorem pm_cw1 : Cond.code (pm_m 1).1 (pm_m 1).2.1 (pm_m 1).2.2.1 (pm_m 1).2.2.2 ∈ wAll := wIn 427 rfl rfl
set_option maxRecDepth 20000 in
theorem pm_cw2 : Cond.code (pm_m 2).1 (pm_m 2).2.1 (pm_m 2).2.2.1 (pm_m 2).2.2.2 ∈ wAll := wIn 389 rfl rfl
set_option maxRecDepth 20000 in
theorem pm_cw3 : Cond.code (pm_m 3).1 (pm_m 3).2.1 (pm_m 3).2.2.1 (pm_m 3).2.2.2 ∈ wAll := wIn 528 rfl rfl
set_option maxRecDepth 20000 in
theorem pm_cw4 : Cond.code (pm_m 4).1 (pm_m 4).2.1 (pm_m 4).2.2.1 (pm_m 4).2.2.2 ∈ wAll := wIn 539 rfl rfl
set_option maxRecDepth 20000 in
theorem pm_cw5 : Cond.code (pm_m 5).1 (pm_m 5).2.1 (pm_m 5).2.2.1 (pm_m 5).2.2.2 ∈ wAll := wIn 533 rfl rfl
set_option maxRecDepth 20000 in
theorem pm_cw6 : Cond.code (pm_m 6).1 (pm_m 6).2.1 (pm_m 6).2.2.1 (pm_m 6).2.2.2 ∈ wAll := wIn 623 rfl rfl
set_option maxRecDepth 20000 in
theorem pm_cw7 : Cond.code (pm_m 7).1 (pm_m 7).2.1 (pm_m 7).2.2.1 (pm_m 7).2.2.2 ∈ wAll := wIn 627 rfl rfl
set_option maxRecDepth 20000 in
theorem pm_cw8 : Cond.code (pm_m 8).1 (pm_m 8).2.1 (pm_m 8).2.2.1 (pm_m 8).2.2.2 ∈ wAll := wIn 633 rfl rfl
set_option maxRecDepth 20000 in
theorem pm_cw9 : Cond.code (pm_m 9).1 (pm_m 9).2.1 (pm_m 9).2.2.1 (pm_m 9).2.2.2 ∈ wAll := wIn 545 rfl rfl
set_option maxRecDepth 20000 in
theorem pm_cw10 : Cond.code (pm_m 10).1 (pm_m 10).2.1 (pm_m 10).2.2.1 (pm_m 10).2.2.2 ∈ wAll := wIn 549 rfl rfl
set_option maxRecDepth 20000 in
theorem pm_cw11 : Cond.code (pm_m 11).1 (pm_m 11).2.1 (pm_m 11).2.2.1 (pm_m 11).2.2.2 ∈ wAll := wIn 579 rfl rfl
set_option maxRecDepth 20000 in
theorem pm_cw12 : Cond.code (pm_m 12).1 (pm_m 12).2.1 (pm_m 12).2.2.1 (pm_m 12).2.2.2 ∈ wAll := wIn 591 rfl rfl
set_option maxRecDepth 20000 in
theorem pm_cw13 : Cond.code (pm_m 13).1 (pm_m 13).2.1 (pm_m 13).2.2.1 (pm_m 13).2.2.2 ∈ wAll := wIn 604 rfl rfl
set_option maxRecDepth 20000 in
theorem pm_cw14 : Cond.code (pm_m 14).1 (pm_m 14).2.1 (pm_m 14).2.2.1 (pm_m 14).2.2.2 ∈ wAll := wIn 594 rfl rfl
set_option maxRecDepth 20000 in
theorem pm_cw15 : Cond.code (pm_m 15).1 (pm_m 15).2.1 (pm_m 15).2.2.1 (pm_m 15).2.2.2 ∈ wAll := wIn 599 rfl rfl
set_option maxRecDepth 20000 in
theorem pm_cw16 : Cond.code (pm_m 16).1 (pm_m 16).2.1 (pm_m 16).2.2.1 (pm_m 16).2.2.2 ∈ wAll := wIn 443 rfl rfl
set_option maxRecDepth 20000 in
theorem pm_cw17 : Cond.code (pm_m 17).1 (pm_m 17).2.1 (pm_m 17).2.2.1 (pm_m 17).2.2.2 ∈ wAll := wIn 439 rfl rfl
set_option maxRecDepth 20000 in
theorem pm_cw18 : Cond.code (pm_m 18).1 (pm_m 18).2.1 (pm_m 18).2.2.1 (pm_m 18).2.2.2 ∈ wAll := wIn 447 rfl rfl
set_option maxRecDepth 20000 in
theorem pm_cw19 : Cond.code (pm_m 19).1 (pm_m 19).2.1 (pm_m 19).2.2.1 (pm_m 19).2.2.2 ∈ wAll := wIn 457 rfl rfl
set_option maxRecDepth 20000 in
theorem pm_cw20 : Cond.code (pm_m 20).1 (pm_m 20).2.1 (pm_m 20).2.2.1 (pm_m 20).2.2.2 ∈ wAll := wIn 466 rfl rfl
set_option maxRecDepth 20000 in
theorem pm_cw21 : Cond.code (pm_m 21).1 (pm_m 21).2.1 (pm_m 21).2.2.1 (pm_m 21).2.2.2 ∈ wAll := wIn 469 rfl rfl
set_option maxRecDepth 20000 in
theorem pm_cw22 : Cond.code (pm_m 22).1 (pm_m 22).2.1 (pm_m 22).2.2.1 (pm_m 22).2.2.2 ∈ wAll := wIn 473 rfl rfl
set_option maxRecDepth 20000 in
theorem pm_cw23 : Cond.code (pm_m 23).1 (pm_m 23).2.1 (pm_m 23).2.2.1 (pm_m 23).2.2.2 ∈ wAll := wIn 508 rfl rfl
set_option maxRecDepth 20000 in
theorem pm_cw24 : Cond.code (pm_m 24).1 (pm_m 24).2.1 (pm_m 24).2.2.1 (pm_m 24).2.2.2 ∈ wAll := wIn 515 rfl rfl
set_option maxRecDepth 20000 in
theorem pm_cw25 : Cond.code (pm_m 25).1 (pm_m 25).2.1 (pm_m 25).2.2.1 (pm_m 25).2.2.2 ∈ wAll := wIn 612 rfl rfl
set_option maxRecDepth 20000 in
theorem pm_cw26 : Cond.code (pm_m 26).1 (pm_m 26).2.1 (pm_m 26).2.2.1 (pm_m 26).2.2.2 ∈ wAll := wIn 615 rfl rfl
set_option maxRecDepth 20000 in
theorem pm_cw27 : Cond.code (pm_m 27).1 (pm_m 27).2.1 (pm_m 27).2.2.1 (pm_m 27).2.2.2 ∈ wAll := wIn 393 rfl rfl
set_option maxRecDepth 20000 in
theorem pm_cw28 : Cond.code (pm_m 28).1 (pm_m 28).2.1 (pm_m 28).2.2.1 (pm_m 28).2.2.2 ∈ wAll := wIn 344 rfl rfl
set_option maxRecDepth 20000 in
theorem pm_cw29 : Cond.code (pm_m 29).1 (pm_m 29).2.1 (pm_m 29).2.2.1 (pm_m 29).2.2.2 ∈ wAll := wIn 328 rfl rfl
set_option maxRecDepth 20000 in
theorem pm_cw30 : Cond.code (pm_m 30).1 (pm_m 30).2.1 (pm_m 30).2.2.1 (pm_m 30).2.2.2 ∈ wAll := wIn 354 rfl rfl
set_option maxRecDepth 20000 in
theorem pm_cw31 : Cond.code (pm_m 31).1 (pm_m 31).2.1 (pm_m 31).2.2.1 (pm_m 31).2.2.2 ∈ wAll := wIn 435 rfl rfl
set_option maxRecDepth 20000 in
theorem pm_cw32 : Cond.code (pm_m 32).1 (pm_m 32).2.1 (pm_m 32).2.2.1 (pm_m 32).2.2.2 ∈ wAll := wIn 370 rfl rfl
set_option maxRecDepth 20000 in
theorem pm_cw33 : Cond.code (pm_m 33).1 (pm_m 33).2.1 (pm_m 33).2.2.1 (pm_m 33).2.2.2 ∈ wAll := wIn 397 rfl rfl
set_option maxRecDepth 20000 in
theorem pm_cw34 : Cond.code (pm_m 34).1 (pm_m 34).2.1 (pm_m 34).2.2.1 (pm_m 34).2.2.2 ∈ wAll := wIn 483 rfl rfl
set_option maxRecDepth 20000 in
theorem pm_cw35 : Cond.code (pm_m 35).1 (pm_m 35).2.1 (pm_m 35).2.2.1 (pm_m 35).2.2.2 ∈ wAll := wIn 405 rfl rfl
set_option maxRecDepth 20000 in
theorem pm_cw36 : Cond.code (pm_m 36).1 (pm_m 36).2.1 (pm_m 36).2.2.1 (pm_m 36).2.2.2 ∈ wAll := wIn 419 rfl rfl
set_option maxRecDepth 20000 in
theorem pm_cw37 : Cond.code (pm_m 37).1 (pm_m 37).2.1 (pm_m 37).2.2.1 (pm_m 37).2.2.2 ∈ wAll := wIn 358 rfl rfl
set_option maxRecDepth 20000 in
theorem pm_cw38 : Cond.code (pm_m 38).1 (pm_m 38).2.1 (pm_m 38).2.2.1 (pm_m 38).2.2.2 ∈ wAll := wIn 477 rfl rfl
set_option maxRecDepth 20000 in
theorem pm_cw39 : Cond.code (pm_m 39).1 (pm_m 39).2.1 (pm_m 39).2.2.1 (pm_m 39).2.2.2 ∈ wAll := wIn 561 rfl rfl
set_option maxRecDepth 20000 in
theorem pm_cw40 : Cond.code (pm_m 40).1 (pm_m 40).2.1 (pm_m 40).2.2.1 (pm_m 40).2.2.2 ∈ wAll := wIn 519 rfl rfl
set_option maxRecDepth 20000 in
theorem pm_cw41 : Cond.code (pm_m 41).1 (pm_m 41).2.1 (pm_m 41).2.2.1 (pm_m 41).2.2.2 ∈ wAll := wIn 362 rfl rfl
set_option maxRecDepth 20000 in
theorem pm_cw42 : Cond.code (pm_m 42).1 (pm_m 42).2.1 (pm_m 42).2.2.1 (pm_m 42).2.2.2 ∈ wAll := wIn 381 rfl rfl
set_option maxRecDepth 20000 in
theorem pm_cw43 : Cond.code (pm_m 43).1 (pm_m 43).2.1 (pm_m 43).2.2.1 (pm_m 43).2.2.2 ∈ wAll := wIn 375 rfl rfl
set_option maxRecDepth 20000 in
theorem pm_cw44 : Cond.code (pm_m 44).1 (pm_m 44).2.1 (pm_m 44).2.2.1 (pm_m 44).2.2.2 ∈ wAll := wIn 276 rfl rfl
set_option maxRecDepth 20000 in
theorem pm_cw45 : Cond.code (pm_m 45).1 (pm_m 45).2.1 (pm_m 45).2.2.1 (pm_m 45).2.2.2 ∈ wAll := wIn 288 rfl rfl
set_option maxRecDepth 20000 in
theorem pm_cw46 : Cond.code (pm_m 46).1 (pm_m 46).2.1 (pm_m 46).2.2.1 (pm_m 46).2.2.2 ∈ wAll := wIn 333 rfl rfl
set_option maxRecDepth 20000 in
theorem pm_cw47 : Cond.code (pm_m 47).1 (pm_m 47).2.1 (pm_m 47).2.2.1 (pm_m 47).2.2.2 ∈ wAll := wIn 304 rfl rfl
set_option maxRecDepth 20000 in
theorem pm_cw48 : Cond.code (pm_m 48).1 (pm_m 48).2.1 (pm_m 48).2.2.1 (pm_m 48).2.2.2 ∈ wAll := wIn 320 rfl rfl
set_option maxRecDepth 20000 in
theorem pm_cw49 : Cond.code (pm_m 49).1 (pm_m 49).2.1 (pm_m 49).2.2.1 (pm_m 49).2.2.2 ∈ wAll := wIn 340 rfl rfl
set_option maxRecDepth 20000 in
theorem pm_cw50 : Cond.code (pm_m 50).1 (pm_m 50).2.1 (pm_m 50).2.2.1 (pm_m 50).2.2.2 ∈ wAll := wIn 296 rfl rfl
set_option maxRecDepth 20000 in
theorem pm_cw51 : Cond.code (pm_m 51).1 (pm_m 51).2.1 (pm_m 51).2.2.1 (pm_m 51).2.2.2 ∈ wAll := wIn 300 rfl rfl
set_option maxRecDepth 20000 in
theorem pm_cw52 : Cond.code (pm_m 52).1 (pm_m 52).2.1 (pm_m 52).2.2.1 (pm_m 52).2.2.2 ∈ wAll := wIn 292 rfl rfl
set_option maxRecDepth 20000 in
theorem pm_cw53 : Cond.code (pm_m 53).1 (pm_m 53).2.1 (pm_m 53).2.2.1 (pm_m 53).2.2.2 ∈ wAll := wIn 308 rfl rfl
set_option maxRecDepth 20000 in
theorem pm_cw54 : Cond.code (pm_m 54).1 (pm_m 54).2.1 (pm_m 54).2.2.1 (pm_m 54).2.2.2 ∈ wAll := wIn 312 rfl rfl
set_option maxRecDepth 20000 in
theorem pm_cw55 : Cond.code (pm_m 55).1 (pm_m 55).2.1 (pm_m 55).2.2.1 (pm_m 55).2.2.2 ∈ wAll := wIn 316 rfl rfl
set_option maxRecDepth 20000 in
theorem pm_cw56 : Cond.code (pm_m 56).1 (pm_m 56).2.1 (pm_m 56).2.2.1 (pm_m 56).2.2.2 ∈ wAll := wIn 272 rfl rfl
set_option maxRecDepth 20000 in
theorem pm_cw57 : Cond.code (pm_m 57).1 (pm_m 57).2.1 (pm_m 57).2.2.1 (pm_m 57).2.2.2 ∈ wAll := wIn 280 rfl rfl
set_option maxRecDepth 20000 in
theorem pm_cw58 : Cond.code (pm_m 58).1 (pm_m 58).2.1 (pm_m 58).2.2.1 (pm_m 58).2.2.2 ∈ wAll := wIn 284 rfl rfl
set_option maxRecDepth 20000 in
theorem pm_cw59 : Cond.code (pm_m 59).1 (pm_m 59).2.1 (pm_m 59).2.2.1 (pm_m 59).2.2.2 ∈ wAll := wIn 324 rfl rfl
set_option maxRecDepth 20000 in
theorem pm_cw60 : Cond.code (pm_m 60).1 (pm_m 60).2.1 (pm_m 60).2.2.1 (pm_m 60).2.2.2 ∈ wAll := wIn 350 rfl rfl
set_option maxRecDepth 20000 in
theorem pm_cw61 : Cond.code (pm_m 61).1 (pm_m 61).2.1 (pm_m 61).2.2.1 (pm_m 61).2.2.2 ∈ wAll := wIn 366 rfl rfl
set_option maxRecDepth 20000 in
theorem pm_cw62 : Cond.code (pm_m 62).1 (pm_m 62).2.1 (pm_m 62).2.2.1 (pm_m 62).2.2.2 ∈ wAll := wIn 401 rfl rfl
set_option maxRecDepth 20000 in
theorem pm_cw63 : Cond.code (pm_m 63).1 (pm_m 63).2.1 (pm_m 63).2.2.1 (pm_m 63).2.2.2 ∈ wAll := wIn 415 rfl rfl
set_option maxRecDepth 20000 in
theorem pm_cw64 : Cond.code (pm_m 64).1 (pm_m 64).2.1 (pm_m 64).2.2.1 (pm_m 64).2.2.2 ∈ wAll := wIn 423 rfl rfl
set_option maxRecDepth 20000 in
theorem pm_cw65 : Cond.code (pm_m 65).1 (pm_m 65).2.1 (pm_m 65).2.2.1 (pm_m 65).2.2.2 ∈ wAll := wIn 431 rfl rfl
set_option maxRecDepth 20000 in
theorem pm_cw66 : Cond.code (pm_m 66).1 (pm_m 66).2.1 (pm_m 66).2.2.1 (pm_m 66).2.2.2 ∈ wAll := wIn 462 rfl rfl
set_option maxRecDepth 20000 in
theorem pm_cw67 : Cond.code (pm_m 67).1 (pm_m 67).2.1 (pm_m 67).2.2.1 (pm_m 67).2.2.2 ∈ wAll := wIn 497 rfl rfl
set_option maxRecDepth 20000 in
theorem pm_cw68 : Cond.code (pm_m 68).1 (pm_m 68).2.1 (pm_m 68).2.2.1 (pm_m 68).2.2.2 ∈ wAll := wIn 501 rfl rfl
set_option maxRecDepth 20000 in
theorem pm_cw69 : Cond.code (pm_m 69).1 (pm_m 69).2.1 (pm_m 69).2.2.1 (pm_m 69).2.2.2 ∈ wAll := wIn 524 rfl rfl
set_option maxRecDepth 20000 in
theorem pm_cw70 : Cond.code (pm_m 70).1 (pm_m 70).2.1 (pm_m 70).2.2.1 (pm_m 70).2.2.2 ∈ wAll := wIn 553 rfl rfl
set_option maxRecDepth 20000 in
theorem pm_cw71 : Cond.code (pm_m 71).1 (pm_m 71).2.1 (pm_m 71).2.2.1 (pm_m 71).2.2.2 ∈ wAll := wIn 571 rfl rfl
set_option maxRecDepth 20000 in
theorem pm_cw72 : Cond.code (pm_m 72).1 (pm_m 72).2.1 (pm_m 72).2.2.1 (pm_m 72).2.2.2 ∈ wAll := wIn 575 rfl rfl
set_option maxRecDepth 20000 in
theorem pm_cw73 : Cond.code (pm_m 73).1 (pm_m 73).2.1 (pm_m 73).2.2.1 (pm_m 73).2.2.2 ∈ wAll := wIn 583 rfl rfl
set_option maxRecDepth 20000 in
theorem pm_cw74 : Cond.code (pm_m 74).1 (pm_m 74).2.1 (pm_m 74).2.2.1 (pm_m 74).2.2.2 ∈ wAll := wIn 587 rfl rfl
set_option maxRecDepth 20000 in
theorem pm_cw75 : Cond.code (pm_m 75).1 (pm_m 75).2.1 (pm_m 75).2.2.1 (pm_m 75).2.2.2 ∈ wAll := wIn 608 rfl rfl
set_option maxRecDepth 20000 in
theorem pm_cw76 : Cond.code (pm_m 76).1 (pm_m 76).2.1 (pm_m 76).2.2.1 (pm_m 76).2.2.2 ∈ wAll := wIn 619 rfl rfl
set_option maxRecDepth 20000 in
theorem pm_cw77 : Cond.code (pm_m 77).1 (pm_m 77).2.1 (pm_m 77).2.2.1 (pm_m 77).2.2.2 ∈ wAll := wIn 638 rfl rfl
set_option maxRecDepth 20000 in
theorem pm_cw78 : Cond.code (pm_m 78).1 (pm_m 78).2.1 (pm_m 78).2.2.1 (pm_m 78).2.2.2 ∈ wAll := wIn 642 rfl rfl
set_option maxRecDepth 20000 in
theorem pm_cw79 : Cond.code (pm_m 79).1 (pm_m 79).2.1 (pm_m 79).2.2.1 (pm_m 79).2.2.2 ∈ wAll := wIn 651 rfl rfl
set_option maxRecDepth 20000 in
theorem pm_cw80 : Cond.code (pm_m 80).1 (pm_m 80).2.1 (pm_m 80).2.2.1 (pm_m 80).2.2.2 ∈ wAll := wIn 656 rfl rfl
set_option maxRecDepth 20000 in
theorem pm_cw81 : Cond.code (pm_m 81).1 (pm_m 81).2.1 (pm_m 81).2.2.1 (pm_m 81).2.2.2 ∈ wAll := wIn 660 rfl rfl
set_option maxRecDepth 20000 in
theorem pm_cw82 : Cond.code (pm_m 82).1 (pm_m 82).2.1 (pm_m 82).2.2.1 (pm_m 82).2.2.2 ∈ wAll := wIn 488 rfl rfl
set_option maxRecDepth 20000 in
theorem pm_cw83 : Cond.code (pm_m 83).1 (pm_m 83).2.1 (pm_m 83).2.2.1 (pm_m 83).2.2.2 ∈ wAll := wIn 491 rfl rfl
set_option maxRecDepth 20000 in
theorem pm_cw84 : Cond.code (pm_m 84).1 (pm_m 84).2.1 (pm_m 84).2.2.1 (pm_m 84).2.2.2 ∈ wAll := wIn 504 rfl rfl
set_option maxRecDepth 20000 in
theorem pm_cw85 : Cond.code (pm_m 85).1 (pm_m 85).2.1 (pm_m 85).2.2.1 (pm_m 85).2.2.2 ∈ wAll := wIn 511 rfl rfl
set_option maxRecDepth 20000 in
theorem pm_cw86 : Cond.code (pm_m 86).1 (pm_m 86).2.1 (pm_m 86).2.2.1 (pm_m 86).2.2.2 ∈ wAll := wIn 556 rfl rfl
set_option maxRecDepth 20000 in
theorem pm_cw87 : Cond.code (pm_m 87).1 (pm_m 87).2.1 (pm_m 87).2.2.1 (pm_m 87).2.2.2 ∈ wAll := wIn 564 rfl rfl
set_option maxRecDepth 20000 in
theorem pm_cw88 : Cond.code (pm_m 88).1 (pm_m 88).2.1 (pm_m 88).2.2.1 (pm_m 88).2.2.2 ∈ wAll := wIn 768 rfl rfl
set_option maxRecDepth 20000 in
theorem pm_cw89 : Cond.code (pm_m 89).1 (pm_m 89).2.1 (pm_m 89).2.2.1 (pm_m 89).2.2.2 ∈ wAll := wIn 824 rfl rfl
set_option maxRecDepth 20000 in
theorem pm_cw90 : Cond.code (pm_m 90).1 (pm_m 90).2.1 (pm_m 90).2.2.1 (pm_m 90).2.2.2 ∈ wAll := wIn 879 rfl rfl
set_option maxRecDepth 20000 in
theorem pm_cw91 : Cond.code (pm_m 91).1 (pm_m 91).2.1 (pm_m 91).2.2.1 (pm_m 91).2.2.2 ∈ wAll := wIn 764 rfl rfl
set_option maxRecDepth 20000 in
theorem pm_cw92 : Cond.code (pm_m 92).1 (pm_m 92).2.1 (pm_m 92).2.2.1 (pm_m 92).2.2.2 ∈ wAll := wIn 772 rfl rfl
set_option maxRecDepth 20000 in
theorem pm_cw93 : Cond.code (pm_m 93).1 (pm_m 93).2.1 (pm_m 93).2.2.1 (pm_m 93).2.2.2 ∈ wAll := wIn 784 rfl rfl
set_option maxRecDepth 20000 in
theorem pm_cw94 : Cond.code (pm_m 94).1 (pm_m 94).2.1 (pm_m 94).2.2.1 (pm_m 94).2.2.2 ∈ wAll := wIn 801 rfl rfl
set_option maxRecDepth 20000 in
theorem pm_cw95 : Cond.code (pm_m 95).1 (pm_m 95).2.1 (pm_m 95).2.2.1 (pm_m 95).2.2.2 ∈ wAll := wIn 797 rfl rfl
set_option maxRecDepth 20000 in
theorem pm_cw96 : Cond.code (pm_m 96).1 (pm_m 96).2.1 (pm_m 96).2.2.1 (pm_m 96).2.2.2 ∈ wAll := wIn 792 rfl rfl
set_option maxRecDepth 20000 in
theorem pm_cw97 : Cond.code (pm_m 97).1 (pm_m 97).2.1 (pm_m 97).2.2.1 (pm_m 97).2.2.2 ∈ wAll := wIn 780 rfl rfl
set_option maxRecDepth 20000 in
theorem pm_cw98 : Cond.code (pm_m 98).1 (pm_m 98).2.1 (pm_m 98).2.2.1 (pm_m 98).2.2.2 ∈ wAll := wIn 788 rfl rfl
set_option maxRecDepth 20000 in
theorem pm_cw99 : Cond.code (pm_m 99).1 (pm_m 99).2.1 (pm_m 99).2.2.1 (pm_m 99).2.2.2 ∈ wAll := wIn 776 rfl rfl
set_option maxRecDepth 20000 in
theorem pm_cw100 : Cond.code (pm_m 100).1 (pm_m 100).2.1 (pm_m 100).2.2.1 (pm_m 100).2.2.2 ∈ wAll := wIn 805 rfl rfl
set_option maxRecDepth 20000 in
theorem pm_cw101 : Cond.code (pm_m 101).1 (pm_m 101).2.1 (pm_m 101).2.2.1 (pm_m 101).2.2.2 ∈ wAll := wIn 813 rfl rfl
set_option maxRecDepth 20000 in
theorem pm_cw102 : Cond.code (pm_m 102).1 (pm_m 102).2.1 (pm_m 102).2.2.1 (pm_m 102).2.2.2 ∈ wAll := wIn 821 rfl rfl
set_option maxRecDepth 20000 in
theorem pm_cw103 : Cond.code (pm_m 103).1 (pm_m 103).2.1 (pm_m 103).2.2.1 (pm_m 103).2.2.2 ∈ wAll := wIn 817 rfl rfl
set_option maxRecDepth 20000 in
theorem pm_cw104 : Cond.code (pm_m 104).1 (pm_m 104).2.1 (pm_m 104).2.2.1 (pm_m 104).2.2.2 ∈ wAll := wIn 809 rfl rfl
set_option maxRecDepth 20000 in
theorem pm_cw105 : Cond.code (pm_m 105).1 (pm_m 105).2.1 (pm_m 105).2.2.1 (pm_m 105).2.2.2 ∈ wAll := wIn 836 rfl rfl
set_option maxRecDepth 20000 in
theorem pm_cw106 : Cond.code (pm_m 106).1 (pm_m 106).2.1 (pm_m 106).2.2.1 (pm_m 106).2.2.2 ∈ wAll := wIn 840 rfl rfl
set_option maxRecDepth 20000 in
theorem pm_cw107 : Cond.code (pm_m 107).1 (pm_m 107).2.1 (pm_m 107).2.2.1 (pm_m 107).2.2.2 ∈ wAll := wIn 832 rfl rfl
set_option maxRecDepth 20000 in
theorem pm_cw108 : Cond.code (pm_m 108).1 (pm_m 108).2.1 (pm_m 108).2.2.1 (pm_m 108).2.2.2 ∈ wAll := wIn 848 rfl rfl
set_option maxRecDepth 20000 in
theorem pm_cw109 : Cond.code (pm_m 109).1 (pm_m 109).2.1 (pm_m 109).2.2.1 (pm_m 109).2.2.2 ∈ wAll := wIn 856 rfl rfl
set_option maxRecDepth 20000 in
theorem pm_cw110 : Cond.code (pm_m 110).1 (pm_m 110).2.1 (pm_m 110).2.2.1 (pm_m 110).2.2.2 ∈ wAll := wIn 864 rfl rfl
set_option maxRecDepth 20000 in
theorem pm_cw111 : Cond.code (pm_m 111).1 (pm_m 111).2.1 (pm_m 111).2.2.1 (pm_m 111).2.2.2 ∈ wAll := wIn 844 rfl rfl
set_option maxRecDepth 20000 in
theorem pm_cw112 : Cond.code (pm_m 112).1 (pm_m 112).2.1 (pm_m 112).2.2.1 (pm_m 112).2.2.2 ∈ wAll := wIn 828 rfl rfl
set_option maxRecDepth 20000 in
theorem pm_cw113 : Cond.code (pm_m 113).1 (pm_m 113).2.1 (pm_m 113).2.2.1 (pm_m 113).2.2.2 ∈ wAll := wIn 852 rfl rfl
set_option maxRecDepth 20000 in
theorem pm_cw114 : Cond.code (pm_m 114).1 (pm_m 114).2.1 (pm_m 114).2.2.1 (pm_m 114).2.2.2 ∈ wAll := wIn 860 rfl rfl
set_option maxRecDepth 20000 in
theorem pm_cw115 : Cond.code (pm_m 115).1 (pm_m 115).2.1 (pm_m 115).2.2.1 (pm_m 115).2.2.2 ∈ wAll := wIn 868 rfl rfl
set_option maxRecDepth 20000 in
theorem pm_cw116 : Cond.code (pm_m 116).1 (pm_m 116).2.1 (pm_m 116).2.2.1 (pm_m 116).2.2.2 ∈ wAll := wIn 886 rfl rfl
set_option maxRecDepth 20000 in
theorem pm_cw117 : Cond.code (pm_m 117).1 (pm_m 117).2.1 (pm_m 117).2.2.1 (pm_m 117).2.2.2 ∈ wAll := wIn 882 rfl rfl
set_option maxRecDepth 20000 in
theorem pm_cw118 : Cond.code (pm_m 118).1 (pm_m 118).2.1 (pm_m 118).2.2.1 (pm_m 118).2.2.2 ∈ wAll := wIn 889 rfl rfl
set_option maxRecDepth 20000 in
theorem pm_cw119 : Cond.code (pm_m 119).1 (pm_m 119).2.1 (pm_m 119).2.2.1 (pm_m 119).2.2.2 ∈ wAll := wIn 892 rfl rfl
set_option maxRecDepth 20000 in
theorem pm_cw120 : Cond.code (pm_m 120).1 (pm_m 120).2.1 (pm_m 120).2.2.1 (pm_m 120).2.2.2 ∈ wAll := wIn 876 rfl rfl
set_option maxRecDepth 20000 in
theorem pm_cw121 : Cond.code (pm_m 121).1 (pm_m 121).2.1 (pm_m 121).2.2.1 (pm_m 121).2.2.2 ∈ wAll := wIn 872 rfl rfl
set_option maxRecDepth 20000 in
theorem pm_cw122 : Cond.code (pm_m 122).1 (pm_m 122).2.1 (pm_m 122).2.2.1 (pm_m 122).2.2.2 ∈ wAll := wIn 905 rfl rfl
set_option maxRecDepth 20000 in
theorem pm_cw123 : Cond.code (pm_m 123).1 (pm_m 123).2.1 (pm_m 123).2.2.1 (pm_m 123).2.2.2 ∈ wAll := wIn 901 rfl rfl
set_option maxRecDepth 20000 in
theorem pm_cw124 : Cond.code (pm_m 124).1 (pm_m 124).2.1 (pm_m 124).2.2.1 (pm_m 124).2.2.2 ∈ wAll := wIn 896 rfl rfl
set_option maxRecDepth 20000 in
theorem pm_cw125 : Cond.code (pm_m 125).1 (pm_m 125).2.1 (pm_m 125).2.2.1 (pm_m 125).2.2.2 ∈ wAll := wIn 909 rfl rfl
set_option maxRecDepth 20000 in
theorem pm_cw126 : Cond.code (pm_m 126).1 (pm_m 126).2.1 (pm_m 126).2.2.1 (pm_m 126).2.2.2 ∈ wAll := wIn 922 rfl rfl
set_option maxRecDepth 20000 in
theorem pm_cw127 : Cond.code (pm_m 127).1 (pm_m 127).2.1 (pm_m 127).2.2.1 (pm_m 127).2.2.2 ∈ wAll := wIn 918 rfl rfl
set_option maxRecDepth 20000 in
theorem pm_cw128 : Cond.code (pm_m 128).1 (pm_m 128).2.1 (pm_m 128).2.2.1 (pm_m 128).2.2.2 ∈ wAll := wIn 913 rfl rfl
set_option maxRecDepth 20000 in
theorem pm_cw129 : Cond.code (pm_m 129).1 (pm_m 129).2.1 (pm_m 129).2.2.1 (pm_m 129).2.2.2 ∈ wAll := wIn 929 rfl rfl
set_option maxRecDepth 20000 in
theorem pm_cw130 : Cond.code (pm_m 130).1 (pm_m 130).2.1 (pm_m 130).2.2.1 (pm_m 130).2.2.2 ∈ wAll := wIn 932 rfl rfl
set_option maxRecDepth 20000 in
theorem pm_cw131 : Cond.code (pm_m 131).1 (pm_m 131).2.1 (pm_m 131).2.2.1 (pm_m 131).2.2.2 ∈ wAll := wIn 926 rfl rfl
set_option maxRecDepth 20000 in
theorem pm_cw132 : Cond.code (pm_m 132).1 (pm_m 132).2.1 (pm_m 132).2.2.1 (pm_m 132).2.2.2 ∈ wAll := wIn 939 rfl rfl
set_option maxRecDepth 20000 in
theorem pm_cw133 : Cond.code (pm_m 133).1 (pm_m 133).2.1 (pm_m 133).2.2.1 (pm_m 133).2.2.2 ∈ wAll := wIn 943 rfl rfl
set_option maxRecDepth 20000 in
theorem pm_cw134 : Cond.code (pm_m 134).1 (pm_m 134).2.1 (pm_m 134).2.2.1 (pm_m 134).2.2.2 ∈ wAll := wIn 946 rfl rfl
set_option maxRecDepth 20000 in
theorem pm_cw135 : Cond.code (pm_m 135).1 (pm_m 135).2.1 (pm_m 135).2.2.1 (pm_m 135).2.2.2 ∈ wAll := wIn 936 rfl rfl
set_option maxRecDepth 20000 in
theorem pm_cw136 : Cond.code (pm_m 136).1 (pm_m 136).2.1 (pm_m 136).2.2.1 (pm_m 136).2.2.2 ∈ wAll := wIn 950 rfl rfl
set_option maxRecDepth 20000 in
theorem pm_cw137 : Cond.code (pm_m 137).1 (pm_m 137).2.1 (pm_m 137).2.2.1 (pm_m 137).2.2.2 ∈ wAll := wIn 954 rfl rfl
set_option maxRecDepth 20000 in
theorem pm_cw138 : Cond.code (pm_m 138).1 (pm_m 138).2.1 (pm_m 138).2.2.1 (pm_m 138).2.2.2 ∈ wAll := wIn 961 rfl rfl
set_option maxRecDepth 20000 in
theorem pm_cw139 : Cond.code (pm_m 139).1 (pm_m 139).2.1 (pm_m 139).2.2.1 (pm_m 139).2.2.2 ∈ wAll := wIn 973 rfl rfl
set_option maxRecDepth 20000 in
theorem pm_cw140 : Cond.code (pm_m 140).1 (pm_m 140).2.1 (pm_m 140).2.2.1 (pm_m 140).2.2.2 ∈ wAll := wIn 970 rfl rfl
set_option maxRecDepth 20000 in
theorem pm_cw141 : Cond.code (pm_m 141).1 (pm_m 141).2.1 (pm_m 141).2.2.1 (pm_m 141).2.2.2 ∈ wAll := wIn 965 rfl rfl
set_option maxRecDepth 20000 in
theorem pm_cw142 : Cond.code (pm_m 142).1 (pm_m 142).2.1 (pm_m 142).2.2.1 (pm_m 142).2.2.2 ∈ wAll := wIn 982 rfl rfl
set_option maxRecDepth 20000 in
theorem pm_cw143 : Cond.code (pm_m 143).1 (pm_m 143).2.1 (pm_m 143).2.2.1 (pm_m 143).2.2.2 ∈ wAll := wIn 986 rfl rfl
set_option maxRecDepth 20000 in
theorem pm_cw144 : Cond.code (pm_m 144).1 (pm_m 144).2.1 (pm_m 144).2.2.1 (pm_m 144).2.2.2 ∈ wAll := wIn 977 rfl rfl
set_option maxRecDepth 20000 in
theorem pm_cw145 : Cond.code (pm_m 145).1 (pm_m 145).2.1 (pm_m 145).2.2.1 (pm_m 145).2.2.2 ∈ wAll := wIn 990 rfl rfl
set_option maxRecDepth 20000 in
theorem pm_cw146 : Cond.code (pm_m 146).1 (pm_m 146).2.1 (pm_m 146).2.2.1 (pm_m 146).2.2.2 ∈ wAll := wIn 995 rfl rfl
set_option maxRecDepth 20000 in
theorem pm_cw147 : Cond.code (pm_m 147).1 (pm_m 147).2.1 (pm_m 147).2.2.1 (pm_m 147).2.2.2 ∈ wAll := wIn 999 rfl rfl
set_option maxRecDepth 20000 in
theorem pm_cw148 : Cond.code (pm_m 148).1 (pm_m 148).2.1 (pm_m 148).2.2.1 (pm_m 148).2.2.2 ∈ wAll := wIn 1006 rfl rfl
set_option maxRecDepth 20000 in
theorem pm_cw149 : Cond.code (pm_m 149).1 (pm_m 149).2.1 (pm_m 149).2.2.1 (pm_m 149).2.2.2 ∈ wAll := wIn 1010 rfl rfl
set_option maxRecDepth 20000 in
theorem pm_cw150 : Cond.code (pm_m 150).1 (pm_m 150).2.1 (pm_m 150).2.2.1 (pm_m 150).2.2.2 ∈ wAll := wIn 1014 rfl rfl
set_option maxRecDepth 20000 in
theorem pm_cw151 : Cond.code (pm_m 151).1 (pm_m 151).2.1 (pm_m 151).2.2.1 (pm_m 151).2.2.2 ∈ wAll := wIn 450 rfl rfl
set_option maxRecDepth 20000 in
theorem pm_cw152 : Cond.code (pm_m 152).1 (pm_m 152).2.1 (pm_m 152).2.2.1 (pm_m 152).2.2.2 ∈ wAll := wIn 567 rfl rfl
set_option maxRecDepth 20000 in
theorem pm_cw153 : Cond.code (pm_m 153).1 (pm_m 153).2.1 (pm_m 153).2.2.1 (pm_m 153).2.2.2 ∈ wAll := wIn 408 rfl rfl
set_option maxRecDepth 20000 in
theorem pm_cw154 : Cond.code (pm_m 154).1 (pm_m 154).2.1 (pm_m 154).2.2.1 (pm_m 154).2.2.2 ∈ wAll := wIn 411 rfl rfl
set_option maxRecDepth 20000 in
theorem pm_cw155 : Cond.code (pm_m 155).1 (pm_m 155).2.1 (pm_m 155).2.2.1 (pm_m 155).2.2.2 ∈ wAll := wIn 336 rfl rfl
