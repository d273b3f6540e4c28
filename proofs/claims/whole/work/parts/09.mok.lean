set_option maxRecDepth 100000 in
theorem ok_J0_charAt_5068e : MOK mJ0_charAt_5068e := ⟨List.mem_filter.mpr ⟨List.mem_of_getElem? (i := 289) rfl, rfl⟩, List.mem_filter.mpr ⟨List.mem_of_getElem? (i := 38) (by decide +kernel), rfl⟩, by decide +kernel⟩
set_option maxRecDepth 100000 in
theorem ok_J0_checkIndex_df160 : MOK mJ0_checkIndex_df160 := ⟨List.mem_filter.mpr ⟨List.mem_of_getElem? (i := 299) rfl, rfl⟩, List.mem_filter.mpr ⟨List.mem_of_getElem? (i := 38) (by decide +kernel), rfl⟩, by decide +kernel⟩
set_option maxRecDepth 100000 in
theorem ok_J0_coder_7d493 : MOK mJ0_coder_7d493 := ⟨List.mem_filter.mpr ⟨List.mem_of_getElem? (i := 283) rfl, rfl⟩, List.mem_filter.mpr ⟨List.mem_of_getElem? (i := 38) (by decide +kernel), rfl⟩, by decide +kernel⟩
set_option maxRecDepth 100000 in
theorem ok_J0_isLatin1_aae02 : MOK mJ0_isLatin1_aae02 := ⟨List.mem_filter.mpr ⟨List.mem_of_getElem? (i := 293) rfl, rfl⟩, List.mem_filter.mpr ⟨List.mem_of_getElem? (i := 38) (by decide +kernel), rfl⟩, by decide +kernel⟩
set_option maxRecDepth 100000 in
theorem ok_J0_length_8abf5 : MOK mJ0_length_8abf5 := ⟨List.mem_filter.mpr ⟨List.mem_of_getElem? (i := 279) rfl, rfl⟩, List.mem_filter.mpr ⟨List.mem_of_getElem? (i := 38) (by decide +kernel), rfl⟩, by decide +kernel⟩
set_option maxRecDepth 100000 in
theorem ok_J1_charAt_3b067 : MOK mJ1_charAt_3b067 := ⟨List.mem_filter.mpr ⟨List.mem_of_getElem? (i := 296) rfl, rfl⟩, List.mem_filter.mpr ⟨List.mem_of_getElem? (i := 39) (by decide +kernel), rfl⟩, by decide +kernel⟩
set_option maxRecDepth 100000 in
theorem ok_J3_checkIndex_8e157 : MOK mJ3_checkIndex_8e157 := ⟨List.mem_filter.mpr ⟨List.mem_of_getElem? (i := 304) rfl, rfl⟩, List.mem_filter.mpr ⟨List.mem_of_getElem? (i := 40) (by decide +kernel), rfl⟩, by decide +kernel⟩
set_option maxRecDepth 100000 in
theorem ok_J6_bitCount_0f7a4 : MOK mJ6_bitCount_0f7a4 := ⟨List.mem_filter.mpr ⟨List.mem_of_getElem? (i := 464) rfl, rfl⟩, List.mem_filter.mpr ⟨List.mem_of_getElem? (i := 44) (by decide +kernel), rfl⟩, by decide +kernel⟩
set_option maxRecDepth 100000 in
theorem ok_J6_numberOfTrailingZeros_0f7a4 : MOK mJ6_numberOfTrailingZeros_0f7a4 := ⟨List.mem_filter.mpr ⟨List.mem_of_getElem? (i := 628) rfl, rfl⟩, List.mem_filter.mpr ⟨List.mem_of_getElem? (i := 44) (by decide +kernel), rfl⟩, by decide +kernel⟩
set_option maxRecDepth 100000 in
theorem ok_J6_signum_0f7a4 : MOK mJ6_signum_0f7a4 := ⟨List.mem_filter.mpr ⟨List.mem_of_getElem? (i := 424) rfl, rfl⟩, List.mem_filter.mpr ⟨List.mem_of_getElem? (i := 44) (by decide +kernel), rfl⟩, by decide +kernel⟩
set_option maxRecDepth 100000 in
theorem ok_X0_init : MOK mX0_init := ⟨List.mem_filter.mpr ⟨List.mem_of_getElem? (i := 101) rfl, rfl⟩, List.mem_filter.mpr ⟨List.mem_of_getElem? (i := 33) (by decide +kernel), rfl⟩, by decide +kernel⟩
set_option maxRecDepth 100000 in
theorem ok_X0_remember : MOK mX0_remember := ⟨List.mem_filter.mpr ⟨List.mem_of_getElem? (i := 353) rfl, rfl⟩, List.mem_filter.mpr ⟨List.mem_of_getElem? (i := 33) (by decide +kernel), rfl⟩, by decide +kernel⟩
set_option maxRecDepth 100000 in
theorem ok_X0_restore : MOK mX0_restore := ⟨List.mem_filter.mpr ⟨List.mem_of_getElem? (i := 513) rfl, rfl⟩, List.mem_filter.mpr ⟨List.mem_of_getElem? (i := 33) (by decide +kernel), rfl⟩, by decide +kernel⟩
set_option maxRecDepth 100000 in
theorem ok_X1_cheapestOf : MOK mX1_cheapestOf := ⟨List.mem_filter.mpr ⟨List.mem_of_getElem? (i := 483) rfl, rfl⟩, List.mem_filter.mpr ⟨List.mem_of_getElem? (i := 35) (by decide +kernel), rfl⟩, by decide +kernel⟩
set_option maxRecDepth 100000 in
theorem ok_X1_cheapestSet : MOK mX1_cheapestSet := ⟨List.mem_filter.mpr ⟨List.mem_of_getElem? (i := 575) rfl, rfl⟩, List.mem_filter.mpr ⟨List.mem_of_getElem? (i := 35) (by decide +kernel), rfl⟩, by decide +kernel⟩
set_option maxRecDepth 100000 in
theorem ok_X1_cutsFrom : MOK mX1_cutsFrom := ⟨List.mem_filter.mpr ⟨List.mem_of_getElem? (i := 487) rfl, rfl⟩, List.mem_filter.mpr ⟨List.mem_of_getElem? (i := 35) (by decide +kernel), rfl⟩, by decide +kernel⟩
set_option maxRecDepth 100000 in
theorem ok_X1_dear : MOK mX1_dear := ⟨List.mem_filter.mpr ⟨List.mem_of_getElem? (i := 579) rfl, rfl⟩, List.mem_filter.mpr ⟨List.mem_of_getElem? (i := 35) (by decide +kernel), rfl⟩, by decide +kernel⟩
set_option maxRecDepth 100000 in
theorem ok_X1_differsFrom : MOK mX1_differsFrom := ⟨List.mem_filter.mpr ⟨List.mem_of_getElem? (i := 501) rfl, rfl⟩, List.mem_filter.mpr ⟨List.mem_of_getElem? (i := 35) (by decide +kernel), rfl⟩, by decide +kernel⟩
set_option maxRecDepth 100000 in
theorem ok_X1_fewestBehind : MOK mX1_fewestBehind := ⟨List.mem_filter.mpr ⟨List.mem_of_getElem? (i := 479) rfl, rfl⟩, List.mem_filter.mpr ⟨List.mem_of_getElem? (i := 35) (by decide +kernel), rfl⟩, by decide +kernel⟩
set_option maxRecDepth 100000 in
theorem ok_X1_findBest : MOK mX1_findBest := ⟨List.mem_filter.mpr ⟨List.mem_of_getElem? (i := 461) rfl, rfl⟩, List.mem_filter.mpr ⟨List.mem_of_getElem? (i := 35) (by decide +kernel), rfl⟩, by decide +kernel⟩
set_option maxRecDepth 100000 in
theorem ok_X1_followersOf : MOK mX1_followersOf := ⟨List.mem_filter.mpr ⟨List.mem_of_getElem? (i := 453) rfl, rfl⟩, List.mem_filter.mpr ⟨List.mem_of_getElem? (i := 35) (by decide +kernel), rfl⟩, by decide +kernel⟩
set_option maxRecDepth 100000 in
theorem ok_X1_giveBestTo : MOK mX1_giveBestTo := ⟨List.mem_filter.mpr ⟨List.mem_of_getElem? (i := 505) rfl, rfl⟩, List.mem_filter.mpr ⟨List.mem_of_getElem? (i := 35) (by decide +kernel), rfl⟩, by decide +kernel⟩
set_option maxRecDepth 100000 in
theorem ok_X1_hasWholeEdit : MOK mX1_hasWholeEdit := ⟨List.mem_filter.mpr ⟨List.mem_of_getElem? (i := 471) rfl, rfl⟩, List.mem_filter.mpr ⟨List.mem_of_getElem? (i := 35) (by decide +kernel), rfl⟩, by decide +kernel⟩
set_option maxRecDepth 100000 in
theorem ok_X1_init : MOK mX1_init := ⟨List.mem_filter.mpr ⟨List.mem_of_getElem? (i := 150) rfl, rfl⟩, List.mem_filter.mpr ⟨List.mem_of_getElem? (i := 35) (by decide +kernel), rfl⟩, by decide +kernel⟩
set_option maxRecDepth 100000 in
theorem ok_X1_neededShots : MOK mX1_neededShots := ⟨List.mem_filter.mpr ⟨List.mem_of_getElem? (i := 590) rfl, rfl⟩, List.mem_filter.mpr ⟨List.mem_of_getElem? (i := 35) (by decide +kernel), rfl⟩, by decide +kernel⟩
set_option maxRecDepth 100000 in
theorem ok_X1_planTrial : MOK mX1_planTrial := ⟨List.mem_filter.mpr ⟨List.mem_of_getElem? (i := 475) rfl, rfl⟩, List.mem_filter.mpr ⟨List.mem_of_getElem? (i := 35) (by decide +kernel), rfl⟩, by decide +kernel⟩
set_option maxRecDepth 100000 in
theorem ok_X1_study : MOK mX1_study := ⟨List.mem_filter.mpr ⟨List.mem_of_getElem? (i := 409) rfl, rfl⟩, List.mem_filter.mpr ⟨List.mem_of_getElem? (i := 35) (by decide +kernel), rfl⟩, by decide +kernel⟩
set_option maxRecDepth 100000 in
theorem ok_X1_takeTrial : MOK mX1_takeTrial := ⟨List.mem_filter.mpr ⟨List.mem_of_getElem? (i := 496) rfl, rfl⟩, List.mem_filter.mpr ⟨List.mem_of_getElem? (i := 35) (by decide +kernel), rfl⟩, by decide +kernel⟩
set_option maxRecDepth 100000 in
theorem ok_X1_trialIsLower : MOK mX1_trialIsLower := ⟨List.mem_filter.mpr ⟨List.mem_of_getElem? (i := 492) rfl, rfl⟩, List.mem_filter.mpr ⟨List.mem_of_getElem? (i := 35) (by decide +kernel), rfl⟩, by decide +kernel⟩
set_option maxRecDepth 100000 in
theorem ok_X2_dropText : MOK mX2_dropText := ⟨List.mem_filter.mpr ⟨List.mem_of_getElem? (i := 249) rfl, rfl⟩, List.mem_filter.mpr ⟨List.mem_of_getElem? (i := 34) (by decide +kernel), rfl⟩, by decide +kernel⟩
set_option maxRecDepth 100000 in
theorem ok_X2_init : MOK mX2_init := ⟨List.mem_filter.mpr ⟨List.mem_of_getElem? (i := 121) rfl, rfl⟩, List.mem_filter.mpr ⟨List.mem_of_getElem? (i := 34) (by decide +kernel), rfl⟩, by decide +kernel⟩
set_option maxRecDepth 100000 in
theorem ok_X2_isWord : MOK mX2_isWord := ⟨List.mem_filter.mpr ⟨List.mem_of_getElem? (i := 275) rfl, rfl⟩, List.mem_filter.mpr ⟨List.mem_of_getElem? (i := 34) (by decide +kernel), rfl⟩, by decide +kernel⟩
set_option maxRecDepth 100000 in
theorem ok_X2_kindAt : MOK mX2_kindAt := ⟨List.mem_filter.mpr ⟨List.mem_of_getElem? (i := 266) rfl, rfl⟩, List.mem_filter.mpr ⟨List.mem_of_getElem? (i := 34) (by decide +kernel), rfl⟩, by decide +kernel⟩
set_option maxRecDepth 100000 in
theorem ok_X2_readInto : MOK mX2_readInto := ⟨List.mem_filter.mpr ⟨List.mem_of_getElem? (i := 257) rfl, rfl⟩, List.mem_filter.mpr ⟨List.mem_of_getElem? (i := 34) (by decide +kernel), rfl⟩, by decide +kernel⟩
set_option maxRecDepth 100000 in
theorem ok_X2_readItem : MOK mX2_readItem := ⟨List.mem_filter.mpr ⟨List.mem_of_getElem? (i := 270) rfl, rfl⟩, List.mem_filter.mpr ⟨List.mem_of_getElem? (i := 34) (by decide +kernel), rfl⟩, by decide +kernel⟩
set_option maxRecDepth 100000 in
theorem ok_X2_readLines : MOK mX2_readLines := ⟨List.mem_filter.mpr ⟨List.mem_of_getElem? (i := 340) rfl, rfl⟩, List.mem_filter.mpr ⟨List.mem_of_getElem? (i := 34) (by decide +kernel), rfl⟩, by decide +kernel⟩
set_option maxRecDepth 100000 in
theorem ok_X2_readPlayers : MOK mX2_readPlayers := ⟨List.mem_filter.mpr ⟨List.mem_of_getElem? (i := 327) rfl, rfl⟩, List.mem_filter.mpr ⟨List.mem_of_getElem? (i := 34) (by decide +kernel), rfl⟩, by decide +kernel⟩
set_option maxRecDepth 100000 in
theorem ok_X2_readShot : MOK mX2_readShot := ⟨List.mem_filter.mpr ⟨List.mem_of_getElem? (i := 345) rfl, rfl⟩, List.mem_filter.mpr ⟨List.mem_of_getElem? (i := 34) (by decide +kernel), rfl⟩, by decide +kernel⟩
set_option maxRecDepth 100000 in
theorem ok_X2_step : MOK mX2_step := ⟨List.mem_filter.mpr ⟨List.mem_of_getElem? (i := 262) rfl, rfl⟩, List.mem_filter.mpr ⟨List.mem_of_getElem? (i := 34) (by decide +kernel), rfl⟩, by decide +kernel⟩
set_option maxRecDepth 100000 in
theorem ok_X2_stepToFigure : MOK mX2_stepToFigure := ⟨List.mem_filter.mpr ⟨List.mem_of_getElem? (i := 331) rfl, rfl⟩, List.mem_filter.mpr ⟨List.mem_of_getElem? (i := 34) (by decide +kernel), rfl⟩, by decide +kernel⟩
set_option maxRecDepth 100000 in
theorem ok_X2_stepToStop : MOK mX2_stepToStop := ⟨List.mem_filter.mpr ⟨List.mem_of_getElem? (i := 335) rfl, rfl⟩, List.mem_filter.mpr ⟨List.mem_of_getElem? (i := 34) (by decide +kernel), rfl⟩, by decide +kernel⟩
set_option maxRecDepth 100000 in
theorem ok_X2_takeLetter : MOK mX2_takeLetter := ⟨List.mem_filter.mpr ⟨List.mem_of_getElem? (i := 241) rfl, rfl⟩, List.mem_filter.mpr ⟨List.mem_of_getElem? (i := 34) (by decide +kernel), rfl⟩, by decide +kernel⟩
set_option maxRecDepth 100000 in
theorem ok_X3_become : MOK mX3_become := ⟨List.mem_filter.mpr ⟨List.mem_of_getElem? (i := 357) rfl, rfl⟩, List.mem_filter.mpr ⟨List.mem_of_getElem? (i := 32) (by decide +kernel), rfl⟩, by decide +kernel⟩
set_option maxRecDepth 100000 in
theorem ok_X3_canBeCut : MOK mX3_canBeCut := ⟨List.mem_filter.mpr ⟨List.mem_of_getElem? (i := 417) rfl, rfl⟩, List.mem_filter.mpr ⟨List.mem_of_getElem? (i := 32) (by decide +kernel), rfl⟩, by decide +kernel⟩
set_option maxRecDepth 100000 in
theorem ok_X3_coverers : MOK mX3_coverers := ⟨List.mem_filter.mpr ⟨List.mem_of_getElem? (i := 448) rfl, rfl⟩, List.mem_filter.mpr ⟨List.mem_of_getElem? (i := 32) (by decide +kernel), rfl⟩, by decide +kernel⟩
set_option maxRecDepth 100000 in
theorem ok_X3_covers : MOK mX3_covers := ⟨List.mem_filter.mpr ⟨List.mem_of_getElem? (i := 381) rfl, rfl⟩, List.mem_filter.mpr ⟨List.mem_of_getElem? (i := 32) (by decide +kernel), rfl⟩, by decide +kernel⟩
set_option maxRecDepth 100000 in
theorem ok_X3_cuts : MOK mX3_cuts := ⟨List.mem_filter.mpr ⟨List.mem_of_getElem? (i := 558) rfl, rfl⟩, List.mem_filter.mpr ⟨List.mem_of_getElem? (i := 32) (by decide +kernel), rfl⟩, by decide +kernel⟩
set_option maxRecDepth 100000 in
theorem ok_X3_doubleReactions : MOK mX3_doubleReactions := ⟨List.mem_filter.mpr ⟨List.mem_of_getElem? (i := 553) rfl, rfl⟩, List.mem_filter.mpr ⟨List.mem_of_getElem? (i := 32) (by decide +kernel), rfl⟩, by decide +kernel⟩
set_option maxRecDepth 100000 in
theorem ok_X3_dropShot : MOK mX3_dropShot := ⟨List.mem_filter.mpr ⟨List.mem_of_getElem? (i := 397) rfl, rfl⟩, List.mem_filter.mpr ⟨List.mem_of_getElem? (i := 32) (by decide +kernel), rfl⟩, by decide +kernel⟩
set_option maxRecDepth 100000 in
theorem ok_X3_fact : MOK mX3_fact := ⟨List.mem_filter.mpr ⟨List.mem_of_getElem? (i := 385) rfl, rfl⟩, List.mem_filter.mpr ⟨List.mem_of_getElem? (i := 32) (by decide +kernel), rfl⟩, by decide +kernel⟩
set_option maxRecDepth 100000 in
theorem ok_X3_hasLine : MOK mX3_hasLine := ⟨List.mem_filter.mpr ⟨List.mem_of_getElem? (i := 373) rfl, rfl⟩, List.mem_filter.mpr ⟨List.mem_of_getElem? (i := 32) (by decide +kernel), rfl⟩, by decide +kernel⟩
set_option maxRecDepth 100000 in
theorem ok_X3_hasShot : MOK mX3_hasShot := ⟨List.mem_filter.mpr ⟨List.mem_of_getElem? (i := 377) rfl, rfl⟩, List.mem_filter.mpr ⟨List.mem_of_getElem? (i := 32) (by decide +kernel), rfl⟩, by decide +kernel⟩
set_option maxRecDepth 100000 in
theorem ok_X3_init : MOK mX3_init := ⟨List.mem_filter.mpr ⟨List.mem_of_getElem? (i := 57) rfl, rfl⟩, List.mem_filter.mpr ⟨List.mem_of_getElem? (i := 32) (by decide +kernel), rfl⟩, by decide +kernel⟩
set_option maxRecDepth 100000 in
theorem ok_X3_isCutAhead : MOK mX3_isCutAhead := ⟨List.mem_filter.mpr ⟨List.mem_of_getElem? (i := 549) rfl, rfl⟩, List.mem_filter.mpr ⟨List.mem_of_getElem? (i := 32) (by decide +kernel), rfl⟩, by decide +kernel⟩
set_option maxRecDepth 100000 in
theorem ok_X3_isReaction : MOK mX3_isReaction := ⟨List.mem_filter.mpr ⟨List.mem_of_getElem? (i := 457) rfl, rfl⟩, List.mem_filter.mpr ⟨List.mem_of_getElem? (i := 32) (by decide +kernel), rfl⟩, by decide +kernel⟩
set_option maxRecDepth 100000 in
theorem ok_X3_linesWithoutShot : MOK mX3_linesWithoutShot := ⟨List.mem_filter.mpr ⟨List.mem_of_getElem? (i := 541) rfl, rfl⟩, List.mem_filter.mpr ⟨List.mem_of_getElem? (i := 32) (by decide +kernel), rfl⟩, by decide +kernel⟩
set_option maxRecDepth 100000 in
theorem ok_X3_loseShotInEdit : MOK mX3_loseShotInEdit := ⟨List.mem_filter.mpr ⟨List.mem_of_getElem? (i := 401) rfl, rfl⟩, List.mem_filter.mpr ⟨List.mem_of_getElem? (i := 32) (by decide +kernel), rfl⟩, by decide +kernel⟩
set_option maxRecDepth 100000 in
theorem ok_X3_near : MOK mX3_near := ⟨List.mem_filter.mpr ⟨List.mem_of_getElem? (i := 435) rfl, rfl⟩, List.mem_filter.mpr ⟨List.mem_of_getElem? (i := 32) (by decide +kernel), rfl⟩, by decide +kernel⟩
set_option maxRecDepth 100000 in
theorem ok_X3_partners : MOK mX3_partners := ⟨List.mem_filter.mpr ⟨List.mem_of_getElem? (i := 413) rfl, rfl⟩, List.mem_filter.mpr ⟨List.mem_of_getElem? (i := 32) (by decide +kernel), rfl⟩, by decide +kernel⟩
set_option maxRecDepth 100000 in
theorem ok_X3_shotsUsed : MOK mX3_shotsUsed := ⟨List.mem_filter.mpr ⟨List.mem_of_getElem? (i := 562) rfl, rfl⟩, List.mem_filter.mpr ⟨List.mem_of_getElem? (i := 32) (by decide +kernel), rfl⟩, by decide +kernel⟩
set_option maxRecDepth 100000 in
theorem ok_X3_side : MOK mX3_side := ⟨List.mem_filter.mpr ⟨List.mem_of_getElem? (i := 421) rfl, rfl⟩, List.mem_filter.mpr ⟨List.mem_of_getElem? (i := 32) (by decide +kernel), rfl⟩, by decide +kernel⟩
set_option maxRecDepth 100000 in
theorem ok_X3_startAnew : MOK mX3_startAnew := ⟨List.mem_filter.mpr ⟨List.mem_of_getElem? (i := 62) rfl, rfl⟩, List.mem_filter.mpr ⟨List.mem_of_getElem? (i := 32) (by decide +kernel), rfl⟩, by decide +kernel⟩
set_option maxRecDepth 100000 in
theorem ok_X3_tooLike : MOK mX3_tooLike := ⟨List.mem_filter.mpr ⟨List.mem_of_getElem? (i := 428) rfl, rfl⟩, List.mem_filter.mpr ⟨List.mem_of_getElem? (i := 32) (by decide +kernel), rfl⟩, by decide +kernel⟩
set_option maxRecDepth 100000 in
theorem ok_X3_wayX : MOK mX3_wayX := ⟨List.mem_filter.mpr ⟨List.mem_of_getElem? (i := 439) rfl, rfl⟩, List.mem_filter.mpr ⟨List.mem_of_getElem? (i := 32) (by decide +kernel), rfl⟩, by decide +kernel⟩
set_option maxRecDepth 100000 in
theorem ok_X3_wayY : MOK mX3_wayY := ⟨List.mem_filter.mpr ⟨List.mem_of_getElem? (i := 443) rfl, rfl⟩, List.mem_filter.mpr ⟨List.mem_of_getElem? (i := 32) (by decide +kernel), rfl⟩, by decide +kernel⟩
set_option maxRecDepth 100000 in
theorem ok_X3_wrongCuts : MOK mX3_wrongCuts := ⟨List.mem_filter.mpr ⟨List.mem_of_getElem? (i := 545) rfl, rfl⟩, List.mem_filter.mpr ⟨List.mem_of_getElem? (i := 32) (by decide +kernel), rfl⟩, by decide +kernel⟩
set_option maxRecDepth 100000 in
theorem ok_X4_dropAll : MOK mX4_dropAll := ⟨List.mem_filter.mpr ⟨List.mem_of_getElem? (i := 606) rfl, rfl⟩, List.mem_filter.mpr ⟨List.mem_of_getElem? (i := 36) (by decide +kernel), rfl⟩, by decide +kernel⟩
set_option maxRecDepth 100000 in
theorem ok_X4_fits : MOK mX4_fits := ⟨List.mem_filter.mpr ⟨List.mem_of_getElem? (i := 618) rfl, rfl⟩, List.mem_filter.mpr ⟨List.mem_of_getElem? (i := 36) (by decide +kernel), rfl⟩, by decide +kernel⟩
set_option maxRecDepth 100000 in
theorem ok_X4_fitting : MOK mX4_fitting := ⟨List.mem_filter.mpr ⟨List.mem_of_getElem? (i := 614) rfl, rfl⟩, List.mem_filter.mpr ⟨List.mem_of_getElem? (i := 36) (by decide +kernel), rfl⟩, by decide +kernel⟩
set_option maxRecDepth 100000 in
theorem ok_X4_init : MOK mX4_init := ⟨List.mem_filter.mpr ⟨List.mem_of_getElem? (i := 195) rfl, rfl⟩, List.mem_filter.mpr ⟨List.mem_of_getElem? (i := 36) (by decide +kernel), rfl⟩, by decide +kernel⟩
set_option maxRecDepth 100000 in
theorem ok_X4_look : MOK mX4_look := ⟨List.mem_filter.mpr ⟨List.mem_of_getElem? (i := 622) rfl, rfl⟩, List.mem_filter.mpr ⟨List.mem_of_getElem? (i := 36) (by decide +kernel), rfl⟩, by decide +kernel⟩
set_option maxRecDepth 100000 in
theorem ok_X4_note : MOK mX4_note := ⟨List.mem_filter.mpr ⟨List.mem_of_getElem? (i := 598) rfl, rfl⟩, List.mem_filter.mpr ⟨List.mem_of_getElem? (i := 36) (by decide +kernel), rfl⟩, by decide +kernel⟩
set_option maxRecDepth 100000 in
theorem ok_X5_back : MOK mX5_back := ⟨List.mem_filter.mpr ⟨List.mem_of_getElem? (i := 637) rfl, rfl⟩, List.mem_filter.mpr ⟨List.mem_of_getElem? (i := 31) (by decide +kernel), rfl⟩, by decide +kernel⟩
set_option maxRecDepth 100000 in
theorem ok_X5_best : MOK mX5_best := ⟨List.mem_filter.mpr ⟨List.mem_of_getElem? (i := 567) rfl, rfl⟩, List.mem_filter.mpr ⟨List.mem_of_getElem? (i := 31) (by decide +kernel), rfl⟩, by decide +kernel⟩
set_option maxRecDepth 100000 in
theorem ok_X5_cheapest : MOK mX5_cheapest := ⟨List.mem_filter.mpr ⟨List.mem_of_getElem? (i := 571) rfl, rfl⟩, List.mem_filter.mpr ⟨List.mem_of_getElem? (i := 31) (by decide +kernel), rfl⟩, by decide +kernel⟩
set_option maxRecDepth 100000 in
theorem ok_X5_clear : MOK mX5_clear := ⟨List.mem_filter.mpr ⟨List.mem_of_getElem? (i := 245) rfl, rfl⟩, List.mem_filter.mpr ⟨List.mem_of_getElem? (i := 31) (by decide +kernel), rfl⟩, by decide +kernel⟩
set_option maxRecDepth 100000 in
theorem ok_X5_count : MOK mX5_count := ⟨List.mem_filter.mpr ⟨List.mem_of_getElem? (i := 641) rfl, rfl⟩, List.mem_filter.mpr ⟨List.mem_of_getElem? (i := 31) (by decide +kernel), rfl⟩, by decide +kernel⟩
set_option maxRecDepth 100000 in
theorem ok_X5_edit : MOK mX5_edit := ⟨List.mem_filter.mpr ⟨List.mem_of_getElem? (i := 537) rfl, rfl⟩, List.mem_filter.mpr ⟨List.mem_of_getElem? (i := 31) (by decide +kernel), rfl⟩, by decide +kernel⟩
set_option maxRecDepth 100000 in
theorem ok_X5_forget : MOK mX5_forget := ⟨List.mem_filter.mpr ⟨List.mem_of_getElem? (i := 602) rfl, rfl⟩, List.mem_filter.mpr ⟨List.mem_of_getElem? (i := 31) (by decide +kernel), rfl⟩, by decide +kernel⟩
set_option maxRecDepth 100000 in
theorem ok_X5_init : MOK mX5_init := ⟨List.mem_filter.mpr ⟨List.mem_of_getElem? (i := 49) rfl, rfl⟩, List.mem_filter.mpr ⟨List.mem_of_getElem? (i := 31) (by decide +kernel), rfl⟩, by decide +kernel⟩
set_option maxRecDepth 100000 in
theorem ok_X5_keep : MOK mX5_keep := ⟨List.mem_filter.mpr ⟨List.mem_of_getElem? (i := 633) rfl, rfl⟩, List.mem_filter.mpr ⟨List.mem_of_getElem? (i := 31) (by decide +kernel), rfl⟩, by decide +kernel⟩
set_option maxRecDepth 100000 in
theorem ok_X5_line : MOK mX5_line := ⟨List.mem_filter.mpr ⟨List.mem_of_getElem? (i := 517) rfl, rfl⟩, List.mem_filter.mpr ⟨List.mem_of_getElem? (i := 31) (by decide +kernel), rfl⟩, by decide +kernel⟩
set_option maxRecDepth 100000 in
theorem ok_X5_makes : MOK mX5_makes := ⟨List.mem_filter.mpr ⟨List.mem_of_getElem? (i := 405) rfl, rfl⟩, List.mem_filter.mpr ⟨List.mem_of_getElem? (i := 31) (by decide +kernel), rfl⟩, by decide +kernel⟩
set_option maxRecDepth 100000 in
theorem ok_X5_needed : MOK mX5_needed := ⟨List.mem_filter.mpr ⟨List.mem_of_getElem? (i := 586) rfl, rfl⟩, List.mem_filter.mpr ⟨List.mem_of_getElem? (i := 31) (by decide +kernel), rfl⟩, by decide +kernel⟩
set_option maxRecDepth 100000 in
theorem ok_X5_player : MOK mX5_player := ⟨List.mem_filter.mpr ⟨List.mem_of_getElem? (i := 533) rfl, rfl⟩, List.mem_filter.mpr ⟨List.mem_of_getElem? (i := 31) (by decide +kernel), rfl⟩, by decide +kernel⟩
set_option maxRecDepth 100000 in
theorem ok_X5_puts : MOK mX5_puts := ⟨List.mem_filter.mpr ⟨List.mem_of_getElem? (i := 369) rfl, rfl⟩, List.mem_filter.mpr ⟨List.mem_of_getElem? (i := 31) (by decide +kernel), rfl⟩, by decide +kernel⟩
set_option maxRecDepth 100000 in
theorem ok_X5_sees : MOK mX5_sees := ⟨List.mem_filter.mpr ⟨List.mem_of_getElem? (i := 594) rfl, rfl⟩, List.mem_filter.mpr ⟨List.mem_of_getElem? (i := 31) (by decide +kernel), rfl⟩, by decide +kernel⟩
set_option maxRecDepth 100000 in
theorem ok_X5_shot : MOK mX5_shot := ⟨List.mem_filter.mpr ⟨List.mem_of_getElem? (i := 523) rfl, rfl⟩, List.mem_filter.mpr ⟨List.mem_of_getElem? (i := 31) (by decide +kernel), rfl⟩, by decide +kernel⟩
set_option maxRecDepth 100000 in
theorem ok_X5_strikes : MOK mX5_strikes := ⟨List.mem_filter.mpr ⟨List.mem_of_getElem? (i := 393) rfl, rfl⟩, List.mem_filter.mpr ⟨List.mem_of_getElem? (i := 31) (by decide +kernel), rfl⟩, by decide +kernel⟩
set_option maxRecDepth 100000 in
theorem ok_X5_takes : MOK mX5_takes := ⟨List.mem_filter.mpr ⟨List.mem_of_getElem? (i := 389) rfl, rfl⟩, List.mem_filter.mpr ⟨List.mem_of_getElem? (i := 31) (by decide +kernel), rfl⟩, by decide +kernel⟩
set_option maxRecDepth 100000 in
theorem ok_X5_tells : MOK mX5_tells := ⟨List.mem_filter.mpr ⟨List.mem_of_getElem? (i := 253) rfl, rfl⟩, List.mem_filter.mpr ⟨List.mem_of_getElem? (i := 31) (by decide +kernel), rfl⟩, by decide +kernel⟩
set_option maxRecDepth 100000 in
theorem ok_X5_type : MOK mX5_type := ⟨List.mem_filter.mpr ⟨List.mem_of_getElem? (i := 237) rfl, rfl⟩, List.mem_filter.mpr ⟨List.mem_of_getElem? (i := 31) (by decide +kernel), rfl⟩, by decide +kernel⟩
set_option maxRecDepth 100000 in
theorem ok_X5_undo : MOK mX5_undo := ⟨List.mem_filter.mpr ⟨List.mem_of_getElem? (i := 509) rfl, rfl⟩, List.mem_filter.mpr ⟨List.mem_of_getElem? (i := 31) (by decide +kernel), rfl⟩, by decide +kernel⟩
set_option maxRecDepth 100000 in
theorem ok_X5_which : MOK mX5_which := ⟨List.mem_filter.mpr ⟨List.mem_of_getElem? (i := 610) rfl, rfl⟩, List.mem_filter.mpr ⟨List.mem_of_getElem? (i := 31) (by decide +kernel), rfl⟩, by decide +kernel⟩
set_option maxRecDepth 100000 in
theorem ok_X6_areNear : MOK mX6_areNear := ⟨List.mem_filter.mpr ⟨List.mem_of_getElem? (i := 847) rfl, rfl⟩, List.mem_filter.mpr ⟨List.mem_of_getElem? (i := 37) (by decide +kernel), rfl⟩, by decide +kernel⟩
set_option maxRecDepth 100000 in
theorem ok_X6_back : MOK mX6_back := ⟨List.mem_filter.mpr ⟨List.mem_of_getElem? (i := 934) rfl, rfl⟩, List.mem_filter.mpr ⟨List.mem_of_getElem? (i := 37) (by decide +kernel), rfl⟩, by decide +kernel⟩
set_option maxRecDepth 100000 in
theorem ok_X6_beginRead : MOK mX6_beginRead := ⟨List.mem_filter.mpr ⟨List.mem_of_getElem? (i := 651) rfl, rfl⟩, List.mem_filter.mpr ⟨List.mem_of_getElem? (i := 37) (by decide +kernel), rfl⟩, by decide +kernel⟩
set_option maxRecDepth 100000 in
theorem ok_X6_best : MOK mX6_best := ⟨List.mem_filter.mpr ⟨List.mem_of_getElem? (i := 896) rfl, rfl⟩, List.mem_filter.mpr ⟨List.mem_of_getElem? (i := 37) (by decide +kernel), rfl⟩, by decide +kernel⟩
set_option maxRecDepth 100000 in
theorem ok_X6_bring : MOK mX6_bring := ⟨List.mem_filter.mpr ⟨List.mem_of_getElem? (i := 654) rfl, rfl⟩, List.mem_filter.mpr ⟨List.mem_of_getElem? (i := 37) (by decide +kernel), rfl⟩, by decide +kernel⟩
set_option maxRecDepth 100000 in
theorem ok_X6_canCut : MOK mX6_canCut := ⟨List.mem_filter.mpr ⟨List.mem_of_getElem? (i := 843) rfl, rfl⟩, List.mem_filter.mpr ⟨List.mem_of_getElem? (i := 37) (by decide +kernel), rfl⟩, by decide +kernel⟩
set_option maxRecDepth 100000 in
theorem ok_X6_cheapest : MOK mX6_cheapest := ⟨List.mem_filter.mpr ⟨List.mem_of_getElem? (i := 900) rfl, rfl⟩, List.mem_filter.mpr ⟨List.mem_of_getElem? (i := 37) (by decide +kernel), rfl⟩, by decide +kernel⟩
set_option maxRecDepth 100000 in
theorem ok_X6_clear : MOK mX6_clear := ⟨List.mem_filter.mpr ⟨List.mem_of_getElem? (i := 735) rfl, rfl⟩, List.mem_filter.mpr ⟨List.mem_of_getElem? (i := 37) (by decide +kernel), rfl⟩, by decide +kernel⟩
set_option maxRecDepth 100000 in
theorem ok_X6_count : MOK mX6_count := ⟨List.mem_filter.mpr ⟨List.mem_of_getElem? (i := 938) rfl, rfl⟩, List.mem_filter.mpr ⟨List.mem_of_getElem? (i := 37) (by decide +kernel), rfl⟩, by decide +kernel⟩
set_option maxRecDepth 100000 in
theorem ok_X6_covers : MOK mX6_covers := ⟨List.mem_filter.mpr ⟨List.mem_of_getElem? (i := 804) rfl, rfl⟩, List.mem_filter.mpr ⟨List.mem_of_getElem? (i := 37) (by decide +kernel), rfl⟩, by decide +kernel⟩
set_option maxRecDepth 100000 in
theorem ok_X6_coversOf : MOK mX6_coversOf := ⟨List.mem_filter.mpr ⟨List.mem_of_getElem? (i := 875) rfl, rfl⟩, List.mem_filter.mpr ⟨List.mem_of_getElem? (i := 37) (by decide +kernel), rfl⟩, by decide +kernel⟩
set_option maxRecDepth 100000 in
theorem ok_X6_cutsOf : MOK mX6_cutsOf := ⟨List.mem_filter.mpr ⟨List.mem_of_getElem? (i := 884) rfl, rfl⟩, List.mem_filter.mpr ⟨List.mem_of_getElem? (i := 37) (by decide +kernel), rfl⟩, by decide +kernel⟩
set_option maxRecDepth 100000 in
theorem ok_X6_dearOf : MOK mX6_dearOf := ⟨List.mem_filter.mpr ⟨List.mem_of_getElem? (i := 904) rfl, rfl⟩, List.mem_filter.mpr ⟨List.mem_of_getElem? (i := 37) (by decide +kernel), rfl⟩, by decide +kernel⟩
set_option maxRecDepth 100000 in
theorem ok_X6_edit : MOK mX6_edit := ⟨List.mem_filter.mpr ⟨List.mem_of_getElem? (i := 892) rfl, rfl⟩, List.mem_filter.mpr ⟨List.mem_of_getElem? (i := 37) (by decide +kernel), rfl⟩, by decide +kernel⟩
set_option maxRecDepth 100000 in
theorem ok_X6_figure : MOK mX6_figure := ⟨List.mem_filter.mpr ⟨List.mem_of_getElem? (i := 772) rfl, rfl⟩, List.mem_filter.mpr ⟨List.mem_of_getElem? (i := 37) (by decide +kernel), rfl⟩, by decide +kernel⟩
set_option maxRecDepth 100000 in
theorem ok_X6_findBest : MOK mX6_findBest := ⟨List.mem_filter.mpr ⟨List.mem_of_getElem? (i := 824) rfl, rfl⟩, List.mem_filter.mpr ⟨List.mem_of_getElem? (i := 37) (by decide +kernel), rfl⟩, by decide +kernel⟩
set_option maxRecDepth 100000 in
theorem ok_X6_findCuts : MOK mX6_findCuts := ⟨List.mem_filter.mpr ⟨List.mem_of_getElem? (i := 835) rfl, rfl⟩, List.mem_filter.mpr ⟨List.mem_of_getElem? (i := 37) (by decide +kernel), rfl⟩, by decide +kernel⟩
set_option maxRecDepth 100000 in
theorem ok_X6_findWay : MOK mX6_findWay := ⟨List.mem_filter.mpr ⟨List.mem_of_getElem? (i := 831) rfl, rfl⟩, List.mem_filter.mpr ⟨List.mem_of_getElem? (i := 37) (by decide +kernel), rfl⟩, by decide +kernel⟩
set_option maxRecDepth 100000 in
theorem ok_X6_forget : MOK mX6_forget := ⟨List.mem_filter.mpr ⟨List.mem_of_getElem? (i := 918) rfl, rfl⟩, List.mem_filter.mpr ⟨List.mem_of_getElem? (i := 37) (by decide +kernel), rfl⟩, by decide +kernel⟩
set_option maxRecDepth 100000 in
theorem ok_X6_in : MOK mX6_in := ⟨List.mem_filter.mpr ⟨List.mem_of_getElem? (i := 731) rfl, rfl⟩, List.mem_filter.mpr ⟨List.mem_of_getElem? (i := 37) (by decide +kernel), rfl⟩, by decide +kernel⟩
set_option maxRecDepth 100000 in
theorem ok_X6_init : MOK mX6_init := ⟨List.mem_filter.mpr ⟨List.mem_of_getElem? (i := 646) rfl, rfl⟩, List.mem_filter.mpr ⟨List.mem_of_getElem? (i := 37) (by decide +kernel), rfl⟩, by decide +kernel⟩
set_option maxRecDepth 100000 in
theorem ok_X6_isBefore : MOK mX6_isBefore := ⟨List.mem_filter.mpr ⟨List.mem_of_getElem? (i := 863) rfl, rfl⟩, List.mem_filter.mpr ⟨List.mem_of_getElem? (i := 37) (by decide +kernel), rfl⟩, by decide +kernel⟩
set_option maxRecDepth 100000 in
theorem ok_X6_isEnded : MOK mX6_isEnded := ⟨List.mem_filter.mpr ⟨List.mem_of_getElem? (i := 776) rfl, rfl⟩, List.mem_filter.mpr ⟨List.mem_of_getElem? (i := 37) (by decide +kernel), rfl⟩, by decide +kernel⟩
set_option maxRecDepth 100000 in
theorem ok_X6_isFigure : MOK mX6_isFigure := ⟨List.mem_filter.mpr ⟨List.mem_of_getElem? (i := 764) rfl, rfl⟩, List.mem_filter.mpr ⟨List.mem_of_getElem? (i := 37) (by decide +kernel), rfl⟩, by decide +kernel⟩
set_option maxRecDepth 100000 in
theorem ok_X6_isLetter : MOK mX6_isLetter := ⟨List.mem_filter.mpr ⟨List.mem_of_getElem? (i := 751) rfl, rfl⟩, List.mem_filter.mpr ⟨List.mem_of_getElem? (i := 37) (by decide +kernel), rfl⟩, by decide +kernel⟩
set_option maxRecDepth 100000 in
theorem ok_X6_isLine : MOK mX6_isLine := ⟨List.mem_filter.mpr ⟨List.mem_of_getElem? (i := 796) rfl, rfl⟩, List.mem_filter.mpr ⟨List.mem_of_getElem? (i := 37) (by decide +kernel), rfl⟩, by decide +kernel⟩
set_option maxRecDepth 100000 in
theorem ok_X6_isReaction : MOK mX6_isReaction := ⟨List.mem_filter.mpr ⟨List.mem_of_getElem? (i := 859) rfl, rfl⟩, List.mem_filter.mpr ⟨List.mem_of_getElem? (i := 37) (by decide +kernel), rfl⟩, by decide +kernel⟩
set_option maxRecDepth 100000 in
theorem ok_X6_isShot : MOK mX6_isShot := ⟨List.mem_filter.mpr ⟨List.mem_of_getElem? (i := 800) rfl, rfl⟩, List.mem_filter.mpr ⟨List.mem_of_getElem? (i := 37) (by decide +kernel), rfl⟩, by decide +kernel⟩
set_option maxRecDepth 100000 in
theorem ok_X6_isSo : MOK mX6_isSo := ⟨List.mem_filter.mpr ⟨List.mem_of_getElem? (i := 926) rfl, rfl⟩, List.mem_filter.mpr ⟨List.mem_of_getElem? (i := 37) (by decide +kernel), rfl⟩, by decide +kernel⟩
set_option maxRecDepth 100000 in
theorem ok_X6_keep : MOK mX6_keep := ⟨List.mem_filter.mpr ⟨List.mem_of_getElem? (i := 930) rfl, rfl⟩, List.mem_filter.mpr ⟨List.mem_of_getElem? (i := 37) (by decide +kernel), rfl⟩, by decide +kernel⟩
set_option maxRecDepth 100000 in
theorem ok_X6_line : MOK mX6_line := ⟨List.mem_filter.mpr ⟨List.mem_of_getElem? (i := 871) rfl, rfl⟩, List.mem_filter.mpr ⟨List.mem_of_getElem? (i := 37) (by decide +kernel), rfl⟩, by decide +kernel⟩
set_option maxRecDepth 100000 in
theorem ok_X6_makes : MOK mX6_makes := ⟨List.mem_filter.mpr ⟨List.mem_of_getElem? (i := 820) rfl, rfl⟩, List.mem_filter.mpr ⟨List.mem_of_getElem? (i := 37) (by decide +kernel), rfl⟩, by decide +kernel⟩
set_option maxRecDepth 100000 in
theorem ok_X6_mayFollow : MOK mX6_mayFollow := ⟨List.mem_filter.mpr ⟨List.mem_of_getElem? (i := 839) rfl, rfl⟩, List.mem_filter.mpr ⟨List.mem_of_getElem? (i := 37) (by decide +kernel), rfl⟩, by decide +kernel⟩
set_option maxRecDepth 100000 in
theorem ok_X6_needed : MOK mX6_needed := ⟨List.mem_filter.mpr ⟨List.mem_of_getElem? (i := 910) rfl, rfl⟩, List.mem_filter.mpr ⟨List.mem_of_getElem? (i := 37) (by decide +kernel), rfl⟩, by decide +kernel⟩
set_option maxRecDepth 100000 in
theorem ok_X6_next : MOK mX6_next := ⟨List.mem_filter.mpr ⟨List.mem_of_getElem? (i := 747) rfl, rfl⟩, List.mem_filter.mpr ⟨List.mem_of_getElem? (i := 37) (by decide +kernel), rfl⟩, by decide +kernel⟩
set_option maxRecDepth 100000 in
theorem ok_X6_note : MOK mX6_note := ⟨List.mem_filter.mpr ⟨List.mem_of_getElem? (i := 788) rfl, rfl⟩, List.mem_filter.mpr ⟨List.mem_of_getElem? (i := 37) (by decide +kernel), rfl⟩, by decide +kernel⟩
set_option maxRecDepth 100000 in
theorem ok_X6_of : MOK mX6_of := ⟨List.mem_filter.mpr ⟨List.mem_of_getElem? (i := 808) rfl, rfl⟩, List.mem_filter.mpr ⟨List.mem_of_getElem? (i := 37) (by decide +kernel), rfl⟩, by decide +kernel⟩
set_option maxRecDepth 100000 in
theorem ok_X6_ones : MOK mX6_ones := ⟨List.mem_filter.mpr ⟨List.mem_of_getElem? (i := 827) rfl, rfl⟩, List.mem_filter.mpr ⟨List.mem_of_getElem? (i := 37) (by decide +kernel), rfl⟩, by decide +kernel⟩
set_option maxRecDepth 100000 in
theorem ok_X6_player : MOK mX6_player := ⟨List.mem_filter.mpr ⟨List.mem_of_getElem? (i := 888) rfl, rfl⟩, List.mem_filter.mpr ⟨List.mem_of_getElem? (i := 37) (by decide +kernel), rfl⟩, by decide +kernel⟩
set_option maxRecDepth 100000 in
theorem ok_X6_puts : MOK mX6_puts := ⟨List.mem_filter.mpr ⟨List.mem_of_getElem? (i := 792) rfl, rfl⟩, List.mem_filter.mpr ⟨List.mem_of_getElem? (i := 37) (by decide +kernel), rfl⟩, by decide +kernel⟩
set_option maxRecDepth 100000 in
theorem ok_X6_readLines : MOK mX6_readLines := ⟨List.mem_filter.mpr ⟨List.mem_of_getElem? (i := 780) rfl, rfl⟩, List.mem_filter.mpr ⟨List.mem_of_getElem? (i := 37) (by decide +kernel), rfl⟩, by decide +kernel⟩
set_option maxRecDepth 100000 in
theorem ok_X6_readPlayers : MOK mX6_readPlayers := ⟨List.mem_filter.mpr ⟨List.mem_of_getElem? (i := 768) rfl, rfl⟩, List.mem_filter.mpr ⟨List.mem_of_getElem? (i := 37) (by decide +kernel), rfl⟩, by decide +kernel⟩
set_option maxRecDepth 100000 in
theorem ok_X6_readShot : MOK mX6_readShot := ⟨List.mem_filter.mpr ⟨List.mem_of_getElem? (i := 784) rfl, rfl⟩, List.mem_filter.mpr ⟨List.mem_of_getElem? (i := 37) (by decide +kernel), rfl⟩, by decide +kernel⟩
set_option maxRecDepth 100000 in
theorem ok_X6_readText : MOK mX6_readText := ⟨List.mem_filter.mpr ⟨List.mem_of_getElem? (i := 743) rfl, rfl⟩, List.mem_filter.mpr ⟨List.mem_of_getElem? (i := 37) (by decide +kernel), rfl⟩, by decide +kernel⟩
set_option maxRecDepth 100000 in
theorem ok_X6_sees : MOK mX6_sees := ⟨List.mem_filter.mpr ⟨List.mem_of_getElem? (i := 914) rfl, rfl⟩, List.mem_filter.mpr ⟨List.mem_of_getElem? (i := 37) (by decide +kernel), rfl⟩, by decide +kernel⟩
set_option maxRecDepth 100000 in
theorem ok_X6_shot : MOK mX6_shot := ⟨List.mem_filter.mpr ⟨List.mem_of_getElem? (i := 879) rfl, rfl⟩, List.mem_filter.mpr ⟨List.mem_of_getElem? (i := 37) (by decide +kernel), rfl⟩, by decide +kernel⟩
set_option maxRecDepth 100000 in
theorem ok_X6_sideOf : MOK mX6_sideOf := ⟨List.mem_filter.mpr ⟨List.mem_of_getElem? (i := 855) rfl, rfl⟩, List.mem_filter.mpr ⟨List.mem_of_getElem? (i := 37) (by decide +kernel), rfl⟩, by decide +kernel⟩
set_option maxRecDepth 100000 in
theorem ok_X6_strikes : MOK mX6_strikes := ⟨List.mem_filter.mpr ⟨List.mem_of_getElem? (i := 816) rfl, rfl⟩, List.mem_filter.mpr ⟨List.mem_of_getElem? (i := 37) (by decide +kernel), rfl⟩, by decide +kernel⟩
set_option maxRecDepth 100000 in
theorem ok_X6_takes : MOK mX6_takes := ⟨List.mem_filter.mpr ⟨List.mem_of_getElem? (i := 812) rfl, rfl⟩, List.mem_filter.mpr ⟨List.mem_of_getElem? (i := 37) (by decide +kernel), rfl⟩, by decide +kernel⟩
set_option maxRecDepth 100000 in
theorem ok_X6_tells : MOK mX6_tells := ⟨List.mem_filter.mpr ⟨List.mem_of_getElem? (i := 739) rfl, rfl⟩, List.mem_filter.mpr ⟨List.mem_of_getElem? (i := 37) (by decide +kernel), rfl⟩, by decide +kernel⟩
set_option maxRecDepth 100000 in
theorem ok_X6_type : MOK mX6_type := ⟨List.mem_filter.mpr ⟨List.mem_of_getElem? (i := 728) rfl, rfl⟩, List.mem_filter.mpr ⟨List.mem_of_getElem? (i := 37) (by decide +kernel), rfl⟩, by decide +kernel⟩
set_option maxRecDepth 100000 in
theorem ok_X6_undo : MOK mX6_undo := ⟨List.mem_filter.mpr ⟨List.mem_of_getElem? (i := 867) rfl, rfl⟩, List.mem_filter.mpr ⟨List.mem_of_getElem? (i := 37) (by decide +kernel), rfl⟩, by decide +kernel⟩
set_option maxRecDepth 100000 in
theorem ok_X6_wayOf : MOK mX6_wayOf := ⟨List.mem_filter.mpr ⟨List.mem_of_getElem? (i := 851) rfl, rfl⟩, List.mem_filter.mpr ⟨List.mem_of_getElem? (i := 37) (by decide +kernel), rfl⟩, by decide +kernel⟩
set_option maxRecDepth 100000 in
theorem ok_X6_which : MOK mX6_which := ⟨List.mem_filter.mpr ⟨List.mem_of_getElem? (i := 922) rfl, rfl⟩, List.mem_filter.mpr ⟨List.mem_of_getElem? (i := 37) (by decide +kernel), rfl⟩, by decide +kernel⟩
set_option maxRecDepth 100000 in
theorem ok_X6_wordFrom : MOK mX6_wordFrom := ⟨List.mem_filter.mpr ⟨List.mem_of_getElem? (i := 755) rfl, rfl⟩, List.mem_filter.mpr ⟨List.mem_of_getElem? (i := 37) (by decide +kernel), rfl⟩, by decide +kernel⟩
set_option maxRecDepth 100000 in
theorem MT_ok : ∀ a, a < 200 → MOK (MT a) := by
  intro a _
  unfold MT
  split
  · exact ok_J0_charAt_5068e
  · exact ok_J0_checkIndex_df160
  · exact ok_J0_coder_7d493
  · exact ok_J0_isLatin1_aae02
  · exact ok_J0_length_8abf5
  · exact ok_J1_charAt_3b067
  · exact ok_J3_checkIndex_8e157
  · exact ok_J6_bitCount_0f7a4
  · exact ok_J6_numberOfTrailingZeros_0f7a4
  · exact ok_J6_signum_0f7a4
  · exact ok_X0_init
  · exact ok_X0_remember
  · exact ok_X0_restore
  · exact ok_X1_cheapestOf
  · exact ok_X1_cheapestSet
  · exact ok_X1_cutsFrom
  · exact ok_X1_dear
  · exact ok_X1_differsFrom
  · exact ok_X1_fewestBehind
  · exact ok_X1_findBest
  · exact ok_X1_followersOf
  · exact ok_X1_giveBestTo
  · exact ok_X1_hasWholeEdit
  · exact ok_X1_init
  · exact ok_X1_neededShots
  · exact ok_X1_planTrial
  · exact ok_X1_study
  · exact ok_X1_takeTrial
  · exact ok_X1_trialIsLower
  · exact ok_X2_dropText
  · exact ok_X2_init
  · exact ok_X2_isWord
  · exact ok_X2_kindAt
  · exact ok_X2_readInto
  · exact ok_X2_readItem
  · exact ok_X2_readLines
  · exact ok_X2_readPlayers
  · exact ok_X2_readShot
  · exact ok_X2_step
  · exact ok_X2_stepToFigure
  · exact ok_X2_stepToStop
  · exact ok_X2_takeLetter
  · exact ok_X3_become
  · exact ok_X3_canBeCut
  · exact ok_X3_coverers
  · exact ok_X3_covers
  · exact ok_X3_cuts
  · exact ok_X3_doubleReactions
  · exact ok_X3_dropShot
  · exact ok_X3_fact
  · exact ok_X3_hasLine
  · exact ok_X3_hasShot
  · exact ok_X3_init
  · exact ok_X3_isCutAhead
  · exact ok_X3_isReaction
  · exact ok_X3_linesWithoutShot
  · exact ok_X3_loseShotInEdit
  · exact ok_X3_near
  · exact ok_X3_partners
  · exact ok_X3_shotsUsed
  · exact ok_X3_side
  · exact ok_X3_startAnew
  · exact ok_X3_tooLike
  · exact ok_X3_wayX
  · exact ok_X3_wayY
  · exact ok_X3_wrongCuts
  · exact ok_X4_dropAll
  · exact ok_X4_fits
  · exact ok_X4_fitting
  · exact ok_X4_init
  · exact ok_X4_look
  · exact ok_X4_note
  · exact ok_X5_back
  · exact ok_X5_best
  · exact ok_X5_cheapest
  · exact ok_X5_clear
  · exact ok_X5_count
  · exact ok_X5_edit
  · exact ok_X5_forget
  · exact ok_X5_init
  · exact ok_X5_keep
  · exact ok_X5_line
  · exact ok_X5_makes
  · exact ok_X5_needed
  · exact ok_X5_player
  · exact ok_X5_puts
  · exact ok_X5_sees
  · exact ok_X5_shot
  · exact ok_X5_strikes
  · exact ok_X5_takes
  · exact ok_X5_tells
  · exact ok_X5_type
  · exact ok_X5_undo
  · exact ok_X5_which
  · exact ok_X6_areNear
  · exact ok_X6_back
  · exact ok_X6_beginRead
  · exact ok_X6_best
  · exact ok_X6_bring
  · exact ok_X6_canCut
  · exact ok_X6_cheapest
  · exact ok_X6_clear
  · exact ok_X6_count
  · exact ok_X6_covers
  · exact ok_X6_coversOf
  · exact ok_X6_cutsOf
  · exact ok_X6_dearOf
  · exact ok_X6_edit
  · exact ok_X6_figure
  · exact ok_X6_findBest
  · exact ok_X6_findCuts
  · exact ok_X6_findWay
  · exact ok_X6_forget
  · exact ok_X6_in
  · exact ok_X6_init
  · exact ok_X6_isBefore
  · exact ok_X6_isEnded
  · exact ok_X6_isFigure
  · exact ok_X6_isLetter
  · exact ok_X6_isLine
  · exact ok_X6_isReaction
  · exact ok_X6_isShot
  · exact ok_X6_isSo
  · exact ok_X6_keep
  · exact ok_X6_line
  · exact ok_X6_makes
  · exact ok_X6_mayFollow
  · exact ok_X6_needed
  · exact ok_X6_next
  · exact ok_X6_note
  · exact ok_X6_of
  · exact ok_X6_ones
  · exact ok_X6_player
  · exact ok_X6_puts
  · exact ok_X6_readLines
  · exact ok_X6_readPlayers
  · exact ok_X6_readShot
  · exact ok_X6_readText
  · exact ok_X6_sees
  · exact ok_X6_shot
  · exact ok_X6_sideOf
  · exact ok_X6_strikes
  · exact ok_X6_takes
  · exact ok_X6_tells
  · exact ok_X6_type
  · exact ok_X6_undo
  · exact ok_X6_wayOf
  · exact ok_X6_which
  · exact ok_X6_wordFrom
  · exact ok_J6_signum_0f7a4
