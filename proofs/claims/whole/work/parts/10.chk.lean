set_option maxRecDepth 100000 in
theorem ch_J0_charAt_5068e : chkL MT mJ0_charAt_5068e (m_code mJ0_charAt_5068e) = true := by decide +kernel
set_option maxRecDepth 100000 in
theorem ch_J0_checkIndex_df160 : chkL MT mJ0_checkIndex_df160 (m_code mJ0_checkIndex_df160) = true := by decide +kernel
set_option maxRecDepth 100000 in
theorem ch_J0_coder_7d493 : chkL MT mJ0_coder_7d493 (m_code mJ0_coder_7d493) = true := by decide +kernel
set_option maxRecDepth 100000 in
theorem ch_J0_isLatin1_aae02 : chkL MT mJ0_isLatin1_aae02 (m_code mJ0_isLatin1_aae02) = true := by decide +kernel
set_option maxRecDepth 100000 in
theorem ch_J0_length_8abf5 : chkL MT mJ0_length_8abf5 (m_code mJ0_length_8abf5) = true := by decide +kernel
set_option maxRecDepth 100000 in
theorem ch_J1_charAt_3b067 : chkL MT mJ1_charAt_3b067 (m_code mJ1_charAt_3b067) = true := by decide +kernel
set_option maxRecDepth 100000 in
theorem ch_J3_checkIndex_8e157 : chkL MT mJ3_checkIndex_8e157 (m_code mJ3_checkIndex_8e157) = true := by decide +kernel
set_option maxRecDepth 100000 in
theorem ch_J6_bitCount_0f7a4 : chkL MT mJ6_bitCount_0f7a4 (m_code mJ6_bitCount_0f7a4) = true := by decide +kernel
set_option maxRecDepth 100000 in
theorem ch_J6_numberOfTrailingZeros_0f7a4 : chkL MT mJ6_numberOfTrailingZeros_0f7a4 (m_code mJ6_numberOfTrailingZeros_0f7a4) = true := by decide +kernel
set_option maxRecDepth 100000 in
theorem ch_J6_signum_0f7a4 : chkL MT mJ6_signum_0f7a4 (m_code mJ6_signum_0f7a4) = true := by decide +kernel
set_option maxRecDepth 100000 in
theorem ch_X0_init : chkL MT mX0_init (m_code mX0_init) = true := by decide +kernel
set_option maxRecDepth 100000 in
theorem ch_X0_remember : chkL MT mX0_remember (m_code mX0_remember) = true := by decide +kernel
set_option maxRecDepth 100000 in
theorem ch_X0_restore : chkL MT mX0_restore (m_code mX0_restore) = true := by decide +kernel
set_option maxRecDepth 100000 in
theorem ch_X1_cheapestOf : chkL MT mX1_cheapestOf (m_code mX1_cheapestOf) = true := by decide +kernel
set_option maxRecDepth 100000 in
theorem ch_X1_cheapestSet : chkL MT mX1_cheapestSet (m_code mX1_cheapestSet) = true := by decide +kernel
set_option maxRecDepth 100000 in
theorem ch_X1_cutsFrom : chkL MT mX1_cutsFrom (m_code mX1_cutsFrom) = true := by decide +kernel
set_option maxRecDepth 100000 in
theorem ch_X1_dear : chkL MT mX1_dear (m_code mX1_dear) = true := by decide +kernel
set_option maxRecDepth 100000 in
theorem ch_X1_differsFrom : chkL MT mX1_differsFrom (m_code mX1_differsFrom) = true := by decide +kernel
set_option maxRecDepth 100000 in
theorem ch_X1_fewestBehind : chkL MT mX1_fewestBehind (m_code mX1_fewestBehind) = true := by decide +kernel
set_option maxRecDepth 100000 in
theorem ch_X1_findBest : chkL MT mX1_findBest (m_code mX1_findBest) = true := by decide +kernel
set_option maxRecDepth 100000 in
theorem ch_X1_followersOf : chkL MT mX1_followersOf (m_code mX1_followersOf) = true := by decide +kernel
set_option maxRecDepth 100000 in
theorem ch_X1_giveBestTo : chkL MT mX1_giveBestTo (m_code mX1_giveBestTo) = true := by decide +kernel
set_option maxRecDepth 100000 in
theorem ch_X1_hasWholeEdit : chkL MT mX1_hasWholeEdit (m_code mX1_hasWholeEdit) = true := by decide +kernel
set_option maxRecDepth 100000 in
theorem ch_X1_init : chkL MT mX1_init (m_code mX1_init) = true := by decide +kernel
set_option maxRecDepth 100000 in
theorem ch_X1_neededShots : chkL MT mX1_neededShots (m_code mX1_neededShots) = true := by decide +kernel
set_option maxRecDepth 100000 in
theorem ch_X1_planTrial : chkL MT mX1_planTrial (m_code mX1_planTrial) = true := by decide +kernel
set_option maxRecDepth 100000 in
theorem ch_X1_study : chkL MT mX1_study (m_code mX1_study) = true := by decide +kernel
set_option maxRecDepth 100000 in
theorem ch_X1_takeTrial : chkL MT mX1_takeTrial (m_code mX1_takeTrial) = true := by decide +kernel
set_option maxRecDepth 100000 in
theorem ch_X1_trialIsLower : chkL MT mX1_trialIsLower (m_code mX1_trialIsLower) = true := by decide +kernel
set_option maxRecDepth 100000 in
theorem ch_X2_dropText : chkL MT mX2_dropText (m_code mX2_dropText) = true := by decide +kernel
set_option maxRecDepth 100000 in
theorem ch_X2_init : chkL MT mX2_init (m_code mX2_init) = true := by decide +kernel
set_option maxRecDepth 100000 in
theorem ch_X2_isWord : chkL MT mX2_isWord (m_code mX2_isWord) = true := by decide +kernel
set_option maxRecDepth 100000 in
theorem ch_X2_kindAt : chkL MT mX2_kindAt (m_code mX2_kindAt) = true := by decide +kernel
set_option maxRecDepth 100000 in
theorem ch_X2_readInto : chkL MT mX2_readInto (m_code mX2_readInto) = true := by decide +kernel
set_option maxRecDepth 100000 in
theorem ch_X2_readItem : chkL MT mX2_readItem (m_code mX2_readItem) = true := by decide +kernel
set_option maxRecDepth 100000 in
theorem ch_X2_readLines : chkL MT mX2_readLines (m_code mX2_readLines) = true := by decide +kernel
set_option maxRecDepth 100000 in
theorem ch_X2_readPlayers : chkL MT mX2_readPlayers (m_code mX2_readPlayers) = true := by decide +kernel
set_option maxRecDepth 100000 in
theorem ch_X2_readShot : chkL MT mX2_readShot (m_code mX2_readShot) = true := by decide +kernel
set_option maxRecDepth 100000 in
theorem ch_X2_step : chkL MT mX2_step (m_code mX2_step) = true := by decide +kernel
set_option maxRecDepth 100000 in
theorem ch_X2_stepToFigure : chkL MT mX2_stepToFigure (m_code mX2_stepToFigure) = true := by decide +kernel
set_option maxRecDepth 100000 in
theorem ch_X2_stepToStop : chkL MT mX2_stepToStop (m_code mX2_stepToStop) = true := by decide +kernel
set_option maxRecDepth 100000 in
theorem ch_X2_takeLetter : chkL MT mX2_takeLetter (m_code mX2_takeLetter) = true := by decide +kernel
set_option maxRecDepth 100000 in
theorem ch_X3_become : chkL MT mX3_become (m_code mX3_become) = true := by decide +kernel
set_option maxRecDepth 100000 in
theorem ch_X3_canBeCut : chkL MT mX3_canBeCut (m_code mX3_canBeCut) = true := by decide +kernel
set_option maxRecDepth 100000 in
theorem ch_X3_coverers : chkL MT mX3_coverers (m_code mX3_coverers) = true := by decide +kernel
set_option maxRecDepth 100000 in
theorem ch_X3_covers : chkL MT mX3_covers (m_code mX3_covers) = true := by decide +kernel
set_option maxRecDepth 100000 in
theorem ch_X3_cuts : chkL MT mX3_cuts (m_code mX3_cuts) = true := by decide +kernel
set_option maxRecDepth 100000 in
theorem ch_X3_doubleReactions : chkL MT mX3_doubleReactions (m_code mX3_doubleReactions) = true := by decide +kernel
set_option maxRecDepth 100000 in
theorem ch_X3_dropShot : chkL MT mX3_dropShot (m_code mX3_dropShot) = true := by decide +kernel
set_option maxRecDepth 100000 in
theorem ch_X3_fact : chkL MT mX3_fact (m_code mX3_fact) = true := by decide +kernel
set_option maxRecDepth 100000 in
theorem ch_X3_hasLine : chkL MT mX3_hasLine (m_code mX3_hasLine) = true := by decide +kernel
set_option maxRecDepth 100000 in
theorem ch_X3_hasShot : chkL MT mX3_hasShot (m_code mX3_hasShot) = true := by decide +kernel
set_option maxRecDepth 100000 in
theorem ch_X3_init : chkL MT mX3_init (m_code mX3_init) = true := by decide +kernel
set_option maxRecDepth 100000 in
theorem ch_X3_isCutAhead : chkL MT mX3_isCutAhead (m_code mX3_isCutAhead) = true := by decide +kernel
set_option maxRecDepth 100000 in
theorem ch_X3_isReaction : chkL MT mX3_isReaction (m_code mX3_isReaction) = true := by decide +kernel
set_option maxRecDepth 100000 in
theorem ch_X3_linesWithoutShot : chkL MT mX3_linesWithoutShot (m_code mX3_linesWithoutShot) = true := by decide +kernel
set_option maxRecDepth 100000 in
theorem ch_X3_loseShotInEdit : chkL MT mX3_loseShotInEdit (m_code mX3_loseShotInEdit) = true := by decide +kernel
set_option maxRecDepth 100000 in
theorem ch_X3_near : chkL MT mX3_near (m_code mX3_near) = true := by decide +kernel
set_option maxRecDepth 100000 in
theorem ch_X3_partners : chkL MT mX3_partners (m_code mX3_partners) = true := by decide +kernel
set_option maxRecDepth 100000 in
theorem ch_X3_shotsUsed : chkL MT mX3_shotsUsed (m_code mX3_shotsUsed) = true := by decide +kernel
set_option maxRecDepth 100000 in
theorem ch_X3_side : chkL MT mX3_side (m_code mX3_side) = true := by decide +kernel
set_option maxRecDepth 100000 in
theorem ch_X3_startAnew : chkL MT mX3_startAnew (m_code mX3_startAnew) = true := by decide +kernel
set_option maxRecDepth 100000 in
theorem ch_X3_tooLike : chkL MT mX3_tooLike (m_code mX3_tooLike) = true := by decide +kernel
set_option maxRecDepth 100000 in
theorem ch_X3_wayX : chkL MT mX3_wayX (m_code mX3_wayX) = true := by decide +kernel
set_option maxRecDepth 100000 in
theorem ch_X3_wayY : chkL MT mX3_wayY (m_code mX3_wayY) = true := by decide +kernel
set_option maxRecDepth 100000 in
theorem ch_X3_wrongCuts : chkL MT mX3_wrongCuts (m_code mX3_wrongCuts) = true := by decide +kernel
set_option maxRecDepth 100000 in
theorem ch_X4_dropAll : chkL MT mX4_dropAll (m_code mX4_dropAll) = true := by decide +kernel
set_option maxRecDepth 100000 in
theorem ch_X4_fits : chkL MT mX4_fits (m_code mX4_fits) = true := by decide +kernel
set_option maxRecDepth 100000 in
theorem ch_X4_fitting : chkL MT mX4_fitting (m_code mX4_fitting) = true := by decide +kernel
set_option maxRecDepth 100000 in
theorem ch_X4_init : chkL MT mX4_init (m_code mX4_init) = true := by decide +kernel
set_option maxRecDepth 100000 in
theorem ch_X4_look : chkL MT mX4_look (m_code mX4_look) = true := by decide +kernel
set_option maxRecDepth 100000 in
theorem ch_X4_note : chkL MT mX4_note (m_code mX4_note) = true := by decide +kernel
set_option maxRecDepth 100000 in
theorem ch_X5_back : chkL MT mX5_back (m_code mX5_back) = true := by decide +kernel
set_option maxRecDepth 100000 in
theorem ch_X5_best : chkL MT mX5_best (m_code mX5_best) = true := by decide +kernel
set_option maxRecDepth 100000 in
theorem ch_X5_cheapest : chkL MT mX5_cheapest (m_code mX5_cheapest) = true := by decide +kernel
set_option maxRecDepth 100000 in
theorem ch_X5_clear : chkL MT mX5_clear (m_code mX5_clear) = true := by decide +kernel
set_option maxRecDepth 100000 in
theorem ch_X5_count : chkL MT mX5_count (m_code mX5_count) = true := by decide +kernel
set_option maxRecDepth 100000 in
theorem ch_X5_edit : chkL MT mX5_edit (m_code mX5_edit) = true := by decide +kernel
set_option maxRecDepth 100000 in
theorem ch_X5_forget : chkL MT mX5_forget (m_code mX5_forget) = true := by decide +kernel
set_option maxRecDepth 100000 in
theorem ch_X5_init : chkL MT mX5_init (m_code mX5_init) = true := by decide +kernel
set_option maxRecDepth 100000 in
theorem ch_X5_keep : chkL MT mX5_keep (m_code mX5_keep) = true := by decide +kernel
set_option maxRecDepth 100000 in
theorem ch_X5_line : chkL MT mX5_line (m_code mX5_line) = true := by decide +kernel
set_option maxRecDepth 100000 in
theorem ch_X5_makes : chkL MT mX5_makes (m_code mX5_makes) = true := by decide +kernel
set_option maxRecDepth 100000 in
theorem ch_X5_needed : chkL MT mX5_needed (m_code mX5_needed) = true := by decide +kernel
set_option maxRecDepth 100000 in
theorem ch_X5_player : chkL MT mX5_player (m_code mX5_player) = true := by decide +kernel
set_option maxRecDepth 100000 in
theorem ch_X5_puts : chkL MT mX5_puts (m_code mX5_puts) = true := by decide +kernel
set_option maxRecDepth 100000 in
theorem ch_X5_sees : chkL MT mX5_sees (m_code mX5_sees) = true := by decide +kernel
set_option maxRecDepth 100000 in
theorem ch_X5_shot : chkL MT mX5_shot (m_code mX5_shot) = true := by decide +kernel
set_option maxRecDepth 100000 in
theorem ch_X5_strikes : chkL MT mX5_strikes (m_code mX5_strikes) = true := by decide +kernel
set_option maxRecDepth 100000 in
theorem ch_X5_takes : chkL MT mX5_takes (m_code mX5_takes) = true := by decide +kernel
set_option maxRecDepth 100000 in
theorem ch_X5_tells : chkL MT mX5_tells (m_code mX5_tells) = true := by decide +kernel
set_option maxRecDepth 100000 in
theorem ch_X5_type : chkL MT mX5_type (m_code mX5_type) = true := by decide +kernel
set_option maxRecDepth 100000 in
theorem ch_X5_undo : chkL MT mX5_undo (m_code mX5_undo) = true := by decide +kernel
set_option maxRecDepth 100000 in
theorem ch_X5_which : chkL MT mX5_which (m_code mX5_which) = true := by decide +kernel
set_option maxRecDepth 100000 in
theorem ch_X6_areNear : chkL MT mX6_areNear (m_code mX6_areNear) = true := by decide +kernel
set_option maxRecDepth 100000 in
theorem ch_X6_back : chkL MT mX6_back (m_code mX6_back) = true := by decide +kernel
set_option maxRecDepth 100000 in
theorem ch_X6_beginRead : chkL MT mX6_beginRead (m_code mX6_beginRead) = true := by decide +kernel
set_option maxRecDepth 100000 in
theorem ch_X6_best : chkL MT mX6_best (m_code mX6_best) = true := by decide +kernel
set_option maxRecDepth 100000 in
theorem ch_X6_bring : chkL MT mX6_bring (m_code mX6_bring) = true := by decide +kernel
set_option maxRecDepth 100000 in
theorem ch_X6_canCut : chkL MT mX6_canCut (m_code mX6_canCut) = true := by decide +kernel
set_option maxRecDepth 100000 in
theorem ch_X6_cheapest : chkL MT mX6_cheapest (m_code mX6_cheapest) = true := by decide +kernel
set_option maxRecDepth 100000 in
theorem ch_X6_clear : chkL MT mX6_clear (m_code mX6_clear) = true := by decide +kernel
set_option maxRecDepth 100000 in
theorem ch_X6_count : chkL MT mX6_count (m_code mX6_count) = true := by decide +kernel
set_option maxRecDepth 100000 in
theorem ch_X6_covers : chkL MT mX6_covers (m_code mX6_covers) = true := by decide +kernel
set_option maxRecDepth 100000 in
theorem ch_X6_coversOf : chkL MT mX6_coversOf (m_code mX6_coversOf) = true := by decide +kernel
set_option maxRecDepth 100000 in
theorem ch_X6_cutsOf : chkL MT mX6_cutsOf (m_code mX6_cutsOf) = true := by decide +kernel
set_option maxRecDepth 100000 in
theorem ch_X6_dearOf : chkL MT mX6_dearOf (m_code mX6_dearOf) = true := by decide +kernel
set_option maxRecDepth 100000 in
theorem ch_X6_edit : chkL MT mX6_edit (m_code mX6_edit) = true := by decide +kernel
set_option maxRecDepth 100000 in
theorem ch_X6_figure : chkL MT mX6_figure (m_code mX6_figure) = true := by decide +kernel
set_option maxRecDepth 100000 in
theorem ch_X6_findBest : chkL MT mX6_findBest (m_code mX6_findBest) = true := by decide +kernel
set_option maxRecDepth 100000 in
theorem ch_X6_findCuts : chkL MT mX6_findCuts (m_code mX6_findCuts) = true := by decide +kernel
set_option maxRecDepth 100000 in
theorem ch_X6_findWay : chkL MT mX6_findWay (m_code mX6_findWay) = true := by decide +kernel
set_option maxRecDepth 100000 in
theorem ch_X6_forget : chkL MT mX6_forget (m_code mX6_forget) = true := by decide +kernel
set_option maxRecDepth 100000 in
theorem ch_X6_in : chkL MT mX6_in (m_code mX6_in) = true := by decide +kernel
set_option maxRecDepth 100000 in
theorem ch_X6_init : chkL MT mX6_init (m_code mX6_init) = true := by decide +kernel
set_option maxRecDepth 100000 in
theorem ch_X6_isBefore : chkL MT mX6_isBefore (m_code mX6_isBefore) = true := by decide +kernel
set_option maxRecDepth 100000 in
theorem ch_X6_isEnded : chkL MT mX6_isEnded (m_code mX6_isEnded) = true := by decide +kernel
set_option maxRecDepth 100000 in
theorem ch_X6_isFigure : chkL MT mX6_isFigure (m_code mX6_isFigure) = true := by decide +kernel
set_option maxRecDepth 100000 in
theorem ch_X6_isLetter : chkL MT mX6_isLetter (m_code mX6_isLetter) = true := by decide +kernel
set_option maxRecDepth 100000 in
theorem ch_X6_isLine : chkL MT mX6_isLine (m_code mX6_isLine) = true := by decide +kernel
set_option maxRecDepth 100000 in
theorem ch_X6_isReaction : chkL MT mX6_isReaction (m_code mX6_isReaction) = true := by decide +kernel
set_option maxRecDepth 100000 in
theorem ch_X6_isShot : chkL MT mX6_isShot (m_code mX6_isShot) = true := by decide +kernel
set_option maxRecDepth 100000 in
theorem ch_X6_isSo : chkL MT mX6_isSo (m_code mX6_isSo) = true := by decide +kernel
set_option maxRecDepth 100000 in
theorem ch_X6_keep : chkL MT mX6_keep (m_code mX6_keep) = true := by decide +kernel
set_option maxRecDepth 100000 in
theorem ch_X6_line : chkL MT mX6_line (m_code mX6_line) = true := by decide +kernel
set_option maxRecDepth 100000 in
theorem ch_X6_makes : chkL MT mX6_makes (m_code mX6_makes) = true := by decide +kernel
set_option maxRecDepth 100000 in
theorem ch_X6_mayFollow : chkL MT mX6_mayFollow (m_code mX6_mayFollow) = true := by decide +kernel
set_option maxRecDepth 100000 in
theorem ch_X6_needed : chkL MT mX6_needed (m_code mX6_needed) = true := by decide +kernel
set_option maxRecDepth 100000 in
theorem ch_X6_next : chkL MT mX6_next (m_code mX6_next) = true := by decide +kernel
set_option maxRecDepth 100000 in
theorem ch_X6_note : chkL MT mX6_note (m_code mX6_note) = true := by decide +kernel
set_option maxRecDepth 100000 in
theorem ch_X6_of : chkL MT mX6_of (m_code mX6_of) = true := by decide +kernel
set_option maxRecDepth 100000 in
theorem ch_X6_ones : chkL MT mX6_ones (m_code mX6_ones) = true := by decide +kernel
set_option maxRecDepth 100000 in
theorem ch_X6_player : chkL MT mX6_player (m_code mX6_player) = true := by decide +kernel
set_option maxRecDepth 100000 in
theorem ch_X6_puts : chkL MT mX6_puts (m_code mX6_puts) = true := by decide +kernel
set_option maxRecDepth 100000 in
theorem ch_X6_readLines : chkL MT mX6_readLines (m_code mX6_readLines) = true := by decide +kernel
set_option maxRecDepth 100000 in
theorem ch_X6_readPlayers : chkL MT mX6_readPlayers (m_code mX6_readPlayers) = true := by decide +kernel
set_option maxRecDepth 100000 in
theorem ch_X6_readShot : chkL MT mX6_readShot (m_code mX6_readShot) = true := by decide +kernel
set_option maxRecDepth 100000 in
theorem ch_X6_readText : chkL MT mX6_readText (m_code mX6_readText) = true := by decide +kernel
set_option maxRecDepth 100000 in
theorem ch_X6_sees : chkL MT mX6_sees (m_code mX6_sees) = true := by decide +kernel
set_option maxRecDepth 100000 in
theorem ch_X6_shot : chkL MT mX6_shot (m_code mX6_shot) = true := by decide +kernel
set_option maxRecDepth 100000 in
theorem ch_X6_sideOf : chkL MT mX6_sideOf (m_code mX6_sideOf) = true := by decide +kernel
set_option maxRecDepth 100000 in
theorem ch_X6_strikes : chkL MT mX6_strikes (m_code mX6_strikes) = true := by decide +kernel
set_option maxRecDepth 100000 in
theorem ch_X6_takes : chkL MT mX6_takes (m_code mX6_takes) = true := by decide +kernel
set_option maxRecDepth 100000 in
theorem ch_X6_tells : chkL MT mX6_tells (m_code mX6_tells) = true := by decide +kernel
set_option maxRecDepth 100000 in
theorem ch_X6_type : chkL MT mX6_type (m_code mX6_type) = true := by decide +kernel
set_option maxRecDepth 100000 in
theorem ch_X6_undo : chkL MT mX6_undo (m_code mX6_undo) = true := by decide +kernel
set_option maxRecDepth 100000 in
theorem ch_X6_wayOf : chkL MT mX6_wayOf (m_code mX6_wayOf) = true := by decide +kernel
set_option maxRecDepth 100000 in
theorem ch_X6_which : chkL MT mX6_which (m_code mX6_which) = true := by decide +kernel
set_option maxRecDepth 100000 in
theorem ch_X6_wordFrom : chkL MT mX6_wordFrom (m_code mX6_wordFrom) = true := by decide +kernel
set_option maxRecDepth 100000 in
theorem ch_L_law : chkL MT mL_law (m_code mL_law) = true := by decide +kernel
