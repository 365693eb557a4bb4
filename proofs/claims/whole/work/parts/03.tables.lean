/-! the methods, by number: bytes, locals, answer, name, owner, places of longs, frames, words of locals, widths of arguments; and the links of each owner -/
abbrev m_R : Type := ByteArray × Nat × Option FieldType × MethodName × Nat × List Nat × Nat × Nat × List Nat
def m_tab0 : List m_R := [(cX0_init, 1, none, yX0_init, 0, [], 1, 20, [1]),
  (cX0_workOut, 4, none, yX0_workOut, 0, [], 4, 92, [1, 1, 1]),
  (cX0_isFit, 4, (some .boolean), yX0_isFit, 0, [], 1, 21, [1, 1, 1]),
  (cX0_takeIn, 8, none, yX0_takeIn, 0, [], 2, 49, [1, 1, 1, 1]),
  (cX0_evenOf, 7, (some .int), yX0_evenOf, 0, [], 1, 23, [1, 1, 1, 1]),
  (cX0_greaterPart, 2, (some .int), yX0_greaterPart, 0, [], 1, 21, [1, 1]),
  (cX0_bestToAsk, 8, (some .int), yX0_bestToAsk, 0, [], 2, 42, [1, 1, 1]),
  (cX1_init, 4, none, yX1_init, 1, [], 1, 20, [1, 1, 1, 1]),
  (cX1_isKept, 5, (some .boolean), yX1_isKept, 1, [], 4, 95, [1, 1, 1, 1, 1]),
  (cX1_isBetween, 2, (some .boolean), yX1_isBetween, 1, [], 0, 0, [1, 1]),
  (cX1_wordsAreBetween, 4, (some .boolean), yX1_wordsAreBetween, 1, [], 1, 21, [1, 1, 1]),
  (cX1_isAsBefore, 7, (some .boolean), yX1_isAsBefore, 1, [], 3, 69, [1, 1, 1, 1, 1]),
  (cX2_init, 1, none, yX2_init, 2, [], 1, 20, [1]),
  (cX2_workOut, 6, none, yX2_workOut, 2, [], 4, 92, [1, 1, 1]),
  (cX2_likenessOf, 4, (some .int), yX2_likenessOf, 2, [], 2, 44, [1, 1, 1]),
  (cX3_init, 6, none, yX3_init, 3, [], 2, 82, [1, 1]),
  (cX3_firstWith, 4, (some .int), yX3_firstWith, 3, [], 0, 0, [1, 1, 1]),
  (cX3_has, 2, (some .boolean), yX3_has, 3, [], 0, 0, [1, 1]),
  (cX3_markOf, 2, (some .int), yX3_markOf, 3, [], 1, 21, [1, 1]),
  (cX3_setMark, 4, none, yX3_setMark, 3, [], 0, 0, [1, 1, 1]),
  (cX3_isUnmarked, 1, (some .boolean), yX3_isUnmarked, 3, [], 0, 0, [1]),
  (cX3_isMet, 2, (some .boolean), yX3_isMet, 3, [], 0, 0, [1, 1]),
  (cX3_led, 5, (some .int), yX3_led, 3, [], 2, 46, [1, 1, 1]),
  (cX3_ledFrom, 3, (some .int), yX3_ledFrom, 3, [], 1, 24, [1, 1, 1]),
  (cX3_innerFrom, 5, (some .int), yX3_innerFrom, 3, [], 0, 0, [1, 1, 1]),
  (cX3_innerBehind, 3, (some .int), yX3_innerBehind, 3, [], 0, 0, [1, 1]),
  (cX3_drawSentences, 3, none, yX3_drawSentences, 3, [], 3, 70, [1]),
  (cX3_unlikeWords, 4, (some .int), yX3_unlikeWords, 3, [], 1, 21, [1, 1]),
  (cX3_hasWord, 4, (some .boolean), yX3_hasWord, 3, [], 1, 21, [1, 1, 1]),
  (cX3_sharedWords, 6, (some .int), yX3_sharedWords, 3, [], 2, 44, [1, 1, 1, 1])]
def m_tab1 : List m_R := [(cX4_init, 1, none, yX4_init, 4, [], 2, 40, [1]),
  (cX4_restart, 1, none, yX4_restart, 4, [], 0, 0, [1]),
  (cX4_atEnd, 1, (some .boolean), yX4_atEnd, 4, [], 0, 0, [1]),
  (cX4_takes, 2, (some .boolean), yX4_takes, 4, [], 2, 42, [1, 1]),
  (cX4_takesKind, 2, (some .boolean), yX4_takesKind, 4, [], 0, 0, [1, 1]),
  (cX4_lastBoxGoesOn, 1, (some .boolean), yX4_lastBoxGoesOn, 4, [], 0, 0, [1]),
  (cX4_takesDigit, 3, (some .boolean), yX4_takesDigit, 4, [], 1, 20, [1, 1]),
  (cX4_takesOpening, 1, (some .boolean), yX4_takesOpening, 4, [], 1, 20, [1]),
  (cX4_takesClosing, 1, (some .boolean), yX4_takesClosing, 4, [], 0, 0, [1]),
  (cX5_init, 1, none, yX5_init, 5, [], 1, 20, [1]),
  (cX5_likeOf, 5, (some .int), yX5_likeOf, 5, [], 4, 97, [1, 1, 1]),
  (cX5_likeOfBoxes, 7, (some .int), yX5_likeOfBoxes, 5, [], 3, 71, [1, 1, 1, 1, 1]),
  (cX5_likeWithin, 5, (some .int), yX5_likeWithin, 5, [], 2, 47, [1, 1, 1]),
  (cX5_pairOneMore, 7, (some .int), yX5_pairOneMore, 5, [], 1, 21, [1, 1, 1]),
  (cX6_init, 1, none, yX6_init, 6, [], 1, 20, [1]),
  (cX6_isKind, 1, (some .boolean), yX6_isKind, 6, [], 0, 0, [1]),
  (cX6_isDigit, 1, (some .boolean), yX6_isDigit, 6, [], 0, 0, [1]),
  (cX7_init, 3, none, yX7_init, 7, [], 2, 82, [1, 1, 1]),
  (cX7_isOf, 2, (some .boolean), yX7_isOf, 7, [], 0, 0, [1, 1]),
  (cX7_drawn, 5, (some .int), yX7_drawn, 7, [], 3, 70, [1, 1, 1]),
  (cX7_firstWord, 4, (some .int), yX7_firstWord, 7, [], 4, 94, [1, 1, 1]),
  (cX8_init, 1, none, yX8_init, 8, [], 2, 40, [1]),
  (cX8_restart, 1, none, yX8_restart, 8, [], 0, 0, [1]),
  (cX8_atEnd, 1, (some .boolean), yX8_atEnd, 8, [], 0, 0, [1]),
  (cX8_takes, 2, (some .boolean), yX8_takes, 8, [], 1, 21, [1, 1]),
  (cX8_stepOfDigit, 1, (some .int), yX8_stepOfDigit, 8, [], 0, 0, [1]),
  (cX8_takesStep, 2, (some .boolean), yX8_takesStep, 8, [], 0, 0, [1, 1]),
  (cX9_init, 1, none, yX9_init, 9, [], 3, 60, [1]),
  (cX9_letters, 7, (some .int), yX9_letters, 9, [1], 1, 22, [1, 2]),
  (cX9_codeAt, 3, (some .int), yX9_codeAt, 9, [0], 0, 0, [2, 1])]
def m_tab2 : List m_R := [(cX9_blank, 2, (some .int), yX9_blank, 9, [], 0, 0, [1]),
  (cX9_fault, 2, (some .int), yX9_fault, 9, [], 4, 85, [1, 1]),
  (cX9_readSheet, 3, (some .int), yX9_readSheet, 9, [], 3, 63, [1, 1]),
  (cX9_sheetIsRead, 2, (some .boolean), yX9_sheetIsRead, 9, [], 4, 85, [1, 1]),
  (cX9_page, 1, (some .int), yX9_page, 9, [], 5, 107, [1]),
  (cX9_rule, 2, (some .int), yX9_rule, 9, [], 5, 106, [1, 1]),
  (cX9_isSort, 1, (some .boolean), yX9_isSort, 9, [], 0, 0, [1]),
  (cX9_pageAt, 2, (some (.object "RowsDrawn$Page")), yX9_pageAt, 9, [], 0, 0, [1, 1]),
  (cX9_ruleAt, 2, (some (.object "RowsDrawn$Rule")), yX9_ruleAt, 9, [], 0, 0, [1, 1]),
  (cX9_lawAt, 2, (some (.object "RowsDrawn$Law")), yX9_lawAt, 9, [], 0, 0, [1, 1]),
  (cX9_as, 4, (some .int), yX9_as, 9, [], 1, 21, [1, 1, 1]),
  (cX9_box, 5, (some .int), yX9_box, 9, [], 1, 21, [1, 1, 1, 1]),
  (cX9_gives, 5, (some .int), yX9_gives, 9, [], 4, 94, [1, 1, 1]),
  (cX9_word, 7, (some .int), yX9_word, 9, [], 4, 94, [1, 1, 1, 1]),
  (cX9_within, 6, (some .int), yX9_within, 9, [], 4, 94, [1, 1, 1, 1]),
  (cX9_mark, 6, (some .int), yX9_mark, 9, [], 2, 42, [1, 1, 1, 1]),
  (cX9_whole, 5, (some .int), yX9_whole, 9, [], 1, 21, [1, 1, 1]),
  (cX9_fits, 2, (some .int), yX9_fits, 9, [], 6, 135, [1, 1]),
  (cX9_refreshFitting, 1, none, yX9_refreshFitting, 9, [], 5, 115, [1]),
  (cX9_step, 3, (some .int), yX9_step, 9, [], 6, 135, [1, 1, 1]),
  (cX9_leads, 4, (some .int), yX9_leads, 9, [], 6, 135, [1, 1, 1]),
  (cX9_ask, 3, (some .int), yX9_ask, 9, [], 6, 135, [1, 1]),
  (cX9_law, 4, (some .int), yX9_law, 9, [], 2, 43, [1, 1, 1, 1]),
  (cX9_holds, 9, (some .int), yX9_holds, 9, [], 5, 119, [1, 1, 1, 1]),
  (cX9_broken, 10, (some .int), yX9_broken, 9, [], 5, 119, [1, 1, 1]),
  (cX9_mend, 9, (some .int), yX9_mend, 9, [], 5, 117, [1, 1, 1, 1, 1]),
  (cX9_like, 5, (some .int), yX9_like, 9, [], 5, 121, [1, 1, 1]),
  (cX9_nearest, 7, (some .int), yX9_nearest, 9, [], 5, 121, [1, 1]),
  (cX9_joined, 15, (some .int), yX9_joined, 9, [], 6, 146, [1, 1, 1, 1, 1, 1, 1]),
  (cX9_setOtherKeys, 6, none, yX9_setOtherKeys, 9, [], 5, 117, [1, 1, 1, 1])]
def m_tab3 : List m_R := [(cX9_pairsUpTo, 10, (some .int), yX9_pairsUpTo, 9, [], 5, 117, [1, 1, 1, 1, 1]),
  (cX9_key, 9, (some .int), yX9_key, 9, [], 5, 117, [1, 1, 1, 1, 1]),
  (cX9_count, 2, (some .int), yX9_count, 9, [], 2, 44, [1, 1]),
  (cX9_countOnPages, 5, (some .int), yX9_countOnPages, 9, [], 1, 20, [1, 1]),
  (cX9_digest, 5, (some .long), yX9_digest, 9, [1], 6, 148, [1]),
  (cX9_digestPage, 7, (some .long), yX9_digestPage, 9, [1, 4], 5, 121, [1, 2, 1]),
  (cX9_isIn, 2, (some .boolean), yX9_isIn, 9, [], 0, 0, [1, 1]),
  (cX9_leastOf, 1, (some .int), yX9_leastOf, 9, [], 0, 0, [1]),
  (cX9_nth, 4, (some .int), yX9_nth, 9, [], 1, 21, [1, 1]),
  (cX9_lengthOf, 1, (some .int), yX9_lengthOf, 9, [], 0, 0, [1]),
  (cX9_stepOf, 5, (some .int), yX9_stepOf, 9, [], 1, 20, [1, 1]),
  (cX10_init, 1, none, yX10_init, 10, [], 1, 20, [1]),
  (cX10_in, 6, (some .boolean), yX10_in, 10, [0, 2, 4], 0, 0, [2, 2, 2]),
  (cX10_bitsOf, 3, (some .int), yX10_bitsOf, 10, [], 0, 0, [1]),
  (cX10_has, 2, (some .boolean), yX10_has, 10, [], 0, 0, [1, 1]),
  (cX10_isPage, 2, (some .boolean), yX10_isPage, 10, [], 1, 25, [1, 1]),
  (cX10_isBox, 3, (some .boolean), yX10_isBox, 10, [], 2, 46, [1, 1, 1]),
  (cX10_letters, 9, (some .int), yX10_letters, 10, [1, 5], 0, 0, [1, 2]),
  (cX10_blank, 2, (some .int), yX10_blank, 10, [], 0, 0, [1]),
  (cX10_beginBox, 2, (some .boolean), yX10_beginBox, 10, [], 1, 25, [1, 1]),
  (cX10_goPage, 3, (some .boolean), yX10_goPage, 10, [], 2, 46, [1, 1]),
  (cX10_addStep, 2, none, yX10_addStep, 10, [], 0, 0, [1, 1]),
  (cX10_goRule, 2, (some .boolean), yX10_goRule, 10, [], 1, 25, [1, 1]),
  (cX10_faultOf, 3, (some .int), yX10_faultOf, 10, [], 3, 68, [1, 1]),
  (cX10_fault, 2, (some .int), yX10_fault, 10, [], 4, 90, [1, 1]),
  (cX10_page, 2, (some .int), yX10_page, 10, [], 4, 90, [1]),
  (cX10_rule, 3, (some .int), yX10_rule, 10, [], 4, 90, [1, 1]),
  (cX10_isRule, 2, (some .boolean), yX10_isRule, 10, [], 1, 25, [1, 1]),
  (cX10_as, 4, (some .int), yX10_as, 10, [], 2, 46, [1, 1, 1]),
  (cX10_innerMany, 5, (some .int), yX10_innerMany, 10, [], 0, 0, [1, 1, 1])]
def m_tab4 : List m_R := [(cX10_depth, 5, (some .int), yX10_depth, 10, [], 0, 0, [1, 1, 1]),
  (cX10_boxOf, 4, (some .int), yX10_boxOf, 10, [], 1, 24, [1, 1, 1, 1]),
  (cX10_box, 4, (some .int), yX10_box, 10, [], 3, 68, [1, 1, 1, 1]),
  (cX10_led, 10, (some .int), yX10_led, 10, [], 1, 24, [1, 1, 1, 1]),
  (cX10_placeIn, 5, (some .int), yX10_placeIn, 10, [], 0, 0, [1, 1, 1]),
  (cX10_aheadOf, 5, (some .int), yX10_aheadOf, 10, [], 0, 0, [1, 1, 1]),
  (cX10_givenFrom, 9, (some .int), yX10_givenFrom, 10, [], 2, 53, [1, 1, 1, 1]),
  (cX10_given, 3, (some .int), yX10_given, 10, [], 3, 81, [1, 1, 1]),
  (cX10_gives, 3, (some .int), yX10_gives, 10, [], 4, 103, [1, 1, 1]),
  (cX10_nth, 4, (some .int), yX10_nth, 10, [], 1, 21, [1, 1]),
  (cX10_word, 5, (some .int), yX10_word, 10, [], 4, 103, [1, 1, 1, 1]),
  (cX10_within, 4, (some .int), yX10_within, 10, [], 3, 81, [1, 1, 1, 1]),
  (cX10_mark, 5, (some .int), yX10_mark, 10, [], 3, 68, [1, 1, 1, 1]),
  (cX10_whole, 4, (some .int), yX10_whole, 10, [], 2, 46, [1, 1, 1]),
  (cX10_marked, 5, (some .int), yX10_marked, 10, [], 0, 0, [1, 1, 1]),
  (cX10_stepsOf, 1, (some .int), yX10_stepsOf, 10, [], 0, 0, [1]),
  (cX10_stepOf, 5, (some .int), yX10_stepOf, 10, [], 1, 20, [1, 1]),
  (cX10_asRule, 1, (some .int), yX10_asRule, 10, [], 0, 0, [1]),
  (cX10_layLeads, 4, none, yX10_layLeads, 10, [], 2, 53, [1, 1]),
  (cX10_leadsOn, 7, (some .int), yX10_leadsOn, 10, [], 2, 44, [1, 1]),
  (cX10_findFits, 6, none, yX10_findFits, 10, [], 3, 76, [1]),
  (cX10_findEvens, 5, none, yX10_findEvens, 10, [], 3, 76, [1]),
  (cX10_chosen, 5, (some .int), yX10_chosen, 10, [], 4, 101, [1, 1]),
  (cX10_fits, 3, (some .int), yX10_fits, 10, [], 5, 125, [1, 1]),
  (cX10_step, 4, (some .int), yX10_step, 10, [], 5, 125, [1, 1, 1]),
  (cX10_countLeads, 5, none, yX10_countLeads, 10, [], 3, 76, [1, 1]),
  (cX10_leads, 3, (some .int), yX10_leads, 10, [], 4, 101, [1, 1, 1]),
  (cX10_ask, 9, (some .int), yX10_ask, 10, [], 4, 101, [1, 1]),
  (cX10_law, 4, (some .int), yX10_law, 10, [], 1, 25, [1, 1, 1, 1]),
  (cX10_countWords, 4, none, yX10_countWords, 10, [], 1, 21, [1, 1, 1])]
def m_tab5 : List m_R := [(cX10_holdsAsBefore, 7, (some .boolean), yX10_holdsAsBefore, 10, [], 4, 103, [1, 1, 1, 1]),
  (cX10_holdsLaw, 7, (some .boolean), yX10_holdsLaw, 10, [], 5, 129, [1, 1, 1, 1]),
  (cX10_holds, 4, (some .int), yX10_holds, 10, [], 6, 155, [1, 1, 1, 1]),
  (cX10_brokenOf, 5, (some .int), yX10_brokenOf, 10, [], 6, 155, [1, 1, 1]),
  (cX10_broken, 3, (some .int), yX10_broken, 10, [], 7, 179, [1, 1, 1]),
  (cX10_likeness, 5, (some .int), yX10_likeness, 10, [], 2, 44, [1, 1, 1]),
  (cX10_mend, 13, (some .int), yX10_mend, 10, [], 4, 103, [1, 1, 1, 1, 1]),
  (cX10_innerOf, 6, (some .int), yX10_innerOf, 10, [], 0, 0, [1, 1, 1, 1]),
  (cX10_pairBest, 13, (some .int), yX10_pairBest, 10, [], 1, 25, [1, 1, 1, 1, 1]),
  (cX10_likeOf, 7, (some .int), yX10_likeOf, 10, [], 2, 57, [1, 1, 1]),
  (cX10_like, 3, (some .int), yX10_like, 10, [], 3, 83, [1, 1, 1]),
  (cX10_nearest, 6, (some .int), yX10_nearest, 10, [], 3, 83, [1, 1]),
  (cX10_firstWord, 5, (some .int), yX10_firstWord, 10, [], 3, 81, [1, 1, 1, 1]),
  (cX10_joined, 16, (some .int), yX10_joined, 10, [], 4, 105, [1, 1, 1, 1, 1, 1, 1]),
  (cX10_key, 6, (some .int), yX10_key, 10, [], 4, 105, [1, 1, 1, 1, 1]),
  (cX10_countOf, 4, (some .int), yX10_countOf, 10, [], 1, 24, [1, 1]),
  (cX10_count, 2, (some .int), yX10_count, 10, [], 2, 47, [1, 1]),
  (cX10_tell, 3, none, yX10_tell, 10, [1], 0, 0, [1, 2]),
  (cX10_digest, 3, (some .long), yX10_digest, 10, [], 7, 179, [1]),
  (cJ6_bitCount_0f7a4, 1, (some .int), yJ6_bitCount_0f7a4, 12, [], 0, 0, [1]),
  (cJ9_max_7cf53, 2, (some .int), yJ9_max_7cf53, 14, [], 0, 0, [1, 1]),
  (cJ9_min_7cf53, 2, (some .int), yJ9_min_7cf53, 14, [], 0, 0, [1, 1]),
  (cJ7_fill_53178, 4, none, yJ7_fill_53178, 13, [], 0, 0, [1, 1]),
  (cJ7_copyOf_59c91, 3, (some (.array .int)), yJ7_copyOf_59c91, 13, [], 1, 60, [1, 1]),
  (cL_law, 4, (some .boolean), yL_law, 11, [], 8, 201, [1])]
def m_tab : List m_R := m_tab0 ++ (m_tab1 ++ (m_tab2 ++ (m_tab3 ++ (m_tab4 ++ (m_tab5)))))
def m_row (m : Nat) : m_R := m_tab.getD m (⟨#[]⟩, 0, none, ⟨"", "", ""⟩, 0, [], 0, 0, [])
def m_code (m : Nat) : ByteArray := (m_row m).1
def m_maxL (m : Nat) : Nat := (m_row m).2.1
def m_ret (m : Nat) : Option FieldType := (m_row m).2.2.1
def m_nam (m : Nat) : MethodName := (m_row m).2.2.2.1
def m_own (m : Nat) : Nat := (m_row m).2.2.2.2.1
def m_LS (m : Nat) : List Nat := (m_row m).2.2.2.2.2.1
def m_fr (m : Nat) : Nat := (m_row m).2.2.2.2.2.2.1
def m_lo (m : Nat) : Nat := (m_row m).2.2.2.2.2.2.2.1
def m_wid (m : Nat) : List Nat := (m_row m).2.2.2.2.2.2.2.2
def m_cp : Nat := 173
def m_mx : Nat := 170
def m_law : Nat := 174
def m_oR : List String := [RX0, RX1, RX2, RX3, RX4, RX5, RX6, RX7, RX8, RX9, RX10, RL, RJ6, RJ7, RJ9]
def m_T (c : Nat) : u_T := match c with
  | 0 => TX0
  | 1 => TX1
  | 2 => TX2
  | 3 => TX3
  | 4 => TX4
  | 5 => TX5
  | 6 => TX7
  | 7 => TX8
  | 8 => TX9
  | _ => TX10
def m_ty (c : Nat) : Nat → FieldType := match c with
  | 0 => tyX0
  | 1 => tyX1
  | 2 => tyX2
  | 3 => tyX3
  | 4 => tyX4
  | 5 => tyX5
  | 6 => tyX7
  | 7 => tyX8
  | 8 => tyX9
  | _ => tyX10
def m_nf (c : Nat) : Nat := match c with
  | 0 => 7
  | 1 => 3
  | 2 => 4
  | 3 => 16
  | 4 => 8
  | 5 => 2
  | 6 => 2
  | 7 => 4
  | 8 => 15
  | _ => 38
def m_LF0 : List (Nat × Nat × (Nat × Nat) × Nat) := [(0, 9, (0, 5), 170), (0, 15, (0, 6), 172), (0, 18, (0, 0), 160), (0, 22, (0, 1), 162), (0, 25, (0, 2), 164), (0, 28, (0, 3), 166), (0, 54, (0, 4), 168), (0, 57, (3, 14), 427), (0, 84, (3, 0), 392), (0, 87, (3, 13), 423), (1, 9, (1, 0), 652), (1, 15, (1, 1), 654), (1, 18, (1, 2), 656), (1, 35, (3, 9), 413), (1, 47, (3, 0), 391), (1, 54, (3, 2), 400), (2, 14, (3, 14), 426), (2, 18, (2, 0), 194), (2, 24, (2, 1), 196), (2, 31, (2, 2), 198), (2, 34, (2, 3), 200), (3, 9, (3, 8), 411), (3, 15, (3, 14), 425), (3, 18, (4, 3), 108), (3, 24, (3, 0), 389), (3, 25, (4, 0), 103), (3, 34, (3, 1), 394), (3, 35, (4, 1), 105), (3, 38, (3, 2), 397), (3, 39, (4, 2), 107), (3, 42, (3, 3), 402), (3, 43, (3, 4), 404), (3, 46, (3, 5), 406), (3, 49, (3, 6), 409), (3, 52, (3, 7), 410), (3, 59, (3, 9), 412), (3, 62, (3, 10), 416), (3, 65, (3, 11), 418), (3, 72, (3, 12), 420), (3, 75, (3, 13), 422), (3, 92, (3, 15), 428), (4, 9, (4, 0), 102), (4, 15, (4, 1), 104), (4, 18, (4, 2), 106), (4, 21, (4, 3), 109), (4, 25, (4, 4), 110), (4, 28, (4, 5), 111), (4, 31, (4, 6), 112), (4, 35, (4, 7), 113), (5, 9, (5, 0), 217), (5, 15, (5, 1), 218), (5, 18, (3, 0), 390), (5, 28, (3, 1), 395), (5, 31, (3, 2), 398), (5, 34, (3, 5), 407), (7, 9, (6, 0), 475), (7, 15, (7, 0), 140), (7, 21, (7, 1), 141), (7, 30, (6, 1), 477), (7, 37, (3, 10), 417)]
def m_LF1 : List (Nat × Nat × (Nat × Nat) × Nat) := [(7, 44, (3, 9), 414), (7, 54, (3, 2), 399), (8, 9, (7, 0), 139), (8, 15, (7, 1), 142), (8, 19, (7, 2), 143), (8, 23, (7, 3), 144), (9, 9, (8, 0), 224), (9, 15, (8, 2), 226), (9, 21, (8, 4), 228), (9, 27, (8, 6), 230), (9, 34, (8, 8), 232), (9, 41, (8, 9), 233), (9, 48, (8, 10), 234), (9, 55, (8, 12), 236), (9, 62, (8, 13), 237), (9, 66, (8, 14), 238), (9, 74, (8, 1), 225), (9, 101, (8, 3), 227), (9, 107, (8, 11), 235), (9, 114, (8, 5), 229), (9, 120, (8, 7), 231), (9, 137, (3, 1), 396), (9, 140, (3, 2), 401), (9, 143, (3, 3), 403), (9, 146, (3, 5), 408), (9, 155, (3, 4), 405), (9, 173, (3, 13), 424), (9, 179, (0, 0), 161), (9, 182, (0, 1), 163), (9, 188, (0, 2), 165), (9, 191, (0, 3), 167), (9, 201, (0, 5), 171), (9, 204, (0, 4), 169), (9, 221, (3, 9), 415), (9, 231, (2, 1), 197), (9, 234, (2, 0), 195), (9, 237, (2, 3), 201), (9, 240, (2, 2), 199), (9, 262, (3, 0), 393), (9, 268, (3, 11), 419), (9, 271, (3, 12), 421), (9, 282, (6, 0), 476), (9, 291, (1, 0), 653), (9, 294, (1, 1), 655), (9, 297, (1, 2), 657), (10, 7, (9, 1), 799), (10, 13, (9, 2), 800), (10, 16, (9, 3), 801), (10, 19, (9, 4), 802), (10, 22, (9, 5), 803), (10, 25, (9, 6), 804), (10, 29, (9, 7), 805), (10, 32, (9, 11), 809), (10, 35, (9, 12), 810), (10, 38, (9, 13), 811), (10, 41, (9, 15), 813), (10, 44, (9, 18), 816), (10, 47, (9, 19), 817), (10, 50, (9, 20), 818), (10, 53, (9, 21), 819)]
def m_LF2 : List (Nat × Nat × (Nat × Nat) × Nat) := [(10, 56, (9, 22), 820), (10, 59, (9, 24), 822), (10, 62, (9, 25), 823), (10, 65, (9, 26), 824), (10, 68, (9, 28), 826), (10, 71, (9, 29), 827), (10, 74, (9, 30), 828), (10, 77, (9, 31), 829), (10, 80, (9, 32), 830), (10, 83, (9, 33), 831), (10, 86, (9, 34), 832), (10, 89, (9, 35), 833), (10, 92, (9, 36), 834), (10, 95, (9, 10), 808), (10, 99, (9, 0), 798), (10, 112, (9, 8), 806), (10, 119, (9, 14), 812), (10, 122, (9, 9), 807), (10, 132, (9, 16), 814), (10, 151, (9, 17), 815), (10, 213, (9, 23), 821), (10, 235, (9, 27), 825), (10, 280, (9, 37), 835)]
def m_LF : List (Nat × Nat × (Nat × Nat) × Nat) := m_LF0 ++ (m_LF1 ++ (m_LF2))
def m_LI0 : List (Nat × Nat × Int32 × Nat) := [(12, 265, 1431655765, 510), (12, 266, 858993459, 511), (12, 267, 252645135, 512)]
def m_LI : List (Nat × Nat × Int32 × Nat) := m_LI0
def m_LJ0 : List (Nat × Nat × Int64 × Nat) := [(9, 78, 255, 277), (9, 274, 331, 783), (9, 280, 31, 788), (10, 110, 255, 918), (10, 115, 97, 942), (10, 117, 101, 943), (10, 128, 48, 944), (10, 130, 57, 945), (10, 149, 5, 962), (10, 193, 2, 1037), (10, 225, 3, 1046), (10, 233, 99, 1103), (10, 252, 10, 1132), (10, 254, 12, 1133), (10, 270, 69, 1162), (10, 278, 31, 1188), (10, 284, 331, 1183), (11, 13, 4294967295, 1189)]
def m_LJ : List (Nat × Nat × Int64 × Nat) := m_LJ0
def m_LC0 : List (Nat × Nat × Nat × Nat) := [(9, 13, 3, 87), (9, 19, 6, 89), (9, 25, 1, 91), (9, 31, 4, 93), (9, 38, 7, 133), (9, 45, 0, 154), (9, 52, 2, 188), (9, 59, 5, 211), (11, 7, 8, 79), (11, 10, 9, 792)]
def m_LC : List (Nat × Nat × Nat × Nat) := m_LC0
def m_LT0 : List (Nat × Nat × (Nat × Nat) × Nat × (Nat × Nat × Nat × Nat)) := [(0, 31, (172, 2), 0, (584, 585, 73, 586)), (0, 42, (2, 3), 0, (592, 593, 68, 594)), (0, 68, (169, 1), 0, (607, 508, 77, 509)), (0, 78, (170, 2), 0, (612, 613, 74, 614)), (1, 21, (169, 1), 0, (677, 508, 77, 509)), (1, 50, (96, 2), 1, (686, 526, 64, 527)), (2, 27, (14, 3), 0, (717, 718, 69, 719)), (2, 42, (169, 1), 0, (721, 508, 77, 509)), (3, 28, (173, 2), 0, (369, 370, 73, 371)), (3, 68, (96, 2), 1, (525, 526, 64, 527)), (3, 85, (97, 1), 1, (536, 537, 64, 538)), (4, 38, (45, 1), 2, (305, 307, 65, 308)), (4, 45, (46, 1), 2, (313, 315, 65, 316)), (5, 41, (172, 2), 0, (738, 585, 73, 586)), (5, 47, (96, 2), 1, (739, 526, 64, 527)), (5, 54, (170, 2), 0, (744, 613, 74, 614)), (7, 24, (173, 2), 0, (474, 370, 73, 371)), (7, 40, (97, 1), 1, (543, 537, 64, 538)), (7, 51, (98, 2), 1, (762, 549, 64, 550)), (8, 26, (45, 1), 2, (336, 307, 65, 308)), (8, 33, (46, 1), 2, (342, 315, 65, 316)), (8, 36, (55, 1), 0, (344, 345, 67, 346)), (9, 70, (59, 2), 0, (274, 275, 64, 276)), (9, 111, (66, 1), 0, (466, 467, 64, 468)), (9, 149, (169, 1), 0, (507, 508, 77, 509)), (9, 162, (98, 2), 0, (548, 549, 64, 550)), (9, 185, (99, 1), 0, (624, 625, 64, 626)), (9, 198, (100, 2), 0, (631, 632, 64, 633)), (9, 258, (96, 2), 0, (551, 526, 64, 527)), (10, 102, (102, 3), 0, (927, 928, 71, 929)), (10, 172, (104, 2), 0, (1011, 1012, 71, 1013)), (10, 190, (129, 2), 0, (1026, 1027, 71, 1028)), (10, 195, (135, 1), 0, (1070, 1071, 71, 1072)), (10, 198, (137, 1), 0, (1059, 1060, 71, 1061)), (10, 201, (136, 2), 0, (1073, 1074, 71, 1075)), (10, 216, (103, 1), 0, (1080, 1081, 71, 1082))]
def m_LT : List (Nat × Nat × (Nat × Nat) × Nat × (Nat × Nat × Nat × Nat)) := m_LT0
def m_LV0 : List (Nat × Nat × (Nat × List (Nat × Nat)) × Nat × MethodName × (Nat × List (Nat × Nat × Nat × Nat) × Nat × Nat)) := [(0, 37, (0, [(3, 26)]), 0, ⟨"RowsDrawn$Page", "drawSentences", "()V"⟩, (587, [(588, 589, 72, 590)], 0, 0)), (0, 46, (3, [(0, 3)]), 0, ⟨"RowsDrawn$Fitting", "takeIn", "([LRowsDrawn$Page;II)V"⟩, (599, [(601, 15, 68, 602)], 0, 0)), (0, 50, (2, [(0, 6)]), 0, ⟨"RowsDrawn$Fitting", "bestToAsk", "([LRowsDrawn$Page;I)I"⟩, (615, [(617, 17, 68, 618)], 0, 0)), (0, 60, (1, [(3, 21)]), 0, ⟨"RowsDrawn$Page", "isMet", "(I)Z"⟩, (595, [(596, 597, 72, 598)], 0, 0)), (0, 64, (3, [(0, 4)]), 0, ⟨"RowsDrawn$Fitting", "evenOf", "([LRowsDrawn$Page;II)I"⟩, (603, [(605, 16, 68, 606)], 0, 0)), (0, 74, (0, [(3, 20)]), 0, ⟨"RowsDrawn$Page", "isUnmarked", "()Z"⟩, (608, [(609, 610, 72, 611)], 0, 0)), (0, 91, (1, [(3, 18)]), 0, ⟨"RowsDrawn$Page", "markOf", "(I)I"⟩, (619, [(561, 562, 72, 563)], 0, 0)), (0, 94, (1, [(0, 5)]), 0, ⟨"RowsDrawn$Fitting", "greaterPart", "(I)I"⟩, (620, [(621, 622, 68, 623)], 0, 0)), (1, 27, (1, [(1, 9)]), 0, ⟨"RowsDrawn$Law", "isBetween", "(I)Z"⟩, (678, [(680, 19, 78, 681)], 0, 0)), (1, 31, (2, [(1, 10)]), 0, ⟨"RowsDrawn$Law", "wordsAreBetween", "(LRowsDrawn$Page;I)Z"⟩, (682, [(684, 20, 78, 685)], 0, 0)), (1, 40, (1, [(3, 27)]), 0, ⟨"RowsDrawn$Page", "unlikeWords", "(I)I"⟩, (687, [(688, 689, 72, 690)], 0, 0)), (1, 43, (4, [(1, 11)]), 0, ⟨"RowsDrawn$Law", "isAsBefore", "(LRowsDrawn$Page;ILRowsDrawn$Page;I)Z"⟩, (691, [(693, 21, 78, 694)], 0, 0)), (1, 58, (3, [(3, 29)]), 0, ⟨"RowsDrawn$Page", "sharedWords", "(ILRowsDrawn$Page;I)I"⟩, (695, [(696, 697, 72, 698)], 0, 0)), (2, 9, (0, [(3, 26)]), 0, ⟨"RowsDrawn$Page", "drawSentences", "()V"⟩, (716, [(588, 589, 72, 590)], 0, 0)), (2, 38, (1, [(3, 27)]), 0, ⟨"RowsDrawn$Page", "unlikeWords", "(I)I"⟩, (720, [(688, 689, 72, 690)], 0, 0)), (3, 55, (2, [(3, 16)]), 0, ⟨"RowsDrawn$Page", "firstWith", "(II)I"⟩, (385, [(387, 8, 72, 388)], 0, 0)), (3, 79, (2, [(3, 23)]), 0, ⟨"RowsDrawn$Page", "ledFrom", "(II)I"⟩, (528, [(530, 11, 72, 531)], 0, 0)), (3, 82, (2, [(3, 24)]), 0, ⟨"RowsDrawn$Page", "innerFrom", "(II)I"⟩, (532, [(534, 12, 72, 535)], 0, 0)), (3, 89, (1, [(3, 25)]), 0, ⟨"RowsDrawn$Page", "innerBehind", "(I)I"⟩, (539, [(541, 13, 72, 542)], 0, 0)), (3, 95, (2, [(3, 22)]), 0, ⟨"RowsDrawn$Page", "led", "(II)I"⟩, (591, [(522, 523, 72, 524)], 0, 0)), (3, 98, (2, [(3, 28)]), 0, ⟨"RowsDrawn$Page", "hasWord", "(II)Z"⟩, (699, [(700, 701, 72, 702)], 0, 0)), (4, 42, (1, [(4, 34)]), 0, ⟨"RowsDrawn$PageReader", "takesKind", "(I)Z"⟩, (309, [(311, 1, 66, 312)], 0, 0)), (4, 48, (1, [(4, 36)]), 0, ⟨"RowsDrawn$PageReader", "takesDigit", "(I)Z"⟩, (317, [(319, 2, 66, 320)], 0, 0)), (4, 51, (0, [(4, 37)]), 0, ⟨"RowsDrawn$PageReader", "takesOpening", "()Z"⟩, (325, [(327, 4, 66, 328)], 0, 0)), (4, 55, (0, [(4, 38)]), 0, ⟨"RowsDrawn$PageReader", "takesClosing", "()Z"⟩, (329, [(331, 5, 66, 332)], 0, 0)), (4, 58, (0, [(4, 35)]), 0, ⟨"RowsDrawn$PageReader", "lastBoxGoesOn", "()Z"⟩, (321, [(323, 3, 66, 324)], 0, 0)), (5, 24, (4, [(5, 41)]), 0, ⟨"RowsDrawn$Pairing", "likeOfBoxes", "(LRowsDrawn$Page;ILRowsDrawn$Page;I)I"⟩, (730, [(732, 22, 70, 733)], 0, 0)), (5, 37, (2, [(5, 42)]), 0, ⟨"RowsDrawn$Pairing", "likeWithin", "(II)I"⟩, (734, [(736, 23, 70, 737)], 0, 0)), (5, 51, (2, [(5, 43)]), 0, ⟨"RowsDrawn$Pairing", "pairOneMore", "(II)I"⟩, (740, [(742, 24, 70, 743)], 0, 0)), (7, 31, (2, [(3, 22)]), 0, ⟨"RowsDrawn$Page", "led", "(II)I"⟩, (521, [(522, 523, 72, 524)], 0, 0)), (7, 47, (2, [(6, 49)]), 0, ⟨"RowsDrawn$Rule", "drawn", "(LRowsDrawn$Page;I)I"⟩, (761, [(518, 519, 76, 520)], 0, 0)), (8, 30, (1, [(7, 56)]), 0, ⟨"RowsDrawn$RuleReader", "takesStep", "(I)Z"⟩, (338, [(340, 6, 67, 341)], 0, 0)), (9, 80, (1, [(8, 62)]), 0, ⟨"RowsDrawn", "readSheet", "(LRowsDrawn$Reader;)I"⟩, (286, [(288, 0, 64, 289)], 0, 0)), (9, 84, (0, [(4, 31), (7, 52)]), 1, ⟨"RowsDrawn$Reader", "restart", "()V"⟩, (290, [(294, 293, 66, 295), (297, 296, 67, 298)], 292, 291)), (9, 89, (1, [(4, 33), (7, 54)]), 1, ⟨"RowsDrawn$Reader", "takes", "(I)Z"⟩, (299, [(303, 302, 66, 304), (334, 333, 67, 335)], 301, 300)), (9, 93, (0, [(4, 32), (7, 53)]), 1, ⟨"RowsDrawn$Reader", "atEnd", "()Z"⟩, (355, [(359, 358, 66, 360), (362, 361, 67, 363)], 357, 356)), (9, 97, (1, [(8, 63)]), 0, ⟨"RowsDrawn", "sheetIsRead", "(LRowsDrawn$Reader;)Z"⟩, (351, [(353, 7, 64, 354)], 0, 0)), (9, 123, (1, [(8, 68)]), 0, ⟨"RowsDrawn", "ruleAt", "(I)LRowsDrawn$Rule;"⟩, (487, [(489, 9, 64, 490)], 0, 0)), (9, 127, (1, [(6, 48)]), 0, ⟨"RowsDrawn$Rule", "isOf", "(I)Z"⟩, (491, [(492, 493, 76, 494)], 0, 0)), (9, 130, (1, [(8, 67)]), 0, ⟨"RowsDrawn", "pageAt", "(I)LRowsDrawn$Page;"⟩, (499, [(501, 10, 64, 502)], 0, 0))]
def m_LV1 : List (Nat × Nat × (Nat × List (Nat × Nat)) × Nat × MethodName × (Nat × List (Nat × Nat × Nat × Nat) × Nat × Nat)) := [(9, 134, (1, [(3, 17)]), 0, ⟨"RowsDrawn$Page", "has", "(I)Z"⟩, (503, [(504, 505, 72, 506)], 0, 0)), (9, 158, (2, [(6, 49)]), 0, ⟨"RowsDrawn$Rule", "drawn", "(LRowsDrawn$Page;I)I"⟩, (517, [(518, 519, 76, 520)], 0, 0)), (9, 166, (1, [(3, 18)]), 0, ⟨"RowsDrawn$Page", "markOf", "(I)I"⟩, (560, [(561, 562, 72, 563)], 0, 0)), (9, 169, (2, [(3, 19)]), 0, ⟨"RowsDrawn$Page", "setMark", "(II)V"⟩, (564, [(565, 566, 72, 567)], 0, 0)), (9, 176, (0, [(8, 78)]), 0, ⟨"RowsDrawn", "refreshFitting", "()V"⟩, (576, [(578, 14, 64, 579)], 0, 0)), (9, 194, (2, [(0, 1)]), 0, ⟨"RowsDrawn$Fitting", "workOut", "([LRowsDrawn$Page;I)V"⟩, (580, [(581, 582, 68, 583)], 0, 0)), (9, 207, (1, [(0, 5)]), 0, ⟨"RowsDrawn$Fitting", "greaterPart", "(I)I"⟩, (642, [(621, 622, 68, 623)], 0, 0)), (9, 213, (1, [(8, 69)]), 0, ⟨"RowsDrawn", "lawAt", "(I)LRowsDrawn$Law;"⟩, (669, [(671, 18, 64, 672)], 0, 0)), (9, 217, (4, [(1, 8)]), 0, ⟨"RowsDrawn$Law", "isKept", "(LRowsDrawn$Page;ILRowsDrawn$Page;I)Z"⟩, (673, [(674, 675, 78, 676)], 0, 0)), (9, 224, (3, [(3, 29)]), 0, ⟨"RowsDrawn$Page", "sharedWords", "(ILRowsDrawn$Page;I)I"⟩, (711, [(696, 697, 72, 698)], 0, 0)), (9, 228, (2, [(2, 13)]), 0, ⟨"RowsDrawn$Mending", "workOut", "(LRowsDrawn$Page;I)V"⟩, (712, [(713, 714, 69, 715)], 0, 0)), (9, 243, (2, [(5, 40)]), 0, ⟨"RowsDrawn$Pairing", "likeOf", "(LRowsDrawn$Page;LRowsDrawn$Page;)I"⟩, (726, [(727, 728, 70, 729)], 0, 0)), (9, 247, (3, [(8, 89)]), 0, ⟨"RowsDrawn", "setOtherKeys", "(LRowsDrawn$Rule;LRowsDrawn$Rule;LRowsDrawn$Page;)V"⟩, (753, [(755, 25, 64, 756)], 0, 0)), (9, 251, (4, [(8, 90)]), 0, ⟨"RowsDrawn", "pairsUpTo", "(LRowsDrawn$Rule;LRowsDrawn$Rule;LRowsDrawn$Page;I)I"⟩, (763, [(765, 26, 64, 766)], 0, 0)), (9, 255, (2, [(6, 50)]), 0, ⟨"RowsDrawn$Rule", "firstWord", "(LRowsDrawn$Page;I)I"⟩, (757, [(758, 759, 76, 760)], 0, 0)), (9, 265, (1, [(8, 93)]), 0, ⟨"RowsDrawn", "countOnPages", "(I)I"⟩, (775, [(777, 27, 64, 778)], 0, 0)), (9, 276, (2, [(8, 95)]), 0, ⟨"RowsDrawn", "digestPage", "(JLRowsDrawn$Page;)J"⟩, (784, [(786, 28, 64, 787)], 0, 0)), (9, 285, (2, [(8, 72)]), 0, ⟨"RowsDrawn", "gives", "(II)I"⟩, (789, [(514, 515, 64, 516)], 0, 0)), (9, 288, (2, [(8, 84)]), 0, ⟨"RowsDrawn", "broken", "(II)I"⟩, (790, [(704, 705, 64, 706)], 0, 0)), (9, 300, (1, [(8, 92)]), 0, ⟨"RowsDrawn", "count", "(I)I"⟩, (791, [(772, 773, 64, 774)], 0, 0)), (10, 106, (1, [(9, 105)]), 0, ⟨"RowsDrawnModel", "isPage", "(I)Z"⟩, (979, [(981, 36, 71, 982)], 0, 0)), (10, 125, (1, [(9, 109)]), 0, ⟨"RowsDrawnModel", "beginBox", "(I)Z"⟩, (938, [(940, 31, 71, 941)], 0, 0)), (10, 135, (1, [(9, 111)]), 0, ⟨"RowsDrawnModel", "addStep", "(I)V"⟩, (950, [(952, 33, 71, 953)], 0, 0)), (10, 139, (1, [(9, 110)]), 0, ⟨"RowsDrawnModel", "goPage", "(I)Z"⟩, (934, [(936, 30, 71, 937)], 0, 0)), (10, 142, (1, [(9, 112)]), 0, ⟨"RowsDrawnModel", "goRule", "(I)Z"⟩, (946, [(948, 32, 71, 949)], 0, 0)), (10, 145, (1, [(9, 113)]), 0, ⟨"RowsDrawnModel", "faultOf", "(I)I"⟩, (930, [(932, 29, 71, 933)], 0, 0)), (10, 154, (1, [(9, 117)]), 0, ⟨"RowsDrawnModel", "isRule", "(I)Z"⟩, (967, [(969, 34, 71, 970)], 0, 0)), (10, 157, (2, [(9, 119)]), 0, ⟨"RowsDrawnModel", "innerMany", "(II)I"⟩, (987, [(989, 38, 71, 990)], 0, 0)), (10, 161, (2, [(9, 120)]), 0, ⟨"RowsDrawnModel", "depth", "(II)I"⟩, (991, [(993, 39, 71, 994)], 0, 0)), (10, 164, (2, [(9, 106)]), 0, ⟨"RowsDrawnModel", "isBox", "(II)Z"⟩, (975, [(977, 35, 71, 978)], 0, 0)), (10, 168, (3, [(9, 121)]), 0, ⟨"RowsDrawnModel", "boxOf", "(III)I"⟩, (983, [(985, 37, 71, 986)], 0, 0)), (10, 175, (2, [(9, 124)]), 0, ⟨"RowsDrawnModel", "placeIn", "(II)I"⟩, (1014, [(1016, 43, 71, 1017)], 0, 0)), (10, 178, (2, [(9, 125)]), 0, ⟨"RowsDrawnModel", "aheadOf", "(II)I"⟩, (1018, [(1020, 44, 71, 1021)], 0, 0)), (10, 181, (3, [(9, 123)]), 0, ⟨"RowsDrawnModel", "led", "(III)I"⟩, (1007, [(1009, 42, 71, 1010)], 0, 0)), (10, 184, (3, [(9, 126)]), 0, ⟨"RowsDrawnModel", "givenFrom", "(III)I"⟩, (1003, [(1005, 41, 71, 1006)], 0, 0)), (10, 187, (2, [(9, 127)]), 0, ⟨"RowsDrawnModel", "given", "(II)I"⟩, (999, [(1001, 40, 71, 1002)], 0, 0)), (10, 204, (1, [(9, 138)]), 0, ⟨"RowsDrawnModel", "layLeads", "(I)V"⟩, (1055, [(1057, 47, 71, 1058)], 0, 0)), (10, 207, (2, [(9, 134)]), 0, ⟨"RowsDrawnModel", "marked", "(II)I"⟩, (1062, [(1064, 48, 71, 1065)], 0, 0)), (10, 210, (1, [(9, 139)]), 0, ⟨"RowsDrawnModel", "leadsOn", "(I)I"⟩, (1066, [(1068, 49, 71, 1069)], 0, 0)), (10, 219, (0, [(9, 140)]), 0, ⟨"RowsDrawnModel", "findFits", "()V"⟩, (1051, [(1053, 46, 71, 1054)], 0, 0))]
def m_LV2 : List (Nat × Nat × (Nat × List (Nat × Nat)) × Nat × MethodName × (Nat × List (Nat × Nat × Nat × Nat) × Nat × Nat)) := [(10, 222, (0, [(9, 141)]), 0, ⟨"RowsDrawnModel", "findEvens", "()V"⟩, (1076, [(1078, 50, 71, 1079)], 0, 0)), (10, 227, (1, [(9, 142)]), 0, ⟨"RowsDrawnModel", "chosen", "(I)I"⟩, (1047, [(1049, 45, 71, 1050)], 0, 0)), (10, 230, (1, [(9, 145)]), 0, ⟨"RowsDrawnModel", "countLeads", "(I)V"⟩, (1091, [(1093, 51, 71, 1094)], 0, 0)), (10, 238, (2, [(9, 149)]), 0, ⟨"RowsDrawnModel", "countWords", "(II)V"⟩, (1116, [(1118, 54, 71, 1119)], 0, 0)), (10, 242, (3, [(9, 150)]), 0, ⟨"RowsDrawnModel", "holdsAsBefore", "(III)Z"⟩, (1112, [(1114, 53, 71, 1115)], 0, 0)), (10, 246, (3, [(9, 151)]), 0, ⟨"RowsDrawnModel", "holdsLaw", "(III)Z"⟩, (1108, [(1110, 52, 71, 1111)], 0, 0)), (10, 249, (2, [(9, 153)]), 0, ⟨"RowsDrawnModel", "brokenOf", "(II)I"⟩, (1124, [(1126, 55, 71, 1127)], 0, 0)), (10, 256, (2, [(9, 155)]), 0, ⟨"RowsDrawnModel", "likeness", "(II)I"⟩, (1134, [(1136, 56, 71, 1137)], 0, 0)), (10, 259, (3, [(9, 157)]), 0, ⟨"RowsDrawnModel", "innerOf", "(II[I)I"⟩, (1150, [(1152, 59, 71, 1153)], 0, 0)), (10, 263, (4, [(9, 158)]), 0, ⟨"RowsDrawnModel", "pairBest", "(IIII)I"⟩, (1146, [(1148, 58, 71, 1149)], 0, 0)), (10, 267, (2, [(9, 159)]), 0, ⟨"RowsDrawnModel", "likeOf", "(II)I"⟩, (1142, [(1144, 57, 71, 1145)], 0, 0)), (10, 272, (3, [(9, 162)]), 0, ⟨"RowsDrawnModel", "firstWord", "(III)I"⟩, (1163, [(1165, 60, 71, 1166)], 0, 0)), (10, 275, (1, [(9, 165)]), 0, ⟨"RowsDrawnModel", "countOf", "(I)I"⟩, (1175, [(1177, 61, 71, 1178)], 0, 0)), (10, 286, (1, [(9, 167)]), 0, ⟨"RowsDrawnModel", "tell", "(J)V"⟩, (1184, [(1186, 62, 71, 1187)], 0, 0)), (11, 15, (1, [(8, 58)]), 0, ⟨"RowsDrawn", "letters", "(J)I"⟩, (270, [(271, 272, 64, 273)], 0, 0)), (11, 19, (1, [(9, 107)]), 0, ⟨"RowsDrawnModel", "letters", "(J)I"⟩, (914, [(915, 916, 71, 917)], 0, 0)), (11, 20, (0, [(8, 60)]), 0, ⟨"RowsDrawn", "blank", "()I"⟩, (278, [(279, 280, 64, 281)], 0, 0)), (11, 24, (0, [(9, 108)]), 0, ⟨"RowsDrawnModel", "blank", "()I"⟩, (919, [(920, 921, 71, 922)], 0, 0)), (11, 25, (1, [(8, 61)]), 0, ⟨"RowsDrawn", "fault", "(I)I"⟩, (282, [(283, 284, 64, 285)], 0, 0)), (11, 29, (1, [(9, 114)]), 0, ⟨"RowsDrawnModel", "fault", "(I)I"⟩, (923, [(924, 925, 71, 926)], 0, 0)), (11, 30, (0, [(8, 64)]), 0, ⟨"RowsDrawn", "page", "()I"⟩, (347, [(348, 349, 64, 350)], 0, 0)), (11, 33, (0, [(9, 115)]), 0, ⟨"RowsDrawnModel", "page", "()I"⟩, (954, [(955, 956, 71, 957)], 0, 0)), (11, 34, (1, [(8, 65)]), 0, ⟨"RowsDrawn", "rule", "(I)I"⟩, (462, [(463, 464, 64, 465)], 0, 0)), (11, 37, (1, [(9, 116)]), 0, ⟨"RowsDrawnModel", "rule", "(I)I"⟩, (958, [(959, 960, 71, 961)], 0, 0)), (11, 38, (2, [(8, 70)]), 0, ⟨"RowsDrawn", "as", "(II)I"⟩, (483, [(484, 485, 64, 486)], 0, 0)), (11, 42, (2, [(9, 118)]), 0, ⟨"RowsDrawnModel", "as", "(II)I"⟩, (963, [(964, 965, 71, 966)], 0, 0)), (11, 43, (3, [(8, 71)]), 0, ⟨"RowsDrawn", "box", "(III)I"⟩, (495, [(496, 497, 64, 498)], 0, 0)), (11, 47, (3, [(9, 122)]), 0, ⟨"RowsDrawnModel", "box", "(III)I"⟩, (971, [(972, 973, 71, 974)], 0, 0)), (11, 48, (2, [(8, 72)]), 0, ⟨"RowsDrawn", "gives", "(II)I"⟩, (513, [(514, 515, 64, 516)], 0, 0)), (11, 51, (2, [(9, 128)]), 0, ⟨"RowsDrawnModel", "gives", "(II)I"⟩, (995, [(996, 997, 71, 998)], 0, 0)), (11, 52, (3, [(8, 73)]), 0, ⟨"RowsDrawn", "word", "(III)I"⟩, (544, [(545, 546, 64, 547)], 0, 0)), (11, 55, (3, [(9, 130)]), 0, ⟨"RowsDrawnModel", "word", "(III)I"⟩, (1022, [(1023, 1024, 71, 1025)], 0, 0)), (11, 56, (3, [(8, 74)]), 0, ⟨"RowsDrawn", "within", "(III)I"⟩, (552, [(553, 554, 64, 555)], 0, 0)), (11, 59, (3, [(9, 131)]), 0, ⟨"RowsDrawnModel", "within", "(III)I"⟩, (1029, [(1030, 1031, 71, 1032)], 0, 0)), (11, 60, (3, [(8, 75)]), 0, ⟨"RowsDrawn", "mark", "(III)I"⟩, (556, [(557, 558, 64, 559)], 0, 0)), (11, 63, (3, [(9, 132)]), 0, ⟨"RowsDrawnModel", "mark", "(III)I"⟩, (1033, [(1034, 1035, 71, 1036)], 0, 0)), (11, 64, (2, [(8, 76)]), 0, ⟨"RowsDrawn", "whole", "(IZ)I"⟩, (568, [(569, 570, 64, 571)], 0, 0)), (11, 68, (2, [(9, 133)]), 0, ⟨"RowsDrawnModel", "whole", "(IZ)I"⟩, (1038, [(1039, 1040, 71, 1041)], 0, 0)), (11, 69, (1, [(8, 77)]), 0, ⟨"RowsDrawn", "fits", "(I)I"⟩, (572, [(573, 574, 64, 575)], 0, 0)), (11, 72, (1, [(9, 143)]), 0, ⟨"RowsDrawnModel", "fits", "(I)I"⟩, (1042, [(1043, 1044, 71, 1045)], 0, 0))]
def m_LV3 : List (Nat × Nat × (Nat × List (Nat × Nat)) × Nat × MethodName × (Nat × List (Nat × Nat × Nat × Nat) × Nat × Nat)) := [(11, 73, (2, [(8, 79)]), 0, ⟨"RowsDrawn", "step", "(II)I"⟩, (627, [(628, 629, 64, 630)], 0, 0)), (11, 76, (2, [(9, 144)]), 0, ⟨"RowsDrawnModel", "step", "(II)I"⟩, (1083, [(1084, 1085, 71, 1086)], 0, 0)), (11, 77, (2, [(8, 80)]), 0, ⟨"RowsDrawn", "leads", "(II)I"⟩, (634, [(635, 636, 64, 637)], 0, 0)), (11, 80, (2, [(9, 146)]), 0, ⟨"RowsDrawnModel", "leads", "(II)I"⟩, (1087, [(1088, 1089, 71, 1090)], 0, 0)), (11, 81, (1, [(8, 81)]), 0, ⟨"RowsDrawn", "ask", "(I)I"⟩, (638, [(639, 640, 64, 641)], 0, 0)), (11, 84, (1, [(9, 147)]), 0, ⟨"RowsDrawnModel", "ask", "(I)I"⟩, (1095, [(1096, 1097, 71, 1098)], 0, 0)), (11, 85, (3, [(8, 82)]), 0, ⟨"RowsDrawn", "law", "(III)I"⟩, (643, [(644, 645, 64, 646)], 0, 0)), (11, 88, (3, [(9, 148)]), 0, ⟨"RowsDrawnModel", "law", "(III)I"⟩, (1099, [(1100, 1101, 71, 1102)], 0, 0)), (11, 89, (3, [(8, 83)]), 0, ⟨"RowsDrawn", "holds", "(III)I"⟩, (665, [(666, 667, 64, 668)], 0, 0)), (11, 92, (3, [(9, 152)]), 0, ⟨"RowsDrawnModel", "holds", "(III)I"⟩, (1104, [(1105, 1106, 71, 1107)], 0, 0)), (11, 93, (2, [(8, 84)]), 0, ⟨"RowsDrawn", "broken", "(II)I"⟩, (703, [(704, 705, 64, 706)], 0, 0)), (11, 96, (2, [(9, 154)]), 0, ⟨"RowsDrawnModel", "broken", "(II)I"⟩, (1120, [(1121, 1122, 71, 1123)], 0, 0)), (11, 97, (4, [(8, 85)]), 0, ⟨"RowsDrawn", "mend", "(IIII)I"⟩, (707, [(708, 709, 64, 710)], 0, 0)), (11, 101, (4, [(9, 156)]), 0, ⟨"RowsDrawnModel", "mend", "(IIII)I"⟩, (1128, [(1129, 1130, 71, 1131)], 0, 0)), (11, 102, (2, [(8, 86)]), 0, ⟨"RowsDrawn", "like", "(II)I"⟩, (722, [(723, 724, 64, 725)], 0, 0)), (11, 105, (2, [(9, 160)]), 0, ⟨"RowsDrawnModel", "like", "(II)I"⟩, (1138, [(1139, 1140, 71, 1141)], 0, 0)), (11, 106, (1, [(8, 87)]), 0, ⟨"RowsDrawn", "nearest", "(I)I"⟩, (745, [(746, 747, 64, 748)], 0, 0)), (11, 109, (1, [(9, 161)]), 0, ⟨"RowsDrawnModel", "nearest", "(I)I"⟩, (1154, [(1155, 1156, 71, 1157)], 0, 0)), (11, 110, (6, [(8, 88)]), 0, ⟨"RowsDrawn", "joined", "(IIIIII)I"⟩, (749, [(750, 751, 64, 752)], 0, 0)), (11, 114, (6, [(9, 163)]), 0, ⟨"RowsDrawnModel", "joined", "(IIIIII)I"⟩, (1158, [(1159, 1160, 71, 1161)], 0, 0)), (11, 115, (4, [(8, 91)]), 0, ⟨"RowsDrawn", "key", "(IIII)I"⟩, (767, [(768, 769, 64, 770)], 0, 0)), (11, 118, (4, [(9, 164)]), 0, ⟨"RowsDrawnModel", "key", "(IIII)I"⟩, (1167, [(1168, 1169, 71, 1170)], 0, 0)), (11, 119, (1, [(8, 92)]), 0, ⟨"RowsDrawn", "count", "(I)I"⟩, (771, [(772, 773, 64, 774)], 0, 0)), (11, 122, (1, [(9, 166)]), 0, ⟨"RowsDrawnModel", "count", "(I)I"⟩, (1171, [(1172, 1173, 71, 1174)], 0, 0)), (11, 123, (0, [(8, 94)]), 0, ⟨"RowsDrawn", "digest", "()J"⟩, (779, [(780, 781, 64, 782)], 0, 0)), (11, 127, (0, [(9, 168)]), 0, ⟨"RowsDrawnModel", "digest", "()J"⟩, (1179, [(1180, 1181, 71, 1182)], 0, 0))]
def m_LV : List (Nat × Nat × (Nat × List (Nat × Nat)) × Nat × MethodName × (Nat × List (Nat × Nat × Nat × Nat) × Nat × Nat)) := m_LV0 ++ (m_LV1 ++ (m_LV2 ++ (m_LV3)))
def m_LP0 : List (Nat × Nat × Option (Nat × Nat) × Nat × (Nat × Nat × Nat × Nat)) := [(0, 3, none, 2, (159, 0, 0, 0)), (1, 3, none, 2, (651, 0, 0, 0)), (2, 3, none, 2, (193, 0, 0, 0)), (3, 3, none, 2, (368, 0, 0, 0)), (4, 3, some (44, 0), 1, (98, 99, 65, 100)), (5, 3, none, 2, (216, 0, 0, 0)), (6, 1, none, 2, (101, 0, 0, 0)), (7, 3, none, 2, (473, 0, 0, 0)), (8, 3, some (44, 0), 1, (138, 99, 65, 100)), (9, 3, none, 2, (84, 0, 0, 0)), (9, 33, some (30, 0), 1, (95, 96, 66, 97)), (9, 40, some (51, 0), 1, (135, 136, 67, 137)), (9, 47, some (0, 0), 1, (156, 157, 68, 158)), (9, 54, some (12, 0), 1, (190, 191, 69, 192)), (9, 61, some (39, 0), 1, (213, 214, 70, 215)), (9, 104, some (15, 1), 0, (365, 366, 72, 367)), (9, 117, some (47, 2), 0, (470, 471, 76, 472)), (9, 210, some (7, 3), 0, (648, 649, 78, 650)), (10, 1, none, 2, (797, 0, 0, 0)), (11, 9, some (57, 0), 0, (81, 82, 64, 83)), (11, 12, some (101, 0), 0, (794, 795, 71, 796))]
def m_LP : List (Nat × Nat × Option (Nat × Nat) × Nat × (Nat × Nat × Nat × Nat)) := m_LP0
def m_lkF (o i : Nat) : Option (Nat × Nat) := (m_LF.find? (fun q => q.1 == o && q.2.1 == i)).map (fun q => q.2.2.1)
def m_lkI (o i : Nat) : Option Int32 := (m_LI.find? (fun q => q.1 == o && q.2.1 == i)).map (fun q => q.2.2.1)
def m_lkJ (o i : Nat) : Option Int64 := (m_LJ.find? (fun q => q.1 == o && q.2.1 == i)).map (fun q => q.2.2.1)
def m_lkC (o i : Nat) : Option Nat := (m_LC.find? (fun q => q.1 == o && q.2.1 == i)).map (fun q => q.2.2.1)
def m_lkS (o i : Nat) : Option (Nat × Nat) := (m_LT.find? (fun q => q.1 == o && q.2.1 == i)).map (fun q => q.2.2.1)
def m_lkV (o i : Nat) : Option (Nat × List (Nat × Nat)) := (m_LV.find? (fun q => q.1 == o && q.2.1 == i)).map (fun q => q.2.2.1)
def m_lkP (o i : Nat) : Option (Option (Nat × Nat)) := (m_LP.find? (fun q => q.1 == o && q.2.1 == i)).map (fun q => q.2.2.1)
