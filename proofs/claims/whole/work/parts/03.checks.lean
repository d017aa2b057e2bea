set_option maxRecDepth 100000 in
theorem okX0_init : okM mX0_init = true := by decide +kernel
set_option maxRecDepth 100000 in
theorem okX0_become : okM mX0_become = true := by decide +kernel
set_option maxRecDepth 100000 in
theorem okX0_hasCitizen : okM mX0_hasCitizen = true := by decide +kernel
set_option maxRecDepth 100000 in
theorem okX0_hasItem : okM mX0_hasItem = true := by decide +kernel
set_option maxRecDepth 100000 in
theorem okX0_everyone : okM mX0_everyone = true := by decide +kernel
set_option maxRecDepth 100000 in
theorem okX0_addCitizen : okM mX0_addCitizen = true := by decide +kernel
set_option maxRecDepth 100000 in
theorem okX0_addItem : okM mX0_addItem = true := by decide +kernel
set_option maxRecDepth 100000 in
theorem okX0_kindOf : okM mX0_kindOf = true := by decide +kernel
set_option maxRecDepth 100000 in
theorem okX0_numberOf : okM mX0_numberOf = true := by decide +kernel
set_option maxRecDepth 100000 in
theorem okX0_bribeOf : okM mX0_bribeOf = true := by decide +kernel
set_option maxRecDepth 100000 in
theorem okX0_putKind : okM mX0_putKind = true := by decide +kernel
set_option maxRecDepth 100000 in
theorem okX0_putNumber : okM mX0_putNumber = true := by decide +kernel
set_option maxRecDepth 100000 in
theorem okX0_putBribe : okM mX0_putBribe = true := by decide +kernel
set_option maxRecDepth 100000 in
theorem okX0_takesOf : okM mX0_takesOf = true := by decide +kernel
set_option maxRecDepth 100000 in
theorem okX0_soFarOf : okM mX0_soFarOf = true := by decide +kernel
set_option maxRecDepth 100000 in
theorem okX0_doneAt : okM mX0_doneAt = true := by decide +kernel
set_option maxRecDepth 100000 in
theorem okX0_itemsDone : okM mX0_itemsDone = true := by decide +kernel
set_option maxRecDepth 100000 in
theorem okX0_drawBribes : okM mX0_drawBribes = true := by decide +kernel
set_option maxRecDepth 100000 in
theorem okX0_lookAt : okM mX0_lookAt = true := by decide +kernel
set_option maxRecDepth 100000 in
theorem okX0_isRead : okM mX0_isRead = true := by decide +kernel
set_option maxRecDepth 100000 in
theorem okX0_silenceOf : okM mX0_silenceOf = true := by decide +kernel
set_option maxRecDepth 100000 in
theorem okX0_timeOf : okM mX0_timeOf = true := by decide +kernel
set_option maxRecDepth 100000 in
theorem okX0_listed : okM mX0_listed = true := by decide +kernel
set_option maxRecDepth 100000 in
theorem okX0_spentOn : okM mX0_spentOn = true := by decide +kernel
set_option maxRecDepth 100000 in
theorem okX0_spentBy : okM mX0_spentBy = true := by decide +kernel
set_option maxRecDepth 100000 in
theorem okX0_spentByList : okM mX0_spentByList = true := by decide +kernel
set_option maxRecDepth 100000 in
theorem okX0_minutesLeft : okM mX0_minutesLeft = true := by decide +kernel
set_option maxRecDepth 100000 in
theorem okX0_hold : okM mX0_hold = true := by decide +kernel
set_option maxRecDepth 100000 in
theorem okX0_goOnWith : okM mX0_goOnWith = true := by decide +kernel
set_option maxRecDepth 100000 in
theorem okX0_doneWithin : okM mX0_doneWithin = true := by decide +kernel
set_option maxRecDepth 100000 in
theorem okX1_isOne : okM mX1_isOne = true := by decide +kernel
set_option maxRecDepth 100000 in
theorem okX1_above : okM mX1_above = true := by decide +kernel
set_option maxRecDepth 100000 in
theorem okX1_isUnder : okM mX1_isUnder = true := by decide +kernel
set_option maxRecDepth 100000 in
theorem okX1_isRead : okM mX1_isRead = true := by decide +kernel
set_option maxRecDepth 100000 in
theorem okX1_silence : okM mX1_silence = true := by decide +kernel
set_option maxRecDepth 100000 in
theorem okX1_time : okM mX1_time = true := by decide +kernel
set_option maxRecDepth 100000 in
theorem okX2_init : okM mX2_init = true := by decide +kernel
set_option maxRecDepth 100000 in
theorem okX2_weigh : okM mX2_weigh = true := by decide +kernel
set_option maxRecDepth 100000 in
theorem okX2_tryAll : okM mX2_tryAll = true := by decide +kernel
set_option maxRecDepth 100000 in
theorem okX2_sittingAfter : okM mX2_sittingAfter = true := by decide +kernel
set_option maxRecDepth 100000 in
theorem okX3_init : okM mX3_init = true := by decide +kernel
set_option maxRecDepth 100000 in
theorem okX3_addByte : okM mX3_addByte = true := by decide +kernel
set_option maxRecDepth 100000 in
theorem okX3_readTape : okM mX3_readTape = true := by decide +kernel
set_option maxRecDepth 100000 in
theorem okX3_passed : okM mX3_passed = true := by decide +kernel
set_option maxRecDepth 100000 in
theorem okX3_readOr : okM mX3_readOr = true := by decide +kernel
set_option maxRecDepth 100000 in
theorem okX3_readAnd : okM mX3_readAnd = true := by decide +kernel
set_option maxRecDepth 100000 in
theorem okX3_readNot : okM mX3_readNot = true := by decide +kernel
set_option maxRecDepth 100000 in
theorem okX3_readComparison : okM mX3_readComparison = true := by decide +kernel
set_option maxRecDepth 100000 in
theorem okX3_readSum : okM mX3_readSum = true := by decide +kernel
set_option maxRecDepth 100000 in
theorem okX3_readTerm : okM mX3_readTerm = true := by decide +kernel
set_option maxRecDepth 100000 in
theorem okX3_readOne : okM mX3_readOne = true := by decide +kernel
set_option maxRecDepth 100000 in
theorem okX3_passToken : okM mX3_passToken = true := by decide +kernel
set_option maxRecDepth 100000 in
theorem okX3_isBlank : okM mX3_isBlank = true := by decide +kernel
set_option maxRecDepth 100000 in
theorem okX3_isLetter : okM mX3_isLetter = true := by decide +kernel
set_option maxRecDepth 100000 in
theorem okX3_isDigit : okM mX3_isDigit = true := by decide +kernel
set_option maxRecDepth 100000 in
theorem okX3_isSign : okM mX3_isSign = true := by decide +kernel
set_option maxRecDepth 100000 in
theorem okX3_passNumber : okM mX3_passNumber = true := by decide +kernel
set_option maxRecDepth 100000 in
theorem okX3_passWord : okM mX3_passWord = true := by decide +kernel
set_option maxRecDepth 100000 in
theorem okX3_isSpelt : okM mX3_isSpelt = true := by decide +kernel
set_option maxRecDepth 100000 in
theorem okX3_spelling : okM mX3_spelling = true := by decide +kernel
set_option maxRecDepth 100000 in
theorem okX4_init : okM mX4_init = true := by decide +kernel
set_option maxRecDepth 100000 in
theorem okX4_isSort : okM mX4_isSort = true := by decide +kernel
set_option maxRecDepth 100000 in
theorem okX4_hasPlace : okM mX4_hasPlace = true := by decide +kernel
set_option maxRecDepth 100000 in
theorem okX4_sortOf : okM mX4_sortOf = true := by decide +kernel
set_option maxRecDepth 100000 in
theorem okX4_sizeOf : okM mX4_sizeOf = true := by decide +kernel
set_option maxRecDepth 100000 in
theorem okX4_isMissing : okM mX4_isMissing = true := by decide +kernel
set_option maxRecDepth 100000 in
theorem okX4_hasItem : okM mX4_hasItem = true := by decide +kernel
set_option maxRecDepth 100000 in
theorem okX4_hasItems : okM mX4_hasItems = true := by decide +kernel
set_option maxRecDepth 100000 in
theorem okX4_lay : okM mX4_lay = true := by decide +kernel
set_option maxRecDepth 100000 in
theorem okX4_store : okM mX4_store = true := by decide +kernel
set_option maxRecDepth 100000 in
theorem okX4_valueAt : okM mX4_valueAt = true := by decide +kernel
set_option maxRecDepth 100000 in
theorem okX4_move : okM mX4_move = true := by decide +kernel
set_option maxRecDepth 100000 in
theorem okX5_init : okM mX5_init = true := by decide +kernel
set_option maxRecDepth 100000 in
theorem okX5_cellOfName : okM mX5_cellOfName = true := by decide +kernel
set_option maxRecDepth 100000 in
theorem okX5_isFull : okM mX5_isFull = true := by decide +kernel
set_option maxRecDepth 100000 in
theorem okX5_hasText : okM mX5_hasText = true := by decide +kernel
set_option maxRecDepth 100000 in
theorem okX5_begin : okM mX5_begin = true := by decide +kernel
set_option maxRecDepth 100000 in
theorem okX5_put : okM mX5_put = true := by decide +kernel
set_option maxRecDepth 100000 in
theorem okX5_endPart : okM mX5_endPart = true := by decide +kernel
set_option maxRecDepth 100000 in
theorem okX5_keep : okM mX5_keep = true := by decide +kernel
set_option maxRecDepth 100000 in
theorem okX5_value : okM mX5_value = true := by decide +kernel
set_option maxRecDepth 100000 in
theorem okX5_valueOfName : okM mX5_valueOfName = true := by decide +kernel
set_option maxRecDepth 100000 in
theorem okX5_ofBoth : okM mX5_ofBoth = true := by decide +kernel
set_option maxRecDepth 100000 in
theorem okX6_init : okM mX6_init = true := by decide +kernel
set_option maxRecDepth 100000 in
theorem okX6_set : okM mX6_set = true := by decide +kernel
set_option maxRecDepth 100000 in
theorem okX6_highest : okM mX6_highest = true := by decide +kernel
set_option maxRecDepth 100000 in
theorem okX6_citizen : okM mX6_citizen = true := by decide +kernel
set_option maxRecDepth 100000 in
theorem okX6_business : okM mX6_business = true := by decide +kernel
set_option maxRecDepth 100000 in
theorem okX6_told : okM mX6_told = true := by decide +kernel
set_option maxRecDepth 100000 in
theorem okX6_toldOfCitizen : okM mX6_toldOfCitizen = true := by decide +kernel
set_option maxRecDepth 100000 in
theorem okX6_toldOfItem : okM mX6_toldOfItem = true := by decide +kernel
set_option maxRecDepth 100000 in
theorem okX6_feed : okM mX6_feed = true := by decide +kernel
set_option maxRecDepth 100000 in
theorem okX6_text : okM mX6_text = true := by decide +kernel
set_option maxRecDepth 100000 in
theorem okX6_force : okM mX6_force = true := by decide +kernel
set_option maxRecDepth 100000 in
theorem okX6_list : okM mX6_list = true := by decide +kernel
set_option maxRecDepth 100000 in
theorem okX6_by : okM mX6_by = true := by decide +kernel
set_option maxRecDepth 100000 in
theorem okX6_sit : okM mX6_sit = true := by decide +kernel
set_option maxRecDepth 100000 in
theorem okX6_run : okM mX6_run = true := by decide +kernel
set_option maxRecDepth 100000 in
theorem okX6_shortest : okM mX6_shortest = true := by decide +kernel
set_option maxRecDepth 100000 in
theorem okX6_fewest : okM mX6_fewest = true := by decide +kernel
set_option maxRecDepth 100000 in
theorem okX6_soonest : okM mX6_soonest = true := by decide +kernel
set_option maxRecDepth 100000 in
theorem okX6_bribe : okM mX6_bribe = true := by decide +kernel
set_option maxRecDepth 100000 in
theorem okX6_order : okM mX6_order = true := by decide +kernel
set_option maxRecDepth 100000 in
theorem okX6_turned : okM mX6_turned = true := by decide +kernel
set_option maxRecDepth 100000 in
theorem okX6_tells : okM mX6_tells = true := by decide +kernel
set_option maxRecDepth 100000 in
theorem okX6_canBeAsked : okM mX6_canBeAsked = true := by decide +kernel
set_option maxRecDepth 100000 in
theorem okX6_ways : okM mX6_ways = true := by decide +kernel
set_option maxRecDepth 100000 in
theorem okX6_textsBy : okM mX6_textsBy = true := by decide +kernel
set_option maxRecDepth 100000 in
theorem okX6_ofOneBy : okM mX6_ofOneBy = true := by decide +kernel
set_option maxRecDepth 100000 in
theorem okX6_kindsBy : okM mX6_kindsBy = true := by decide +kernel
set_option maxRecDepth 100000 in
theorem okX6_numbersBy : okM mX6_numbersBy = true := by decide +kernel
set_option maxRecDepth 100000 in
theorem okX6_bribesBy : okM mX6_bribesBy = true := by decide +kernel
set_option maxRecDepth 100000 in
theorem okX6_film : okM mX6_film = true := by decide +kernel
set_option maxRecDepth 100000 in
theorem okX6_drawn : okM mX6_drawn = true := by decide +kernel
set_option maxRecDepth 100000 in
theorem okX6_chance : okM mX6_chance = true := by decide +kernel
set_option maxRecDepth 100000 in
theorem okX6_inLowestTerms : okM mX6_inLowestTerms = true := by decide +kernel
set_option maxRecDepth 100000 in
theorem okX6_image : okM mX6_image = true := by decide +kernel
set_option maxRecDepth 100000 in
theorem okX6_back : okM mX6_back = true := by decide +kernel
set_option maxRecDepth 100000 in
theorem okX6_count : okM mX6_count = true := by decide +kernel
set_option maxRecDepth 100000 in
theorem okX6_sheet : okM mX6_sheet = true := by decide +kernel
set_option maxRecDepth 100000 in
theorem okX6_cell : okM mX6_cell = true := by decide +kernel
set_option maxRecDepth 100000 in
theorem okX6_copy : okM mX6_copy = true := by decide +kernel
set_option maxRecDepth 100000 in
theorem okX6_citizens : okM mX6_citizens = true := by decide +kernel
set_option maxRecDepth 100000 in
theorem okX6_taken : okM mX6_taken = true := by decide +kernel
set_option maxRecDepth 100000 in
theorem okX7_in : okM mX7_in = true := by decide +kernel
set_option maxRecDepth 100000 in
theorem okX7_within : okM mX7_within = true := by decide +kernel
set_option maxRecDepth 100000 in
theorem okX7_init : okM mX7_init = true := by decide +kernel
set_option maxRecDepth 100000 in
theorem okX7_spell : okM mX7_spell = true := by decide +kernel
set_option maxRecDepth 100000 in
theorem okX7_isOne : okM mX7_isOne = true := by decide +kernel
set_option maxRecDepth 100000 in
theorem okX7_isItem : okM mX7_isItem = true := by decide +kernel
set_option maxRecDepth 100000 in
theorem okX7_mostOf : okM mX7_mostOf = true := by decide +kernel
set_option maxRecDepth 100000 in
theorem okX7_set : okM mX7_set = true := by decide +kernel
set_option maxRecDepth 100000 in
theorem okX7_lays : okM mX7_lays = true := by decide +kernel
set_option maxRecDepth 100000 in
theorem okX7_citizen : okM mX7_citizen = true := by decide +kernel
set_option maxRecDepth 100000 in
theorem okX7_business : okM mX7_business = true := by decide +kernel
set_option maxRecDepth 100000 in
theorem okX7_told : okM mX7_told = true := by decide +kernel
set_option maxRecDepth 100000 in
theorem okX7_bitsOf : okM mX7_bitsOf = true := by decide +kernel
set_option maxRecDepth 100000 in
theorem okX7_feed : okM mX7_feed = true := by decide +kernel
set_option maxRecDepth 100000 in
theorem okX7_byteAt : okM mX7_byteAt = true := by decide +kernel
set_option maxRecDepth 100000 in
theorem okX7_next : okM mX7_next = true := by decide +kernel
set_option maxRecDepth 100000 in
theorem okX7_fail : okM mX7_fail = true := by decide +kernel
set_option maxRecDepth 100000 in
theorem okX7_isLetter : okM mX7_isLetter = true := by decide +kernel
set_option maxRecDepth 100000 in
theorem okX7_isWord : okM mX7_isWord = true := by decide +kernel
set_option maxRecDepth 100000 in
theorem okX7_isSign : okM mX7_isSign = true := by decide +kernel
set_option maxRecDepth 100000 in
theorem okX7_opens : okM mX7_opens = true := by decide +kernel
set_option maxRecDepth 100000 in
theorem okX7_name : okM mX7_name = true := by decide +kernel
set_option maxRecDepth 100000 in
theorem okX7_atom : okM mX7_atom = true := by decide +kernel
set_option maxRecDepth 100000 in
theorem okX7_term : okM mX7_term = true := by decide +kernel
set_option maxRecDepth 100000 in
theorem okX7_added : okM mX7_added = true := by decide +kernel
set_option maxRecDepth 100000 in
theorem okX7_not : okM mX7_not = true := by decide +kernel
set_option maxRecDepth 100000 in
theorem okX7_both : okM mX7_both = true := by decide +kernel
set_option maxRecDepth 100000 in
theorem okX7_either : okM mX7_either = true := by decide +kernel
set_option maxRecDepth 100000 in
theorem okX7_part : okM mX7_part = true := by decide +kernel
set_option maxRecDepth 100000 in
theorem okX7_read : okM mX7_read = true := by decide +kernel
set_option maxRecDepth 100000 in
theorem okX7_text : okM mX7_text = true := by decide +kernel
set_option maxRecDepth 100000 in
theorem okX7_force : okM mX7_force = true := by decide +kernel
set_option maxRecDepth 100000 in
theorem okX7_asks : okM mX7_asks = true := by decide +kernel
set_option maxRecDepth 100000 in
theorem okX7_isRead : okM mX7_isRead = true := by decide +kernel
set_option maxRecDepth 100000 in
theorem okX7_silenceOf : okM mX7_silenceOf = true := by decide +kernel
set_option maxRecDepth 100000 in
theorem okX7_timeOf : okM mX7_timeOf = true := by decide +kernel
set_option maxRecDepth 100000 in
theorem okX7_listNow : okM mX7_listNow = true := by decide +kernel
set_option maxRecDepth 100000 in
theorem okX7_goneBy : okM mX7_goneBy = true := by decide +kernel
set_option maxRecDepth 100000 in
theorem okX7_gone : okM mX7_gone = true := by decide +kernel
set_option maxRecDepth 100000 in
theorem okX7_leftNow : okM mX7_leftNow = true := by decide +kernel
set_option maxRecDepth 100000 in
theorem okX7_list : okM mX7_list = true := by decide +kernel
set_option maxRecDepth 100000 in
theorem okX7_by : okM mX7_by = true := by decide +kernel
set_option maxRecDepth 100000 in
theorem okX7_sits : okM mX7_sits = true := by decide +kernel
set_option maxRecDepth 100000 in
theorem okX7_sit : okM mX7_sit = true := by decide +kernel
set_option maxRecDepth 100000 in
theorem okX7_laysAside : okM mX7_laysAside = true := by decide +kernel
set_option maxRecDepth 100000 in
theorem okX7_laysBack : okM mX7_laysBack = true := by decide +kernel
set_option maxRecDepth 100000 in
theorem okX7_doneMany : okM mX7_doneMany = true := by decide +kernel
set_option maxRecDepth 100000 in
theorem okX7_run : okM mX7_run = true := by decide +kernel
set_option maxRecDepth 100000 in
theorem okX7_shortest : okM mX7_shortest = true := by decide +kernel
set_option maxRecDepth 100000 in
theorem okX7_fewest : okM mX7_fewest = true := by decide +kernel
set_option maxRecDepth 100000 in
theorem okX7_doneAt : okM mX7_doneAt = true := by decide +kernel
set_option maxRecDepth 100000 in
theorem okX7_soonest : okM mX7_soonest = true := by decide +kernel
set_option maxRecDepth 100000 in
theorem okX7_bribe : okM mX7_bribe = true := by decide +kernel
set_option maxRecDepth 100000 in
theorem okX7_sittingFor : okM mX7_sittingFor = true := by decide +kernel
set_option maxRecDepth 100000 in
theorem okX7_seeks : okM mX7_seeks = true := by decide +kernel
set_option maxRecDepth 100000 in
theorem okX7_order : okM mX7_order = true := by decide +kernel
set_option maxRecDepth 100000 in
theorem okX7_turned : okM mX7_turned = true := by decide +kernel
set_option maxRecDepth 100000 in
theorem okX7_looks : okM mX7_looks = true := by decide +kernel
set_option maxRecDepth 100000 in
theorem okX7_tells : okM mX7_tells = true := by decide +kernel
set_option maxRecDepth 100000 in
theorem okX7_film : okM mX7_film = true := by decide +kernel
set_option maxRecDepth 100000 in
theorem okX7_draws : okM mX7_draws = true := by decide +kernel
set_option maxRecDepth 100000 in
theorem okX7_bribesAgain : okM mX7_bribesAgain = true := by decide +kernel
set_option maxRecDepth 100000 in
theorem okX7_drawn : okM mX7_drawn = true := by decide +kernel
set_option maxRecDepth 100000 in
theorem okX7_chance : okM mX7_chance = true := by decide +kernel
set_option maxRecDepth 100000 in
theorem okX7_image : okM mX7_image = true := by decide +kernel
set_option maxRecDepth 100000 in
theorem okX7_back : okM mX7_back = true := by decide +kernel
set_option maxRecDepth 100000 in
theorem okX7_count : okM mX7_count = true := by decide +kernel
set_option maxRecDepth 100000 in
theorem okX7_isSheet : okM mX7_isSheet = true := by decide +kernel
set_option maxRecDepth 100000 in
theorem okX7_sheet : okM mX7_sheet = true := by decide +kernel
set_option maxRecDepth 100000 in
theorem okX7_cell : okM mX7_cell = true := by decide +kernel
set_option maxRecDepth 100000 in
theorem okX7_copy : okM mX7_copy = true := by decide +kernel
set_option maxRecDepth 100000 in
theorem okX7_citizens : okM mX7_citizens = true := by decide +kernel
set_option maxRecDepth 100000 in
theorem okX7_over : okM mX7_over = true := by decide +kernel
set_option maxRecDepth 100000 in
theorem okX7_taken : okM mX7_taken = true := by decide +kernel
set_option maxRecDepth 100000 in
theorem okJ6_bitCount_0f7a4 : okM mJ6_bitCount_0f7a4 = true := by decide +kernel
set_option maxRecDepth 100000 in
theorem okJ0_length_8abf5 : okM mJ0_length_8abf5 = true := by decide +kernel
set_option maxRecDepth 100000 in
theorem okJ0_charAt_5068e : okM mJ0_charAt_5068e = true := by decide +kernel
set_option maxRecDepth 100000 in
theorem okJ0_coder_7d493 : okM mJ0_coder_7d493 = true := by decide +kernel
set_option maxRecDepth 100000 in
theorem okJ0_isLatin1_aae02 : okM mJ0_isLatin1_aae02 = true := by decide +kernel
set_option maxRecDepth 100000 in
theorem okJ0_checkIndex_df160 : okM mJ0_checkIndex_df160 = true := by decide +kernel
set_option maxRecDepth 100000 in
theorem okJ1_charAt_3b067 : okM mJ1_charAt_3b067 = true := by decide +kernel
set_option maxRecDepth 100000 in
theorem okJ3_checkIndex_8e157 : okM mJ3_checkIndex_8e157 = true := by decide +kernel
set_option maxRecDepth 100000 in
theorem fX5_begin : okYv mX5_begin 0 112 142 0 = true := by
  unfold okYv
  rw [okX5_begin]
  decide +kernel
set_option maxRecDepth 100000 in
theorem fX4_store : okYv mX4_store 3 116 799 68 = true := by
  unfold okYv
  rw [okX4_store]
  decide +kernel
set_option maxRecDepth 100000 in
theorem fX6_copy : okYv mX6_copy 5 111 844 845 = true := by
  unfold okYv
  rw [okX6_copy]
  decide +kernel
set_option maxRecDepth 100000 in
theorem fX7_part : okYv mX7_part 1 117 1118 83 = true := by
  unfold okYv
  rw [okX7_part]
  decide +kernel
set_option maxRecDepth 100000 in
theorem fX7_sheet : okYv mX7_sheet 3 117 1306 1307 = true := by
  unfold okYv
  rw [okX7_sheet]
  decide +kernel
set_option maxRecDepth 100000 in
theorem fX7_listNow : okYv mX7_listNow 0 117 1078 75 = true := by
  unfold okYv
  rw [okX7_listNow]
  decide +kernel
set_option maxRecDepth 100000 in
theorem fJ6_bitCount_0f7a4 : okYs mJ6_bitCount_0f7a4 1 118 365 = true := by
  unfold okYs
  rw [okJ6_bitCount_0f7a4]
  decide +kernel
set_option maxRecDepth 100000 in
theorem fX2_sittingAfter : okYv mX2_sittingAfter 1 115 717 51 = true := by
  unfold okYv
  rw [okX2_sittingAfter]
  decide +kernel
set_option maxRecDepth 100000 in
theorem fX3_readAnd : okYv mX3_readAnd 1 113 585 34 = true := by
  unfold okYv
  rw [okX3_readAnd]
  decide +kernel
set_option maxRecDepth 100000 in
theorem fX3_readTape : okYv mX3_readTape 0 113 481 27 = true := by
  unfold okYv
  rw [okX3_readTape]
  decide +kernel
set_option maxRecDepth 100000 in
theorem fX7_isRead : okYv mX7_isRead 2 117 1082 76 = true := by
  unfold okYv
  rw [okX7_isRead]
  decide +kernel
set_option maxRecDepth 100000 in
theorem fX7_doneAt : okYv mX7_doneAt 1 117 1266 104 = true := by
  unfold okYv
  rw [okX7_doneAt]
  decide +kernel
set_option maxRecDepth 100000 in
theorem fX6_canBeAsked : okYv mX6_canBeAsked 1 111 733 53 = true := by
  unfold okYv
  rw [okX6_canBeAsked]
  decide +kernel
set_option maxRecDepth 100000 in
theorem fX3_isLetter : okYs mX3_isLetter 1 113 492 = true := by
  unfold okYs
  rw [okX3_isLetter]
  decide +kernel
set_option maxRecDepth 100000 in
theorem fX7_by : okYv mX7_by 1 117 1223 1224 = true := by
  unfold okYv
  rw [okX7_by]
  decide +kernel
set_option maxRecDepth 100000 in
theorem fX0_bribeOf : okYv mX0_bribeOf 1 114 346 7 = true := by
  unfold okYv
  rw [okX0_bribeOf]
  decide +kernel
set_option maxRecDepth 100000 in
theorem fX4_hasPlace : okYv mX4_hasPlace 1 116 729 52 = true := by
  unfold okYv
  rw [okX4_hasPlace]
  decide +kernel
set_option maxRecDepth 100000 in
theorem fX7_order : okYv mX7_order 1 117 1274 1275 = true := by
  unfold okYv
  rw [okX7_order]
  decide +kernel
set_option maxRecDepth 100000 in
theorem fX7_image : okYv mX7_image 0 117 1330 1331 = true := by
  unfold okYv
  rw [okX7_image]
  decide +kernel
set_option maxRecDepth 100000 in
theorem fJ0_checkIndex_df160 : okYs mJ0_checkIndex_df160 2 121 539 = true := by
  unfold okYs
  rw [okJ0_checkIndex_df160]
  decide +kernel
set_option maxRecDepth 100000 in
theorem fX7_lays : okYv mX7_lays 3 117 1178 96 = true := by
  unfold okYv
  rw [okX7_lays]
  decide +kernel
set_option maxRecDepth 100000 in
theorem fX6_sheet : okYv mX6_sheet 3 111 832 833 = true := by
  unfold okYv
  rw [okX6_sheet]
  decide +kernel
set_option maxRecDepth 100000 in
theorem fX6_toldOfItem : okYv mX6_toldOfItem 2 111 417 17 = true := by
  unfold okYv
  rw [okX6_toldOfItem]
  decide +kernel
set_option maxRecDepth 100000 in
theorem fX7_set : okYv mX7_set 3 117 1051 1052 = true := by
  unfold okYv
  rw [okX7_set]
  decide +kernel
set_option maxRecDepth 100000 in
theorem fX7_init : okYi mX7_init 0 117 876 = true := by
  unfold okYi
  rw [okX7_init]
  decide +kernel
set_option maxRecDepth 100000 in
theorem fX3_readOne : okYv mX3_readOne 1 113 605 39 = true := by
  unfold okYv
  rw [okX3_readOne]
  decide +kernel
set_option maxRecDepth 100000 in
theorem fX1_isRead : okYs mX1_isRead 5 120 394 = true := by
  unfold okYs
  rw [okX1_isRead]
  decide +kernel
set_option maxRecDepth 100000 in
theorem fX0_doneWithin : okYv mX0_doneWithin 2 114 692 48 = true := by
  unfold okYv
  rw [okX0_doneWithin]
  decide +kernel
set_option maxRecDepth 100000 in
theorem fX7_bribe : okYv mX7_bribe 1 117 1270 1271 = true := by
  unfold okYv
  rw [okX7_bribe]
  decide +kernel
set_option maxRecDepth 100000 in
theorem fX7_isSign : okYv mX7_isSign 1 117 1154 92 = true := by
  unfold okYv
  rw [okX7_isSign]
  decide +kernel
set_option maxRecDepth 100000 in
theorem fX3_isDigit : okYs mX3_isDigit 1 113 566 = true := by
  unfold okYs
  rw [okX3_isDigit]
  decide +kernel
set_option maxRecDepth 100000 in
theorem fX7_doneMany : okYv mX7_doneMany 0 117 1246 102 = true := by
  unfold okYv
  rw [okX7_doneMany]
  decide +kernel
set_option maxRecDepth 100000 in
theorem fX7_looks : okYv mX7_looks 1 117 1299 107 = true := by
  unfold okYv
  rw [okX7_looks]
  decide +kernel
set_option maxRecDepth 100000 in
theorem fX6_back : okYv mX6_back 0 111 824 825 = true := by
  unfold okYv
  rw [okX6_back]
  decide +kernel
set_option maxRecDepth 100000 in
theorem fX7_fail : okYv mX7_fail 0 117 1122 84 = true := by
  unfold okYv
  rw [okX7_fail]
  decide +kernel
set_option maxRecDepth 100000 in
theorem fX3_readTerm : okYv mX3_readTerm 1 113 601 38 = true := by
  unfold okYv
  rw [okX3_readTerm]
  decide +kernel
set_option maxRecDepth 100000 in
theorem fX6_citizen : okYv mX6_citizen 2 111 444 445 = true := by
  unfold okYv
  rw [okX6_citizen]
  decide +kernel
set_option maxRecDepth 100000 in
theorem fX7_run : okYv mX7_run 2 117 1235 1236 = true := by
  unfold okYv
  rw [okX7_run]
  decide +kernel
set_option maxRecDepth 100000 in
theorem fX0_init : okYi mX0_init 1 114 209 = true := by
  unfold okYi
  rw [okX0_init]
  decide +kernel
set_option maxRecDepth 100000 in
theorem fX7_turned : okYv mX7_turned 1 117 1286 1287 = true := by
  unfold okYv
  rw [okX7_turned]
  decide +kernel
set_option maxRecDepth 100000 in
theorem fX6_textsBy : okYv mX6_textsBy 1 111 763 60 = true := by
  unfold okYv
  rw [okX6_textsBy]
  decide +kernel
set_option maxRecDepth 100000 in
theorem fX7_within : okYs mX7_within 3 117 1163 = true := by
  unfold okYs
  rw [okX7_within]
  decide +kernel
set_option maxRecDepth 100000 in
theorem fX7_copy : okYv mX7_copy 5 117 1347 1348 = true := by
  unfold okYv
  rw [okX7_copy]
  decide +kernel
set_option maxRecDepth 100000 in
theorem fX5_cellOfName : okYs mX5_cellOfName 1 112 145 = true := by
  unfold okYs
  rw [okX5_cellOfName]
  decide +kernel
set_option maxRecDepth 100000 in
theorem fX7_over : okYs mX7_over 1 117 1361 = true := by
  unfold okYs
  rw [okX7_over]
  decide +kernel
set_option maxRecDepth 100000 in
theorem fX0_doneAt : okYv mX0_doneAt 1 114 430 20 = true := by
  unfold okYv
  rw [okX0_doneAt]
  decide +kernel
set_option maxRecDepth 100000 in
theorem fX6_count : okYv mX6_count 1 111 828 829 = true := by
  unfold okYv
  rw [okX6_count]
  decide +kernel
set_option maxRecDepth 100000 in
theorem fX7_citizen : okYv mX7_citizen 2 117 1181 1182 = true := by
  unfold okYv
  rw [okX7_citizen]
  decide +kernel
set_option maxRecDepth 100000 in
theorem fX7_atom : okYv mX7_atom 0 117 1150 91 = true := by
  unfold okYv
  rw [okX7_atom]
  decide +kernel
set_option maxRecDepth 100000 in
theorem fX5_endPart : okYv mX5_endPart 1 112 153 2 = true := by
  unfold okYv
  rw [okX5_endPart]
  decide +kernel
set_option maxRecDepth 100000 in
theorem fX7_force : okYv mX7_force 1 117 1202 1203 = true := by
  unfold okYv
  rw [okX7_force]
  decide +kernel
set_option maxRecDepth 100000 in
theorem fX7_either : okYv mX7_either 0 117 1126 85 = true := by
  unfold okYv
  rw [okX7_either]
  decide +kernel
set_option maxRecDepth 100000 in
theorem fX7_term : okYv mX7_term 0 117 1146 90 = true := by
  unfold okYv
  rw [okX7_term]
  decide +kernel
set_option maxRecDepth 100000 in
theorem fX6_bribesBy : okYv mX6_bribesBy 3 111 787 66 = true := by
  unfold okYv
  rw [okX6_bribesBy]
  decide +kernel
set_option maxRecDepth 100000 in
theorem fX7_back : okYv mX7_back 0 117 1334 1335 = true := by
  unfold okYv
  rw [okX7_back]
  decide +kernel
set_option maxRecDepth 100000 in
theorem fX2_tryAll : okYv mX2_tryAll 5 115 713 50 = true := by
  unfold okYv
  rw [okX2_tryAll]
  decide +kernel
set_option maxRecDepth 100000 in
theorem fX5_ofBoth : okYs mX5_ofBoth 3 112 382 = true := by
  unfold okYs
  rw [okX5_ofBoth]
  decide +kernel
set_option maxRecDepth 100000 in
theorem fJ0_length_8abf5 : okYv mJ0_length_8abf5 0 121 518 519 = true := by
  unfold okYv
  rw [okJ0_length_8abf5]
  decide +kernel
set_option maxRecDepth 100000 in
theorem fX7_shortest : okYv mX7_shortest 1 117 1253 1254 = true := by
  unfold okYv
  rw [okX7_shortest]
  decide +kernel
set_option maxRecDepth 100000 in
theorem fX6_business : okYv mX6_business 1 111 455 456 = true := by
  unfold okYv
  rw [okX6_business]
  decide +kernel
set_option maxRecDepth 100000 in
theorem fX5_hasText : okYv mX5_hasText 1 112 376 13 = true := by
  unfold okYv
  rw [okX5_hasText]
  decide +kernel
set_option maxRecDepth 100000 in
theorem fX6_shortest : okYv mX6_shortest 1 111 679 680 = true := by
  unfold okYv
  rw [okX6_shortest]
  decide +kernel
set_option maxRecDepth 100000 in
theorem fX6_film : okYv mX6_film 1 111 790 791 = true := by
  unfold okYv
  rw [okX6_film]
  decide +kernel
set_option maxRecDepth 100000 in
theorem fX6_ofOneBy : okYv mX6_ofOneBy 3 111 771 62 = true := by
  unfold okYv
  rw [okX6_ofOneBy]
  decide +kernel
set_option maxRecDepth 100000 in
theorem fX0_spentOn : okYv mX0_spentOn 2 114 624 40 = true := by
  unfold okYv
  rw [okX0_spentOn]
  decide +kernel
set_option maxRecDepth 100000 in
theorem fX6_told : okYv mX6_told 2 111 328 329 = true := by
  unfold okYv
  rw [okX6_told]
  decide +kernel
set_option maxRecDepth 100000 in
theorem fX7_isOne : okYv mX7_isOne 1 117 1060 73 = true := by
  unfold okYv
  rw [okX7_isOne]
  decide +kernel
set_option maxRecDepth 100000 in
theorem fX6_image : okYv mX6_image 0 111 820 821 = true := by
  unfold okYv
  rw [okX6_image]
  decide +kernel
set_option maxRecDepth 100000 in
theorem fX6_drawn : okYv mX6_drawn 1 111 802 803 = true := by
  unfold okYv
  rw [okX6_drawn]
  decide +kernel
set_option maxRecDepth 100000 in
theorem fX0_takesOf : okYv mX0_takesOf 1 114 421 18 = true := by
  unfold okYv
  rw [okX0_takesOf]
  decide +kernel
set_option maxRecDepth 100000 in
theorem fX6_soonest : okYv mX6_soonest 2 111 687 688 = true := by
  unfold okYv
  rw [okX6_soonest]
  decide +kernel
set_option maxRecDepth 100000 in
theorem fX7_isSheet : okYs mX7_isSheet 1 117 1295 = true := by
  unfold okYs
  rw [okX7_isSheet]
  decide +kernel
set_option maxRecDepth 100000 in
theorem fX1_isOne : okYs mX1_isOne 1 120 448 = true := by
  unfold okYs
  rw [okX1_isOne]
  decide +kernel
set_option maxRecDepth 100000 in
theorem fX7_sittingFor : okYv mX7_sittingFor 1 117 1283 106 = true := by
  unfold okYv
  rw [okX7_sittingFor]
  decide +kernel
set_option maxRecDepth 100000 in
theorem fX2_weigh : okYv mX2_weigh 1 115 705 49 = true := by
  unfold okYv
  rw [okX2_weigh]
  decide +kernel
set_option maxRecDepth 100000 in
theorem fX7_citizens : okYv mX7_citizens 4 117 1351 1352 = true := by
  unfold okYv
  rw [okX7_citizens]
  decide +kernel
set_option maxRecDepth 100000 in
theorem fX6_cell : okYv mX6_cell 3 111 839 840 = true := by
  unfold okYv
  rw [okX6_cell]
  decide +kernel
set_option maxRecDepth 100000 in
theorem fX0_everyone : okYv mX0_everyone 0 114 634 42 = true := by
  unfold okYv
  rw [okX0_everyone]
  decide +kernel
set_option maxRecDepth 100000 in
theorem fX6_bribe : okYv mX6_bribe 1 111 696 697 = true := by
  unfold okYv
  rw [okX6_bribe]
  decide +kernel
set_option maxRecDepth 100000 in
theorem fX7_next : okYv mX7_next 0 117 1098 79 = true := by
  unfold okYv
  rw [okX7_next]
  decide +kernel
set_option maxRecDepth 100000 in
theorem fX1_silence : okYs mX1_silence 3 120 402 = true := by
  unfold okYs
  rw [okX1_silence]
  decide +kernel
set_option maxRecDepth 100000 in
theorem fX6_highest : okYs mX6_highest 1 111 433 = true := by
  unfold okYs
  rw [okX6_highest]
  decide +kernel
set_option maxRecDepth 100000 in
theorem fX5_valueOfName : okYs mX5_valueOfName 2 112 379 = true := by
  unfold okYs
  rw [okX5_valueOfName]
  decide +kernel
set_option maxRecDepth 100000 in
theorem fX0_hold : okYv mX0_hold 0 114 659 45 = true := by
  unfold okYv
  rw [okX0_hold]
  decide +kernel
set_option maxRecDepth 100000 in
theorem fX6_text : okYv mX6_text 0 111 472 473 = true := by
  unfold okYv
  rw [okX6_text]
  decide +kernel
set_option maxRecDepth 100000 in
theorem fX0_numberOf : okYv mX0_numberOf 1 114 341 6 = true := by
  unfold okYv
  rw [okX0_numberOf]
  decide +kernel
set_option maxRecDepth 100000 in
theorem fX1_time : okYs mX1_time 4 120 409 = true := by
  unfold okYs
  rw [okX1_time]
  decide +kernel
set_option maxRecDepth 100000 in
theorem fX0_addItem : okYv mX0_addItem 1 114 460 24 = true := by
  unfold okYv
  rw [okX0_addItem]
  decide +kernel
set_option maxRecDepth 100000 in
theorem fX0_become : okYv mX0_become 1 114 673 47 = true := by
  unfold okYv
  rw [okX0_become]
  decide +kernel
set_option maxRecDepth 100000 in
theorem fX4_isMissing : okYv mX4_isMissing 1 116 737 54 = true := by
  unfold okYv
  rw [okX4_isMissing]
  decide +kernel
set_option maxRecDepth 100000 in
theorem fX3_readComparison : okYv mX3_readComparison 1 113 593 36 = true := by
  unfold okYv
  rw [okX3_readComparison]
  decide +kernel
set_option maxRecDepth 100000 in
theorem fX7_feed : okYv mX7_feed 1 117 1193 1194 = true := by
  unfold okYv
  rw [okX7_feed]
  decide +kernel
set_option maxRecDepth 100000 in
theorem fX7_fewest : okYv mX7_fewest 1 117 1257 1258 = true := by
  unfold okYv
  rw [okX7_fewest]
  decide +kernel
set_option maxRecDepth 100000 in
theorem fX4_isSort : okYs mX4_isSort 1 116 836 = true := by
  unfold okYs
  rw [okX4_isSort]
  decide +kernel
set_option maxRecDepth 100000 in
theorem fX0_silenceOf : okYv mX0_silenceOf 2 114 399 14 = true := by
  unfold okYv
  rw [okX0_silenceOf]
  decide +kernel
set_option maxRecDepth 100000 in
theorem fX4_sortOf : okYv mX4_sortOf 1 116 741 55 = true := by
  unfold okYv
  rw [okX4_sortOf]
  decide +kernel
set_option maxRecDepth 100000 in
theorem fX7_business : okYv mX7_business 1 117 1187 1188 = true := by
  unfold okYv
  rw [okX7_business]
  decide +kernel
set_option maxRecDepth 100000 in
theorem fX4_hasItem : okYv mX4_hasItem 2 116 754 58 = true := by
  unfold okYv
  rw [okX4_hasItem]
  decide +kernel
set_option maxRecDepth 100000 in
theorem fX0_putNumber : okYv mX0_putNumber 2 114 437 21 = true := by
  unfold okYv
  rw [okX0_putNumber]
  decide +kernel
set_option maxRecDepth 100000 in
theorem fX0_listed : okYv mX0_listed 0 114 354 9 = true := by
  unfold okYv
  rw [okX0_listed]
  decide +kernel
set_option maxRecDepth 100000 in
theorem fJ0_charAt_5068e : okYv mJ0_charAt_5068e 1 121 528 529 = true := by
  unfold okYv
  rw [okJ0_charAt_5068e]
  decide +kernel
set_option maxRecDepth 100000 in
theorem fX7_bribesAgain : okYv mX7_bribesAgain 0 117 1321 109 = true := by
  unfold okYv
  rw [okX7_bribesAgain]
  decide +kernel
set_option maxRecDepth 100000 in
theorem fX6_feed : okYv mX6_feed 1 111 464 465 = true := by
  unfold okYv
  rw [okX6_feed]
  decide +kernel
set_option maxRecDepth 100000 in
theorem fX7_cell : okYv mX7_cell 3 117 1343 1344 = true := by
  unfold okYv
  rw [okX7_cell]
  decide +kernel
set_option maxRecDepth 100000 in
theorem fX7_read : okYv mX7_read 2 117 1094 78 = true := by
  unfold okYv
  rw [okX7_read]
  decide +kernel
set_option maxRecDepth 100000 in
theorem fX0_hasCitizen : okYv mX0_hasCitizen 1 114 333 4 = true := by
  unfold okYv
  rw [okX0_hasCitizen]
  decide +kernel
set_option maxRecDepth 100000 in
theorem fX6_kindsBy : okYv mX6_kindsBy 2 111 775 63 = true := by
  unfold okYv
  rw [okX6_kindsBy]
  decide +kernel
set_option maxRecDepth 100000 in
theorem fX6_chance : okYv mX6_chance 3 111 812 813 = true := by
  unfold okYv
  rw [okX6_chance]
  decide +kernel
set_option maxRecDepth 100000 in
theorem fJ0_coder_7d493 : okYv mJ0_coder_7d493 0 121 522 523 = true := by
  unfold okYv
  rw [okJ0_coder_7d493]
  decide +kernel
set_option maxRecDepth 100000 in
theorem fX5_keep : okYv mX5_keep 0 112 157 3 = true := by
  unfold okYv
  rw [okX5_keep]
  decide +kernel
set_option maxRecDepth 100000 in
theorem fX6_taken : okYv mX6_taken 2 111 864 865 = true := by
  unfold okYv
  rw [okX6_taken]
  decide +kernel
set_option maxRecDepth 100000 in
theorem fX7_asks : okYv mX7_asks 3 117 1086 77 = true := by
  unfold okYv
  rw [okX7_asks]
  decide +kernel
set_option maxRecDepth 100000 in
theorem fJ0_isLatin1_aae02 : okYv mJ0_isLatin1_aae02 0 121 532 533 = true := by
  unfold okYv
  rw [okJ0_isLatin1_aae02]
  decide +kernel
set_option maxRecDepth 100000 in
theorem fX7_gone : okYv mX7_gone 0 117 1216 98 = true := by
  unfold okYv
  rw [okX7_gone]
  decide +kernel
set_option maxRecDepth 100000 in
theorem fX3_readSum : okYv mX3_readSum 1 113 597 37 = true := by
  unfold okYv
  rw [okX3_readSum]
  decide +kernel
set_option maxRecDepth 100000 in
theorem fX0_goOnWith : okYv mX0_goOnWith 2 114 664 46 = true := by
  unfold okYv
  rw [okX0_goOnWith]
  decide +kernel
set_option maxRecDepth 100000 in
theorem fX0_addCitizen : okYv mX0_addCitizen 2 114 452 23 = true := by
  unfold okYv
  rw [okX0_addCitizen]
  decide +kernel
set_option maxRecDepth 100000 in
theorem fX7_bitsOf : okYs mX7_bitsOf 1 117 1166 = true := by
  unfold okYs
  rw [okX7_bitsOf]
  decide +kernel
set_option maxRecDepth 100000 in
theorem fX3_isBlank : okYs mX3_isBlank 1 113 489 = true := by
  unfold okYs
  rw [okX3_isBlank]
  decide +kernel
set_option maxRecDepth 100000 in
theorem fX7_sits : okYv mX7_sits 0 117 1232 100 = true := by
  unfold okYv
  rw [okX7_sits]
  decide +kernel
set_option maxRecDepth 100000 in
theorem fX7_silenceOf : okYv mX7_silenceOf 2 117 1170 94 = true := by
  unfold okYv
  rw [okX7_silenceOf]
  decide +kernel
set_option maxRecDepth 100000 in
theorem fX6_ways : okYv mX6_ways 2 111 759 59 = true := by
  unfold okYv
  rw [okX6_ways]
  decide +kernel
set_option maxRecDepth 100000 in
theorem fX6_turned : okYv mX6_turned 1 111 720 721 = true := by
  unfold okYv
  rw [okX6_turned]
  decide +kernel
set_option maxRecDepth 100000 in
theorem fX6_list : okYv mX6_list 1 111 618 619 = true := by
  unfold okYv
  rw [okX6_list]
  decide +kernel
set_option maxRecDepth 100000 in
theorem fJ3_checkIndex_8e157 : okYs mJ3_checkIndex_8e157 3 123 544 = true := by
  unfold okYs
  rw [okJ3_checkIndex_8e157]
  decide +kernel
set_option maxRecDepth 100000 in
theorem fX7_isItem : okYv mX7_isItem 1 117 1072 74 = true := by
  unfold okYv
  rw [okX7_isItem]
  decide +kernel
set_option maxRecDepth 100000 in
theorem fX5_init : okYi mX5_init 0 112 137 = true := by
  unfold okYi
  rw [okX5_init]
  decide +kernel
set_option maxRecDepth 100000 in
theorem fX6_tells : okYv mX6_tells 2 111 724 725 = true := by
  unfold okYv
  rw [okX6_tells]
  decide +kernel
set_option maxRecDepth 100000 in
theorem fX0_timeOf : okYv mX0_timeOf 2 114 406 15 = true := by
  unfold okYv
  rw [okX0_timeOf]
  decide +kernel
set_option maxRecDepth 100000 in
theorem fX7_name : okYv mX7_name 0 117 1158 93 = true := by
  unfold okYv
  rw [okX7_name]
  decide +kernel
set_option maxRecDepth 100000 in
theorem fX2_init : okYi mX2_init 0 115 261 = true := by
  unfold okYi
  rw [okX2_init]
  decide +kernel
set_option maxRecDepth 100000 in
theorem fX4_hasItems : okYv mX4_hasItems 3 116 850 70 = true := by
  unfold okYv
  rw [okX4_hasItems]
  decide +kernel
set_option maxRecDepth 100000 in
theorem fX6_toldOfCitizen : okYv mX6_toldOfCitizen 2 111 337 5 = true := by
  unfold okYv
  rw [okX6_toldOfCitizen]
  decide +kernel
set_option maxRecDepth 100000 in
theorem fX7_both : okYv mX7_both 0 117 1130 86 = true := by
  unfold okYv
  rw [okX7_both]
  decide +kernel
set_option maxRecDepth 100000 in
theorem fX6_by : okYv mX6_by 1 111 640 641 = true := by
  unfold okYv
  rw [okX6_by]
  decide +kernel
set_option maxRecDepth 100000 in
theorem fX3_spelling : okYs mX3_spelling 1 113 499 = true := by
  unfold okYs
  rw [okX3_spelling]
  decide +kernel
set_option maxRecDepth 100000 in
theorem fX4_init : okYi mX4_init 0 116 285 = true := by
  unfold okYi
  rw [okX4_init]
  decide +kernel
set_option maxRecDepth 100000 in
theorem fX7_goneBy : okYv mX7_goneBy 2 117 1220 99 = true := by
  unfold okYv
  rw [okX7_goneBy]
  decide +kernel
set_option maxRecDepth 100000 in
theorem fX3_readNot : okYv mX3_readNot 1 113 589 35 = true := by
  unfold okYv
  rw [okX3_readNot]
  decide +kernel
set_option maxRecDepth 100000 in
theorem fX7_in : okYs mX7_in 3 117 1056 = true := by
  unfold okYs
  rw [okX7_in]
  decide +kernel
set_option maxRecDepth 100000 in
theorem fX0_minutesLeft : okYv mX0_minutesLeft 0 114 630 41 = true := by
  unfold okYv
  rw [okX0_minutesLeft]
  decide +kernel
set_option maxRecDepth 100000 in
theorem fX3_readOr : okYv mX3_readOr 1 113 581 33 = true := by
  unfold okYv
  rw [okX3_readOr]
  decide +kernel
set_option maxRecDepth 100000 in
theorem fX7_leftNow : okYv mX7_leftNow 0 117 1212 97 = true := by
  unfold okYv
  rw [okX7_leftNow]
  decide +kernel
set_option maxRecDepth 100000 in
theorem fX6_force : okYv mX6_force 1 111 613 614 = true := by
  unfold okYv
  rw [okX6_force]
  decide +kernel
set_option maxRecDepth 100000 in
theorem fX0_soFarOf : okYv mX0_soFarOf 1 114 426 19 = true := by
  unfold okYv
  rw [okX0_soFarOf]
  decide +kernel
set_option maxRecDepth 100000 in
theorem fX4_lay : okYv mX4_lay 3 116 795 67 = true := by
  unfold okYv
  rw [okX4_lay]
  decide +kernel
set_option maxRecDepth 100000 in
theorem fX3_passNumber : okYv mX3_passNumber 0 113 570 31 = true := by
  unfold okYv
  rw [okX3_passNumber]
  decide +kernel
set_option maxRecDepth 100000 in
theorem fX0_spentByList : okYv mX0_spentByList 0 114 767 61 = true := by
  unfold okYv
  rw [okX0_spentByList]
  decide +kernel
set_option maxRecDepth 100000 in
theorem fX6_sit : okYv mX6_sit 0 111 649 650 = true := by
  unfold okYv
  rw [okX6_sit]
  decide +kernel
set_option maxRecDepth 100000 in
theorem fX6_init : okYi mX6_init 0 111 129 = true := by
  unfold okYi
  rw [okX6_init]
  decide +kernel
set_option maxRecDepth 100000 in
theorem fX7_isLetter : okYv mX7_isLetter 2 117 1114 82 = true := by
  unfold okYv
  rw [okX7_isLetter]
  decide +kernel
set_option maxRecDepth 100000 in
theorem fX7_added : okYv mX7_added 0 117 1142 89 = true := by
  unfold okYv
  rw [okX7_added]
  decide +kernel
set_option maxRecDepth 100000 in
theorem fX7_chance : okYv mX7_chance 3 117 1324 1325 = true := by
  unfold okYv
  rw [okX7_chance]
  decide +kernel
set_option maxRecDepth 100000 in
theorem fX6_inLowestTerms : okYs mX6_inLowestTerms 3 111 817 = true := by
  unfold okYs
  rw [okX6_inLowestTerms]
  decide +kernel
set_option maxRecDepth 100000 in
theorem fX3_init : okYi mX3_init 1 113 180 = true := by
  unfold okYi
  rw [okX3_init]
  decide +kernel
set_option maxRecDepth 100000 in
theorem fX7_told : okYv mX7_told 2 117 1066 1067 = true := by
  unfold okYv
  rw [okX7_told]
  decide +kernel
set_option maxRecDepth 100000 in
theorem fX6_fewest : okYv mX6_fewest 1 111 683 684 = true := by
  unfold okYv
  rw [okX6_fewest]
  decide +kernel
set_option maxRecDepth 100000 in
theorem fX6_run : okYv mX6_run 2 111 668 669 = true := by
  unfold okYv
  rw [okX6_run]
  decide +kernel
set_option maxRecDepth 100000 in
theorem fX0_hasItem : okYv mX0_hasItem 1 114 413 16 = true := by
  unfold okYv
  rw [okX0_hasItem]
  decide +kernel
set_option maxRecDepth 100000 in
theorem fX7_list : okYv mX7_list 1 117 1206 1207 = true := by
  unfold okYv
  rw [okX7_list]
  decide +kernel
set_option maxRecDepth 100000 in
theorem fX3_isSign : okYs mX3_isSign 1 113 573 = true := by
  unfold okYs
  rw [okX3_isSign]
  decide +kernel
set_option maxRecDepth 100000 in
theorem fX1_above : okYs mX1_above 1 120 871 = true := by
  unfold okYs
  rw [okX1_above]
  decide +kernel
set_option maxRecDepth 100000 in
theorem fX0_isRead : okYv mX0_isRead 2 114 358 10 = true := by
  unfold okYv
  rw [okX0_isRead]
  decide +kernel
set_option maxRecDepth 100000 in
theorem fX7_draws : okYv mX7_draws 1 117 1316 108 = true := by
  unfold okYv
  rw [okX7_draws]
  decide +kernel
set_option maxRecDepth 100000 in
theorem fX6_order : okYv mX6_order 1 111 700 701 = true := by
  unfold okYv
  rw [okX6_order]
  decide +kernel
set_option maxRecDepth 100000 in
theorem fX1_isUnder : okYs mX1_isUnder 2 120 868 = true := by
  unfold okYs
  rw [okX1_isUnder]
  decide +kernel
set_option maxRecDepth 100000 in
theorem fX7_tells : okYv mX7_tells 2 117 1290 1291 = true := by
  unfold okYv
  rw [okX7_tells]
  decide +kernel
set_option maxRecDepth 100000 in
theorem fX4_valueAt : okYv mX4_valueAt 2 116 750 57 = true := by
  unfold okYv
  rw [okX4_valueAt]
  decide +kernel
set_option maxRecDepth 100000 in
theorem fX7_not : okYv mX7_not 0 117 1134 87 = true := by
  unfold okYv
  rw [okX7_not]
  decide +kernel
set_option maxRecDepth 100000 in
theorem fX6_set : okYv mX6_set 3 111 324 325 = true := by
  unfold okYv
  rw [okX6_set]
  decide +kernel
set_option maxRecDepth 100000 in
theorem fX7_film : okYv mX7_film 1 117 1302 1303 = true := by
  unfold okYv
  rw [okX7_film]
  decide +kernel
set_option maxRecDepth 100000 in
theorem fX7_count : okYv mX7_count 1 117 1338 1339 = true := by
  unfold okYv
  rw [okX7_count]
  decide +kernel
set_option maxRecDepth 100000 in
theorem fX6_citizens : okYv mX6_citizens 4 111 859 860 = true := by
  unfold okYv
  rw [okX6_citizens]
  decide +kernel
set_option maxRecDepth 100000 in
theorem fX6_numbersBy : okYv mX6_numbersBy 2 111 783 65 = true := by
  unfold okYv
  rw [okX6_numbersBy]
  decide +kernel
set_option maxRecDepth 100000 in
theorem fX0_kindOf : okYv mX0_kindOf 1 114 350 8 = true := by
  unfold okYv
  rw [okX0_kindOf]
  decide +kernel
set_option maxRecDepth 100000 in
theorem fX5_value : okYv mX5_value 3 112 372 12 = true := by
  unfold okYv
  rw [okX5_value]
  decide +kernel
set_option maxRecDepth 100000 in
theorem fX0_lookAt : okYv mX0_lookAt 2 114 362 11 = true := by
  unfold okYv
  rw [okX0_lookAt]
  decide +kernel
set_option maxRecDepth 100000 in
theorem fX0_putBribe : okYv mX0_putBribe 2 114 441 22 = true := by
  unfold okYv
  rw [okX0_putBribe]
  decide +kernel
set_option maxRecDepth 100000 in
theorem fX0_drawBribes : okYv mX0_drawBribes 1 114 807 69 = true := by
  unfold okYv
  rw [okX0_drawBribes]
  decide +kernel
set_option maxRecDepth 100000 in
theorem fX7_seeks : okYv mX7_seeks 4 117 1279 105 = true := by
  unfold okYv
  rw [okX7_seeks]
  decide +kernel
set_option maxRecDepth 100000 in
theorem fX7_drawn : okYv mX7_drawn 1 117 1311 1312 = true := by
  unfold okYv
  rw [okX7_drawn]
  decide +kernel
set_option maxRecDepth 100000 in
theorem fX7_mostOf : okYs mX7_mostOf 1 117 1063 = true := by
  unfold okYs
  rw [okX7_mostOf]
  decide +kernel
set_option maxRecDepth 100000 in
theorem fX3_passToken : okYv mX3_passToken 0 113 486 28 = true := by
  unfold okYv
  rw [okX3_passToken]
  decide +kernel
set_option maxRecDepth 100000 in
theorem fX4_sizeOf : okYv mX4_sizeOf 1 116 746 56 = true := by
  unfold okYv
  rw [okX4_sizeOf]
  decide +kernel
set_option maxRecDepth 100000 in
theorem fX7_opens : okYv mX7_opens 0 117 1138 88 = true := by
  unfold okYv
  rw [okX7_opens]
  decide +kernel
set_option maxRecDepth 100000 in
theorem fX7_sit : okYv mX7_sit 0 117 1227 1228 = true := by
  unfold okYv
  rw [okX7_sit]
  decide +kernel
set_option maxRecDepth 100000 in
theorem fX7_text : okYv mX7_text 0 117 1198 1199 = true := by
  unfold okYv
  rw [okX7_text]
  decide +kernel
set_option maxRecDepth 100000 in
theorem fX7_soonest : okYv mX7_soonest 2 117 1261 1262 = true := by
  unfold okYv
  rw [okX7_soonest]
  decide +kernel
set_option maxRecDepth 100000 in
theorem fX7_spell : okYv mX7_spell 9 117 881 72 = true := by
  unfold okYv
  rw [okX7_spell]
  decide +kernel
set_option maxRecDepth 100000 in
theorem fJ1_charAt_3b067 : okYs mJ1_charAt_3b067 2 122 536 = true := by
  unfold okYs
  rw [okJ1_charAt_3b067]
  decide +kernel
set_option maxRecDepth 100000 in
theorem fX7_laysAside : okYv mX7_laysAside 0 117 1242 101 = true := by
  unfold okYv
  rw [okX7_laysAside]
  decide +kernel
set_option maxRecDepth 100000 in
theorem fX3_addByte : okYv mX3_addByte 1 113 469 25 = true := by
  unfold okYv
  rw [okX3_addByte]
  decide +kernel
set_option maxRecDepth 100000 in
theorem fX7_laysBack : okYv mX7_laysBack 0 117 1250 103 = true := by
  unfold okYv
  rw [okX7_laysBack]
  decide +kernel
set_option maxRecDepth 100000 in
theorem fX5_isFull : okYv mX5_isFull 0 112 477 26 = true := by
  unfold okYv
  rw [okX5_isFull]
  decide +kernel
set_option maxRecDepth 100000 in
theorem fX0_putKind : okYv mX0_putKind 2 114 779 64 = true := by
  unfold okYv
  rw [okX0_putKind]
  decide +kernel
set_option maxRecDepth 100000 in
theorem fX7_taken : okYv mX7_taken 2 117 1357 1358 = true := by
  unfold okYv
  rw [okX7_taken]
  decide +kernel
set_option maxRecDepth 100000 in
theorem fX3_passed : okYv mX3_passed 1 113 577 32 = true := by
  unfold okYv
  rw [okX3_passed]
  decide +kernel
set_option maxRecDepth 100000 in
theorem fX0_spentBy : okYv mX0_spentBy 1 114 646 43 = true := by
  unfold okYv
  rw [okX0_spentBy]
  decide +kernel
set_option maxRecDepth 100000 in
theorem fX3_isSpelt : okYv mX3_isSpelt 1 113 515 30 = true := by
  unfold okYv
  rw [okX3_isSpelt]
  decide +kernel
set_option maxRecDepth 100000 in
theorem fX4_move : okYv mX4_move 5 116 854 71 = true := by
  unfold okYv
  rw [okX4_move]
  decide +kernel
set_option maxRecDepth 100000 in
theorem fX3_passWord : okYv mX3_passWord 0 113 496 29 = true := by
  unfold okYv
  rw [okX3_passWord]
  decide +kernel
set_option maxRecDepth 100000 in
theorem fX5_put : okYv mX5_put 1 112 149 1 = true := by
  unfold okYv
  rw [okX5_put]
  decide +kernel
set_option maxRecDepth 100000 in
theorem fX7_isWord : okYv mX7_isWord 8 117 1110 81 = true := by
  unfold okYv
  rw [okX7_isWord]
  decide +kernel
set_option maxRecDepth 100000 in
theorem fX7_timeOf : okYv mX7_timeOf 2 117 1174 95 = true := by
  unfold okYv
  rw [okX7_timeOf]
  decide +kernel
set_option maxRecDepth 100000 in
theorem fX0_itemsDone : okYv mX0_itemsDone 0 114 654 44 = true := by
  unfold okYv
  rw [okX0_itemsDone]
  decide +kernel
set_option maxRecDepth 100000 in
theorem fX7_byteAt : okYv mX7_byteAt 1 117 1102 80 = true := by
  unfold okYv
  rw [okX7_byteAt]
  decide +kernel
theorem kX0_61 : lnk RX0 61 yX0_hasCitizen := lnk_of (t := 343) (by decide +kernel)
theorem kX0_65 : lnk RX0 65 yX0_hasItem := lnk_of (t := 423) (by decide +kernel)
theorem kX0_68 : lnk RX0 68 yX0_doneAt := lnk_of (t := 656) (by decide +kernel)
theorem kX0_72 : lnk RX0 72 yX0_putBribe := lnk_of (t := 810) (by decide +kernel)
theorem kX0_76 : lnk RX0 76 yJ6_bitCount_0f7a4 := lnk_of (t := 364) (by decide +kernel)
theorem kX0_81 : lnk RX0 81 yX0_lookAt := lnk_of (t := 360) (by decide +kernel)
theorem kX0_84 : lnk RX0 84 yX5_value := lnk_of (t := 370) (by decide +kernel)
theorem kX0_88 : lnk RX0 88 yX0_kindOf := lnk_of (t := 390) (by decide +kernel)
theorem kX0_91 : lnk RX0 91 yX0_numberOf := lnk_of (t := 391) (by decide +kernel)
theorem kX0_94 : lnk RX0 94 yX0_bribeOf := lnk_of (t := 392) (by decide +kernel)
theorem kX0_97 : lnk RX0 97 yX1_isRead := lnk_of (t := 393) (by decide +kernel)
theorem kX0_103 : lnk RX0 103 yX1_silence := lnk_of (t := 401) (by decide +kernel)
theorem kX0_107 : lnk RX0 107 yX1_time := lnk_of (t := 408) (by decide +kernel)
theorem kX0_111 : lnk RX0 111 yX0_isRead := lnk_of (t := 356) (by decide +kernel)
theorem kX0_114 : lnk RX0 114 yX0_timeOf := lnk_of (t := 626) (by decide +kernel)
theorem kX0_118 : lnk RX0 118 yX0_silenceOf := lnk_of (t := 627) (by decide +kernel)
theorem kX0_121 : lnk RX0 121 yX0_everyone := lnk_of (t := 632) (by decide +kernel)
theorem kX0_125 : lnk RX0 125 yX0_spentOn := lnk_of (t := 637) (by decide +kernel)
theorem kX0_128 : lnk RX0 128 yX0_listed := lnk_of (t := 636) (by decide +kernel)
theorem kX0_131 : lnk RX0 131 yJ9_max_7cf53 := lnk_of (t := 638) (by decide +kernel)
theorem kX0_136 : lnk RX0 136 yX0_minutesLeft := lnk_of (t := 661) (by decide +kernel)
theorem kX0_139 : lnk RX0 139 yX0_goOnWith := lnk_of (t := 662) (by decide +kernel)
theorem kX0_142 : lnk RX0 142 yJ9_min_7cf53 := lnk_of (t := 666) (by decide +kernel)
theorem kX0_145 : lnk RX0 145 yX0_hold := lnk_of (t := 694) (by decide +kernel)
theorem kX1_11 : lnk RX1 11 yX1_above := lnk_of (t := 870) (by decide +kernel)
theorem kX2_20 : lnk RX2 20 yX0_takesOf := lnk_of (t := 707) (by decide +kernel)
theorem kX2_24 : lnk RX2 24 yX0_soFarOf := lnk_of (t := 708) (by decide +kernel)
theorem kX2_34 : lnk RX2 34 yX0_minutesLeft := lnk_of (t := 709) (by decide +kernel)
theorem kX2_47 : lnk RX2 47 yX2_tryAll := lnk_of (t := 711) (by decide +kernel)
theorem kX2_51 : lnk RX2 51 yX2_sittingAfter := lnk_of (t := 715) (by decide +kernel)
theorem kX3_25 : lnk RX3 25 yX5_begin := lnk_of (t := 483) (by decide +kernel)
theorem kX3_31 : lnk RX3 31 yX3_passToken := lnk_of (t := 484) (by decide +kernel)
theorem kX3_34 : lnk RX3 34 yX3_passed := lnk_of (t := 575) (by decide +kernel)
theorem kX3_38 : lnk RX3 38 yX3_readOr := lnk_of (t := 579) (by decide +kernel)
theorem kX3_41 : lnk RX3 41 yX5_endPart := lnk_of (t := 609) (by decide +kernel)
theorem kX3_48 : lnk RX3 48 yX5_keep := lnk_of (t := 610) (by decide +kernel)
theorem kX3_55 : lnk RX3 55 yX3_readAnd := lnk_of (t := 583) (by decide +kernel)
theorem kX3_58 : lnk RX3 58 yX5_put := lnk_of (t := 607) (by decide +kernel)
theorem kX3_61 : lnk RX3 61 yX3_readNot := lnk_of (t := 587) (by decide +kernel)
theorem kX3_64 : lnk RX3 64 yX3_readComparison := lnk_of (t := 591) (by decide +kernel)
theorem kX3_67 : lnk RX3 67 yX3_readSum := lnk_of (t := 595) (by decide +kernel)
theorem kX3_70 : lnk RX3 70 yX3_readTerm := lnk_of (t := 599) (by decide +kernel)
theorem kX3_73 : lnk RX3 73 yX3_readOne := lnk_of (t := 603) (by decide +kernel)
theorem kX3_79 : lnk RX3 79 yX5_cellOfName := lnk_of (t := 608) (by decide +kernel)
theorem kX3_83 : lnk RX3 83 yX3_isBlank := lnk_of (t := 488) (by decide +kernel)
theorem kX3_86 : lnk RX3 86 yX3_isLetter := lnk_of (t := 491) (by decide +kernel)
theorem kX3_89 : lnk RX3 89 yX3_passWord := lnk_of (t := 494) (by decide +kernel)
theorem kX3_92 : lnk RX3 92 yX3_isDigit := lnk_of (t := 565) (by decide +kernel)
theorem kX3_95 : lnk RX3 95 yX3_passNumber := lnk_of (t := 568) (by decide +kernel)
theorem kX3_98 : lnk RX3 98 yX3_isSign := lnk_of (t := 572) (by decide +kernel)
theorem kX3_101 : lnk RX3 101 yX3_spelling := lnk_of (t := 498) (by decide +kernel)
theorem kX3_105 : lnk RX3 105 yX3_isSpelt := lnk_of (t := 513) (by decide +kernel)
theorem kX3_109 : lnk RX3 109 yJ0_length_8abf5 := lnk_of (t := 517) (by decide +kernel)
theorem kX3_114 : lnk RX3 114 yJ0_charAt_5068e := lnk_of (t := 527) (by decide +kernel)
theorem kX4_19 : lnk RX4 19 yX4_hasPlace := lnk_of (t := 743) (by decide +kernel)
theorem kX4_23 : lnk RX4 23 yX4_sortOf := lnk_of (t := 739) (by decide +kernel)
theorem kX4_27 : lnk RX4 27 yX4_sizeOf := lnk_of (t := 756) (by decide +kernel)
theorem kX4_30 : lnk RX4 30 yX4_hasItem := lnk_of (t := 752) (by decide +kernel)
theorem kX4_34 : lnk RX4 34 yX4_hasItems := lnk_of (t := 856) (by decide +kernel)
theorem kX5_19 : lnk RX5 19 yX5_begin := lnk_of (t := 140) (by decide +kernel)
theorem kX5_22 : lnk RX5 22 yX5_cellOfName := lnk_of (t := 144) (by decide +kernel)
theorem kX5_26 : lnk RX5 26 yX5_put := lnk_of (t := 147) (by decide +kernel)
theorem kX5_30 : lnk RX5 30 yX5_endPart := lnk_of (t := 151) (by decide +kernel)
theorem kX5_33 : lnk RX5 33 yX5_keep := lnk_of (t := 155) (by decide +kernel)
theorem kX5_44 : lnk RX5 44 yX5_hasText := lnk_of (t := 374) (by decide +kernel)
theorem kX5_48 : lnk RX5 48 yX5_valueOfName := lnk_of (t := 378) (by decide +kernel)
theorem kX5_52 : lnk RX5 52 yX5_ofBoth := lnk_of (t := 381) (by decide +kernel)
theorem kX5_56 : lnk RX5 56 yJ9_min_7cf53 := lnk_of (t := 384) (by decide +kernel)
theorem kX5_62 : lnk RX5 62 yJ9_max_7cf53 := lnk_of (t := 387) (by decide +kernel)
theorem kX6_9 : lnk RX6 9 yX5_init := lnk_of (t := 136) (by decide +kernel)
theorem kX6_18 : lnk RX6 18 yX3_init := lnk_of (t := 179) (by decide +kernel)
theorem kX6_27 : lnk RX6 27 yX0_init := lnk_of (t := 208) (by decide +kernel)
theorem kX6_44 : lnk RX6 44 yX2_init := lnk_of (t := 260) (by decide +kernel)
theorem kX6_51 : lnk RX6 51 yX4_init := lnk_of (t := 284) (by decide +kernel)
theorem kX6_56 : lnk RX6 56 yX6_told := lnk_of (t := 327) (by decide +kernel)
theorem kX6_60 : lnk RX6 60 yX6_highest := lnk_of (t := 432) (by decide +kernel)
theorem kX6_71 : lnk RX6 71 yX0_putNumber := lnk_of (t := 435) (by decide +kernel)
theorem kX6_75 : lnk RX6 75 yX0_putBribe := lnk_of (t := 439) (by decide +kernel)
theorem kX6_78 : lnk RX6 78 yX1_isOne := lnk_of (t := 447) (by decide +kernel)
theorem kX6_84 : lnk RX6 84 yX0_addCitizen := lnk_of (t := 450) (by decide +kernel)
theorem kX6_87 : lnk RX6 87 yX0_addItem := lnk_of (t := 458) (by decide +kernel)
theorem kX6_90 : lnk RX6 90 yX0_hasCitizen := lnk_of (t := 331) (by decide +kernel)
theorem kX6_93 : lnk RX6 93 yX6_toldOfCitizen := lnk_of (t := 335) (by decide +kernel)
theorem kX6_96 : lnk RX6 96 yX0_hasItem := lnk_of (t := 411) (by decide +kernel)
theorem kX6_99 : lnk RX6 99 yX6_toldOfItem := lnk_of (t := 415) (by decide +kernel)
theorem kX6_102 : lnk RX6 102 yX0_numberOf := lnk_of (t := 339) (by decide +kernel)
theorem kX6_105 : lnk RX6 105 yX0_bribeOf := lnk_of (t := 344) (by decide +kernel)
theorem kX6_108 : lnk RX6 108 yX0_kindOf := lnk_of (t := 348) (by decide +kernel)
theorem kX6_111 : lnk RX6 111 yX0_listed := lnk_of (t := 352) (by decide +kernel)
theorem kX6_115 : lnk RX6 115 yX0_isRead := lnk_of (t := 396) (by decide +kernel)
theorem kX6_119 : lnk RX6 119 yX0_silenceOf := lnk_of (t := 397) (by decide +kernel)
theorem kX6_122 : lnk RX6 122 yX0_timeOf := lnk_of (t := 404) (by decide +kernel)
theorem kX6_125 : lnk RX6 125 yX0_takesOf := lnk_of (t := 419) (by decide +kernel)
theorem kX6_128 : lnk RX6 128 yX0_soFarOf := lnk_of (t := 424) (by decide +kernel)
theorem kX6_131 : lnk RX6 131 yX0_doneAt := lnk_of (t := 428) (by decide +kernel)
theorem kX6_134 : lnk RX6 134 yX3_addByte := lnk_of (t := 467) (by decide +kernel)
theorem kX6_137 : lnk RX6 137 yX5_isFull := lnk_of (t := 475) (by decide +kernel)
theorem kX6_141 : lnk RX6 141 yX3_readTape := lnk_of (t := 479) (by decide +kernel)
theorem kX6_144 : lnk RX6 144 yX5_hasText := lnk_of (t := 616) (by decide +kernel)
theorem kX6_150 : lnk RX6 150 yJ6_bitCount_0f7a4 := lnk_of (t := 621) (by decide +kernel)
theorem kX6_155 : lnk RX6 155 yX0_spentOn := lnk_of (t := 622) (by decide +kernel)
theorem kX6_158 : lnk RX6 158 yX0_minutesLeft := lnk_of (t := 628) (by decide +kernel)
theorem kX6_161 : lnk RX6 161 yX0_everyone := lnk_of (t := 643) (by decide +kernel)
theorem kX6_164 : lnk RX6 164 yX0_spentBy := lnk_of (t := 644) (by decide +kernel)
theorem kX6_167 : lnk RX6 167 yX0_itemsDone := lnk_of (t := 652) (by decide +kernel)
theorem kX6_170 : lnk RX6 170 yX0_hold := lnk_of (t := 657) (by decide +kernel)
theorem kX6_173 : lnk RX6 173 yX0_become := lnk_of (t := 671) (by decide +kernel)
theorem kX6_177 : lnk RX6 177 yX0_doneWithin := lnk_of (t := 690) (by decide +kernel)
theorem kX6_183 : lnk RX6 183 yX2_weigh := lnk_of (t := 703) (by decide +kernel)
theorem kX6_192 : lnk RX6 192 yX4_hasPlace := lnk_of (t := 727) (by decide +kernel)
theorem kX6_195 : lnk RX6 195 yX6_canBeAsked := lnk_of (t := 731) (by decide +kernel)
theorem kX6_198 : lnk RX6 198 yX4_isMissing := lnk_of (t := 735) (by decide +kernel)
theorem kX6_201 : lnk RX6 201 yX4_sizeOf := lnk_of (t := 744) (by decide +kernel)
theorem kX6_204 : lnk RX6 204 yX4_valueAt := lnk_of (t := 748) (by decide +kernel)
theorem kX6_207 : lnk RX6 207 yX6_ways := lnk_of (t := 757) (by decide +kernel)
theorem kX6_210 : lnk RX6 210 yX6_textsBy := lnk_of (t := 761) (by decide +kernel)
theorem kX6_213 : lnk RX6 213 yX6_ofOneBy := lnk_of (t := 769) (by decide +kernel)
theorem kX6_220 : lnk RX6 220 yX0_spentByList := lnk_of (t := 765) (by decide +kernel)
theorem kX6_223 : lnk RX6 223 yX6_kindsBy := lnk_of (t := 773) (by decide +kernel)
theorem kX6_226 : lnk RX6 226 yX6_numbersBy := lnk_of (t := 781) (by decide +kernel)
theorem kX6_229 : lnk RX6 229 yX6_bribesBy := lnk_of (t := 785) (by decide +kernel)
theorem kX6_233 : lnk RX6 233 yX0_putKind := lnk_of (t := 777) (by decide +kernel)
theorem kX6_236 : lnk RX6 236 yX4_lay := lnk_of (t := 793) (by decide +kernel)
theorem kX6_240 : lnk RX6 240 yX4_store := lnk_of (t := 797) (by decide +kernel)
theorem kX6_243 : lnk RX6 243 yX0_drawBribes := lnk_of (t := 805) (by decide +kernel)
theorem kX6_249 : lnk RX6 249 yX6_inLowestTerms := lnk_of (t := 816) (by decide +kernel)
theorem kX6_258 : lnk RX6 258 yX4_isSort := lnk_of (t := 835) (by decide +kernel)
theorem kX6_261 : lnk RX6 261 yX4_hasItem := lnk_of (t := 842) (by decide +kernel)
theorem kX6_263 : lnk RX6 263 yX4_sortOf := lnk_of (t := 847) (by decide +kernel)
theorem kX6_266 : lnk RX6 266 yX4_hasItems := lnk_of (t := 848) (by decide +kernel)
theorem kX6_270 : lnk RX6 270 yX4_move := lnk_of (t := 852) (by decide +kernel)
theorem kX6_274 : lnk RX6 274 yX6_citizen := lnk_of (t := 862) (by decide +kernel)
theorem kX6_277 : lnk RX6 277 yX1_isUnder := lnk_of (t := 867) (by decide +kernel)
theorem kX7_79 : lnk RX7 79 yX7_spell := lnk_of (t := 879) (by decide +kernel)
theorem kX7_89 : lnk RX7 89 yX7_in := lnk_of (t := 1055) (by decide +kernel)
theorem kX7_98 : lnk RX7 98 yX7_isOne := lnk_of (t := 1058) (by decide +kernel)
theorem kX7_102 : lnk RX7 102 yX7_mostOf := lnk_of (t := 1062) (by decide +kernel)
theorem kX7_106 : lnk RX7 106 yX7_told := lnk_of (t := 1065) (by decide +kernel)
theorem kX7_110 : lnk RX7 110 yX7_lays := lnk_of (t := 1176) (by decide +kernel)
theorem kX7_128 : lnk RX7 128 yX7_isItem := lnk_of (t := 1070) (by decide +kernel)
theorem kX7_135 : lnk RX7 135 yX7_listNow := lnk_of (t := 1076) (by decide +kernel)
theorem kX7_139 : lnk RX7 139 yX7_bitsOf := lnk_of (t := 1165) (by decide +kernel)
theorem kX7_142 : lnk RX7 142 yX7_silenceOf := lnk_of (t := 1168) (by decide +kernel)
theorem kX7_145 : lnk RX7 145 yX7_timeOf := lnk_of (t := 1172) (by decide +kernel)
theorem kX7_162 : lnk RX7 162 yX7_byteAt := lnk_of (t := 1100) (by decide +kernel)
theorem kX7_190 : lnk RX7 190 yX7_isLetter := lnk_of (t := 1112) (by decide +kernel)
theorem kX7_197 : lnk RX7 197 yX7_fail := lnk_of (t := 1120) (by decide +kernel)
theorem kX7_200 : lnk RX7 200 yX7_next := lnk_of (t := 1096) (by decide +kernel)
theorem kX7_203 : lnk RX7 203 yX7_isWord := lnk_of (t := 1108) (by decide +kernel)
theorem kX7_225 : lnk RX7 225 yX7_isSign := lnk_of (t := 1152) (by decide +kernel)
theorem kX7_228 : lnk RX7 228 yX7_opens := lnk_of (t := 1136) (by decide +kernel)
theorem kX7_232 : lnk RX7 232 yX7_atom := lnk_of (t := 1148) (by decide +kernel)
theorem kX7_235 : lnk RX7 235 yX7_either := lnk_of (t := 1124) (by decide +kernel)
theorem kX7_238 : lnk RX7 238 yX7_name := lnk_of (t := 1156) (by decide +kernel)
theorem kX7_241 : lnk RX7 241 yX7_term := lnk_of (t := 1144) (by decide +kernel)
theorem kX7_246 : lnk RX7 246 yX7_not := lnk_of (t := 1132) (by decide +kernel)
theorem kX7_249 : lnk RX7 249 yX7_added := lnk_of (t := 1140) (by decide +kernel)
theorem kX7_254 : lnk RX7 254 yX7_both := lnk_of (t := 1128) (by decide +kernel)
theorem kX7_257 : lnk RX7 257 yX7_part := lnk_of (t := 1116) (by decide +kernel)
theorem kX7_261 : lnk RX7 261 yX7_read := lnk_of (t := 1092) (by decide +kernel)
theorem kX7_272 : lnk RX7 272 yX7_within := lnk_of (t := 1162) (by decide +kernel)
theorem kX7_276 : lnk RX7 276 yX7_asks := lnk_of (t := 1084) (by decide +kernel)
theorem kX7_279 : lnk RX7 279 yX7_isRead := lnk_of (t := 1080) (by decide +kernel)
theorem kX7_282 : lnk RX7 282 yX7_goneBy := lnk_of (t := 1218) (by decide +kernel)
theorem kX7_285 : lnk RX7 285 yX7_gone := lnk_of (t := 1214) (by decide +kernel)
theorem kX7_290 : lnk RX7 290 yX7_leftNow := lnk_of (t := 1210) (by decide +kernel)
theorem kX7_296 : lnk RX7 296 yX7_sits := lnk_of (t := 1230) (by decide +kernel)
theorem kX7_306 : lnk RX7 306 yX7_laysAside := lnk_of (t := 1240) (by decide +kernel)
theorem kX7_309 : lnk RX7 309 yX7_doneMany := lnk_of (t := 1244) (by decide +kernel)
theorem kX7_312 : lnk RX7 312 yX7_laysBack := lnk_of (t := 1248) (by decide +kernel)
theorem kX7_315 : lnk RX7 315 yX7_run := lnk_of (t := 1268) (by decide +kernel)
theorem kX7_318 : lnk RX7 318 yX7_doneAt := lnk_of (t := 1264) (by decide +kernel)
theorem kX7_327 : lnk RX7 327 yX7_sittingFor := lnk_of (t := 1281) (by decide +kernel)
theorem kX7_330 : lnk RX7 330 yX7_seeks := lnk_of (t := 1277) (by decide +kernel)
theorem kX7_348 : lnk RX7 348 yX7_isSheet := lnk_of (t := 1294) (by decide +kernel)
theorem kX7_351 : lnk RX7 351 yX7_looks := lnk_of (t := 1297) (by decide +kernel)
theorem kX7_355 : lnk RX7 355 yX7_sheet := lnk_of (t := 1305) (by decide +kernel)
theorem kX7_359 : lnk RX7 359 yX7_draws := lnk_of (t := 1314) (by decide +kernel)
theorem kX7_362 : lnk RX7 362 yX7_bribesAgain := lnk_of (t := 1319) (by decide +kernel)
theorem kX7_385 : lnk RX7 385 yX7_citizen := lnk_of (t := 1355) (by decide +kernel)
theorem kX7_388 : lnk RX7 388 yX7_over := lnk_of (t := 1360) (by decide +kernel)
theorem kJ0_335 : lnk RJ0 335 yJ0_coder_7d493 := lnk_of (t := 521) (by decide +kernel)
theorem kJ0_492 : lnk RJ0 492 yJ0_isLatin1_aae02 := lnk_of (t := 531) (by decide +kernel)
theorem kJ0_495 : lnk RJ0 495 yJ1_charAt_3b067 := lnk_of (t := 535) (by decide +kernel)
theorem kJ0_498 : lnk RJ0 498 yJ2_charAt_3b067 := lnk_of (t := 546) (by decide +kernel)
theorem kJ0_1059 : lnk RJ0 1059 yJ3_checkIndex_8e157 := lnk_of (t := 543) (by decide +kernel)
theorem kJ1_9 : lnk RJ1 9 yJ0_checkIndex_df160 := lnk_of (t := 538) (by decide +kernel)
theorem kJ2_48 : lnk RJ2 48 yJ2_length_9d52b := lnk_of (t := 552) (by decide +kernel)
theorem kJ2_67 : lnk RJ2 67 yJ2_checkIndex_2214a := lnk_of (t := 549) (by decide +kernel)
theorem kJ2_71 : lnk RJ2 71 yJ2_getChar_3b067 := lnk_of (t := 556) (by decide +kernel)
theorem kJ2_414 : lnk RJ2 414 yJ0_checkIndex_df160 := lnk_of (t := 555) (by decide +kernel)
theorem kL_9 : lnk RL 9 yX6_init := lnk_of (t := 128) (by decide +kernel)
theorem kL_12 : lnk RL 12 yX7_init := lnk_of (t := 875) (by decide +kernel)
theorem kL_13 : lnk RL 13 yX6_set := lnk_of (t := 323) (by decide +kernel)
theorem kL_17 : lnk RL 17 yX7_set := lnk_of (t := 1050) (by decide +kernel)
theorem kL_18 : lnk RL 18 yX6_citizen := lnk_of (t := 443) (by decide +kernel)
theorem kL_22 : lnk RL 22 yX7_citizen := lnk_of (t := 1180) (by decide +kernel)
theorem kL_23 : lnk RL 23 yX6_business := lnk_of (t := 454) (by decide +kernel)
theorem kL_27 : lnk RL 27 yX7_business := lnk_of (t := 1186) (by decide +kernel)
theorem kL_28 : lnk RL 28 yX6_told := lnk_of (t := 462) (by decide +kernel)
theorem kL_31 : lnk RL 31 yX7_told := lnk_of (t := 1191) (by decide +kernel)
theorem kL_32 : lnk RL 32 yX6_feed := lnk_of (t := 463) (by decide +kernel)
theorem kL_35 : lnk RL 35 yX7_feed := lnk_of (t := 1192) (by decide +kernel)
theorem kL_36 : lnk RL 36 yX6_text := lnk_of (t := 471) (by decide +kernel)
theorem kL_40 : lnk RL 40 yX7_text := lnk_of (t := 1197) (by decide +kernel)
theorem kL_41 : lnk RL 41 yX6_force := lnk_of (t := 612) (by decide +kernel)
theorem kL_44 : lnk RL 44 yX7_force := lnk_of (t := 1201) (by decide +kernel)
theorem kL_45 : lnk RL 45 yX6_list := lnk_of (t := 617) (by decide +kernel)
theorem kL_48 : lnk RL 48 yX7_list := lnk_of (t := 1205) (by decide +kernel)
theorem kL_49 : lnk RL 49 yX6_by := lnk_of (t := 639) (by decide +kernel)
theorem kL_52 : lnk RL 52 yX7_by := lnk_of (t := 1222) (by decide +kernel)
theorem kL_53 : lnk RL 53 yX6_sit := lnk_of (t := 648) (by decide +kernel)
theorem kL_56 : lnk RL 56 yX7_sit := lnk_of (t := 1226) (by decide +kernel)
theorem kL_57 : lnk RL 57 yX6_run := lnk_of (t := 667) (by decide +kernel)
theorem kL_60 : lnk RL 60 yX7_run := lnk_of (t := 1234) (by decide +kernel)
theorem kL_61 : lnk RL 61 yX6_shortest := lnk_of (t := 678) (by decide +kernel)
theorem kL_64 : lnk RL 64 yX7_shortest := lnk_of (t := 1252) (by decide +kernel)
theorem kL_65 : lnk RL 65 yX6_fewest := lnk_of (t := 682) (by decide +kernel)
theorem kL_68 : lnk RL 68 yX7_fewest := lnk_of (t := 1256) (by decide +kernel)
theorem kL_69 : lnk RL 69 yX6_soonest := lnk_of (t := 686) (by decide +kernel)
theorem kL_72 : lnk RL 72 yX7_soonest := lnk_of (t := 1260) (by decide +kernel)
theorem kL_73 : lnk RL 73 yX6_bribe := lnk_of (t := 695) (by decide +kernel)
theorem kL_76 : lnk RL 76 yX7_bribe := lnk_of (t := 1269) (by decide +kernel)
theorem kL_77 : lnk RL 77 yX6_order := lnk_of (t := 699) (by decide +kernel)
theorem kL_80 : lnk RL 80 yX7_order := lnk_of (t := 1273) (by decide +kernel)
theorem kL_81 : lnk RL 81 yX6_turned := lnk_of (t := 719) (by decide +kernel)
theorem kL_84 : lnk RL 84 yX7_turned := lnk_of (t := 1285) (by decide +kernel)
theorem kL_85 : lnk RL 85 yX6_tells := lnk_of (t := 723) (by decide +kernel)
theorem kL_88 : lnk RL 88 yX7_tells := lnk_of (t := 1289) (by decide +kernel)
theorem kL_89 : lnk RL 89 yX6_film := lnk_of (t := 789) (by decide +kernel)
theorem kL_92 : lnk RL 92 yX7_film := lnk_of (t := 1301) (by decide +kernel)
theorem kL_93 : lnk RL 93 yX6_drawn := lnk_of (t := 801) (by decide +kernel)
theorem kL_96 : lnk RL 96 yX7_drawn := lnk_of (t := 1310) (by decide +kernel)
theorem kL_97 : lnk RL 97 yX6_chance := lnk_of (t := 811) (by decide +kernel)
theorem kL_101 : lnk RL 101 yX7_chance := lnk_of (t := 1323) (by decide +kernel)
theorem kL_102 : lnk RL 102 yX6_image := lnk_of (t := 819) (by decide +kernel)
theorem kL_105 : lnk RL 105 yX7_image := lnk_of (t := 1329) (by decide +kernel)
theorem kL_106 : lnk RL 106 yX6_back := lnk_of (t := 823) (by decide +kernel)
theorem kL_109 : lnk RL 109 yX7_back := lnk_of (t := 1333) (by decide +kernel)
theorem kL_110 : lnk RL 110 yX6_count := lnk_of (t := 827) (by decide +kernel)
theorem kL_113 : lnk RL 113 yX7_count := lnk_of (t := 1337) (by decide +kernel)
theorem kL_114 : lnk RL 114 yX6_sheet := lnk_of (t := 831) (by decide +kernel)
theorem kL_117 : lnk RL 117 yX7_sheet := lnk_of (t := 1341) (by decide +kernel)
theorem kL_118 : lnk RL 118 yX6_cell := lnk_of (t := 838) (by decide +kernel)
theorem kL_121 : lnk RL 121 yX7_cell := lnk_of (t := 1342) (by decide +kernel)
theorem kL_122 : lnk RL 122 yX6_copy := lnk_of (t := 843) (by decide +kernel)
theorem kL_126 : lnk RL 126 yX7_copy := lnk_of (t := 1346) (by decide +kernel)
theorem kL_127 : lnk RL 127 yX6_citizens := lnk_of (t := 858) (by decide +kernel)
theorem kL_131 : lnk RL 131 yX7_citizens := lnk_of (t := 1350) (by decide +kernel)
theorem kL_132 : lnk RL 132 yX6_taken := lnk_of (t := 863) (by decide +kernel)
theorem kL_135 : lnk RL 135 yX7_taken := lnk_of (t := 1356) (by decide +kernel)
