/-! 15.chk, piece 1 -/
set_option maxRecDepth 100000 in
theorem k_X2_gain : a_Mok (⟨"SoldWeather$Course", "gain", "(I)I"⟩, prog_4_method_16_code, 2, (some .int), m_X2_gain) := ⟨List.mem_of_getElem? (i := 721) (by decide +kernel), by decide +kernel, by decide +kernel, by decide +kernel, by decide +kernel⟩
set_option maxRecDepth 100000 in
theorem k_X2_gainByLie : a_Mok (⟨"SoldWeather$Course", "gainByLie", "(III)I"⟩, prog_4_method_17_code, 7, (some .int), m_X2_gainByLie) := ⟨List.mem_of_getElem? (i := 727) (by decide +kernel), by decide +kernel, by decide +kernel, by decide +kernel, by decide +kernel⟩
set_option maxRecDepth 100000 in
theorem k_X2_gainTogether : a_Mok (⟨"SoldWeather$Course", "gainTogether", "(II)I"⟩, prog_4_method_18_code, 5, (some .int), m_X2_gainTogether) := ⟨List.mem_of_getElem? (i := 741) (by decide +kernel), by decide +kernel, by decide +kernel, by decide +kernel, by decide +kernel⟩
set_option maxRecDepth 100000 in
theorem k_X2_rowOf : a_Mok (⟨"SoldWeather$Course", "rowOf", "(II)I"⟩, prog_4_method_19_code, 3, (some .int), m_X2_rowOf) := ⟨List.mem_of_getElem? (i := 623) (by decide +kernel), by decide +kernel, by decide +kernel, by decide +kernel, by decide +kernel⟩
set_option maxRecDepth 100000 in
theorem k_X2_one : a_Mok (⟨"SoldWeather$Course", "one", "(I)LSoldWeather$Bidder;"⟩, prog_4_method_20_code, 2, (some (.object "SoldWeather$Bidder")), m_X2_one) := ⟨List.mem_of_getElem? (i := 599) (by decide +kernel), by decide +kernel, by decide +kernel, by decide +kernel, by decide +kernel⟩
set_option maxRecDepth 100000 in
theorem k_X2_worthTo : a_Mok (⟨"SoldWeather$Course", "worthTo", "(II)I"⟩, prog_4_method_21_code, 3, (some .int), m_X2_worthTo) := ⟨List.mem_of_getElem? (i := 638) (by decide +kernel), by decide +kernel, by decide +kernel, by decide +kernel, by decide +kernel⟩
set_option maxRecDepth 100000 in
theorem k_X2_worthToAll : a_Mok (⟨"SoldWeather$Course", "worthToAll", "(I)I"⟩, prog_4_method_22_code, 2, (some .int), m_X2_worthToAll) := ⟨List.mem_of_getElem? (i := 700) (by decide +kernel), by decide +kernel, by decide +kernel, by decide +kernel, by decide +kernel⟩
set_option maxRecDepth 100000 in
theorem k_X2_worthToAllOn : a_Mok (⟨"SoldWeather$Course", "worthToAllOn", "(III)I"⟩, prog_4_method_23_code, 6, (some .int), m_X2_worthToAllOn) := ⟨List.mem_of_getElem? (i := 704) (by decide +kernel), by decide +kernel, by decide +kernel, by decide +kernel, by decide +kernel⟩
set_option maxRecDepth 100000 in
theorem k_X2_worth : a_Mok (⟨"SoldWeather$Course", "worth", "(LSoldWeather$Bidder;III)I"⟩, prog_4_method_24_code, 6, (some .int), m_X2_worth) := ⟨List.mem_of_getElem? (i := 581) (by decide +kernel), by decide +kernel, by decide +kernel, by decide +kernel, by decide +kernel⟩
set_option maxRecDepth 100000 in
theorem k_X3_init : a_Mok (⟨"SoldWeather$League", "<init>", "(III)V"⟩, prog_5_method_1_code, 4, none, m_X3_init) := ⟨List.mem_of_getElem? (i := 492) (by decide +kernel), by decide +kernel, by decide +kernel, by decide +kernel, by decide +kernel⟩
set_option maxRecDepth 100000 in
theorem k_X3_wish : a_Mok (⟨"SoldWeather$League", "wish", "(LSoldWeather$Course;I)I"⟩, prog_5_method_2_code, 5, (some .int), m_X3_wish) := ⟨List.mem_of_getElem? (i := 594) (by decide +kernel), by decide +kernel, by decide +kernel, by decide +kernel, by decide +kernel⟩
set_option maxRecDepth 100000 in
theorem k_X3_pays : a_Mok (⟨"SoldWeather$League", "pays", "(I[I)I"⟩, prog_5_method_3_code, 3, (some .int), m_X3_pays) := ⟨List.mem_of_getElem? (i := 814) (by decide +kernel), by decide +kernel, by decide +kernel, by decide +kernel, by decide +kernel⟩
set_option maxRecDepth 100000 in
theorem k_X4_init : a_Mok (⟨"SoldWeather$Low", "<init>", "(III)V"⟩, prog_6_method_1_code, 4, none, m_X4_init) := ⟨List.mem_of_getElem? (i := 451) (by decide +kernel), by decide +kernel, by decide +kernel, by decide +kernel, by decide +kernel⟩
set_option maxRecDepth 100000 in
theorem k_X4_wish : a_Mok (⟨"SoldWeather$Low", "wish", "(LSoldWeather$Course;I)I"⟩, prog_6_method_2_code, 4, (some .int), m_X4_wish) := ⟨List.mem_of_getElem? (i := 603) (by decide +kernel), by decide +kernel, by decide +kernel, by decide +kernel, by decide +kernel⟩
set_option maxRecDepth 100000 in
theorem k_X4_bids : a_Mok (⟨"SoldWeather$Low", "bids", "(I[I)I"⟩, prog_6_method_3_code, 3, (some .int), m_X4_bids) := ⟨List.mem_of_getElem? (i := 790) (by decide +kernel), by decide +kernel, by decide +kernel, by decide +kernel, by decide +kernel⟩
set_option maxRecDepth 100000 in
theorem k_X5_init : a_Mok (⟨"SoldWeather$Reader", "<init>", "([I)V"⟩, prog_7_method_1_code, 2, none, m_X5_init) := ⟨List.mem_of_getElem? (i := 175) (by decide +kernel), by decide +kernel, by decide +kernel, by decide +kernel, by decide +kernel⟩
set_option maxRecDepth 100000 in
theorem k_X5_faultOf : a_Mok (⟨"SoldWeather$Reader", "faultOf", "(I)I"⟩, prog_7_method_2_code, 3, (some .int), m_X5_faultOf) := ⟨List.mem_of_getElem? (i := 293) (by decide +kernel), by decide +kernel, by decide +kernel, by decide +kernel, by decide +kernel⟩
set_option maxRecDepth 100000 in
theorem k_X5_made : a_Mok (⟨"SoldWeather$Reader", "made", "()LSoldWeather$Valley;"⟩, prog_7_method_3_code, 1, (some (.object "SoldWeather$Valley")), m_X5_made) := ⟨List.mem_of_getElem? (i := 379) (by decide +kernel), by decide +kernel, by decide +kernel, by decide +kernel, by decide +kernel⟩
set_option maxRecDepth 100000 in
theorem k_X5_head : a_Mok (⟨"SoldWeather$Reader", "head", "([II)[I"⟩, prog_7_method_4_code, 3, (some (.array .int)), m_X5_head) := ⟨List.mem_of_getElem? (i := 384) (by decide +kernel), by decide +kernel, by decide +kernel, by decide +kernel, by decide +kernel⟩
set_option maxRecDepth 100000 in
theorem k_X5_step : a_Mok (⟨"SoldWeather$Reader", "step", "()V"⟩, prog_7_method_5_code, 1, none, m_X5_step) := ⟨List.mem_of_getElem? (i := 299) (by decide +kernel), by decide +kernel, by decide +kernel, by decide +kernel, by decide +kernel⟩
set_option maxRecDepth 100000 in
theorem k_X5_clause : a_Mok (⟨"SoldWeather$Reader", "clause", "()Z"⟩, prog_7_method_6_code, 3, (some .boolean), m_X5_clause) := ⟨List.mem_of_getElem? (i := 302) (by decide +kernel), by decide +kernel, by decide +kernel, by decide +kernel, by decide +kernel⟩
set_option maxRecDepth 100000 in
theorem k_X5_wordOf : a_Mok (⟨"SoldWeather$Reader", "wordOf", "(I)Ljava/lang/String;"⟩, prog_7_method_7_code, 1, (some (.object "java/lang/String")), m_X5_wordOf) := ⟨List.mem_of_getElem? (i := 305) (by decide +kernel), by decide +kernel, by decide +kernel, by decide +kernel, by decide +kernel⟩
set_option maxRecDepth 100000 in
theorem k_X5_word : a_Mok (⟨"SoldWeather$Reader", "word", "(Ljava/lang/String;)Z"⟩, prog_7_method_8_code, 3, (some .boolean), m_X5_word) := ⟨List.mem_of_getElem? (i := 308) (by decide +kernel), by decide +kernel, by decide +kernel, by decide +kernel, by decide +kernel⟩
set_option maxRecDepth 100000 in
theorem k_X5_ruleNumber : a_Mok (⟨"SoldWeather$Reader", "ruleNumber", "()I"⟩, prog_7_method_9_code, 2, (some .int), m_X5_ruleNumber) := ⟨List.mem_of_getElem? (i := 354) (by decide +kernel), by decide +kernel, by decide +kernel, by decide +kernel, by decide +kernel⟩
