/-! 15.chk, piece 2 -/
set_option maxRecDepth 100000 in
theorem k_X5_number : a_Mok (⟨"SoldWeather$Reader", "number", "()I"⟩, prog_7_method_10_code, 2, (some .int), m_X5_number) := ⟨List.mem_of_getElem? (i := 357) (by decide +kernel), by decide +kernel, by decide +kernel, by decide +kernel, by decide +kernel⟩
set_option maxRecDepth 100000 in
theorem k_X5_keepClause : a_Mok (⟨"SoldWeather$Reader", "keepClause", "(I)Z"⟩, prog_7_method_11_code, 2, (some .boolean), m_X5_keepClause) := ⟨List.mem_of_getElem? (i := 375) (by decide +kernel), by decide +kernel, by decide +kernel, by decide +kernel, by decide +kernel⟩
set_option maxRecDepth 100000 in
theorem k_X5_expression : a_Mok (⟨"SoldWeather$Reader", "expression", "(I)Z"⟩, prog_7_method_12_code, 5, (some .boolean), m_X5_expression) := ⟨List.mem_of_getElem? (i := 360) (by decide +kernel), by decide +kernel, by decide +kernel, by decide +kernel, by decide +kernel⟩
set_option maxRecDepth 100000 in
theorem k_X5_factor : a_Mok (⟨"SoldWeather$Reader", "factor", "(I)Z"⟩, prog_7_method_13_code, 3, (some .boolean), m_X5_factor) := ⟨List.mem_of_getElem? (i := 363) (by decide +kernel), by decide +kernel, by decide +kernel, by decide +kernel, by decide +kernel⟩
set_option maxRecDepth 100000 in
theorem k_X5_test : a_Mok (⟨"SoldWeather$Reader", "test", "()Z"⟩, prog_7_method_14_code, 4, (some .boolean), m_X5_test) := ⟨List.mem_of_getElem? (i := 366) (by decide +kernel), by decide +kernel, by decide +kernel, by decide +kernel, by decide +kernel⟩
set_option maxRecDepth 100000 in
theorem k_X5_askedBy : a_Mok (⟨"SoldWeather$Reader", "askedBy", "(I)I"⟩, prog_7_method_15_code, 1, (some .int), m_X5_askedBy) := ⟨List.mem_of_getElem? (i := 369) (by decide +kernel), by decide +kernel, by decide +kernel, by decide +kernel, by decide +kernel⟩
set_option maxRecDepth 100000 in
theorem k_X5_put : a_Mok (⟨"SoldWeather$Reader", "put", "(I)Z"⟩, prog_7_method_16_code, 2, (some .boolean), m_X5_put) := ⟨List.mem_of_getElem? (i := 372) (by decide +kernel), by decide +kernel, by decide +kernel, by decide +kernel, by decide +kernel⟩
set_option maxRecDepth 100000 in
theorem k_X6_init : a_Mok (⟨"SoldWeather$Saving", "<init>", "(III)V"⟩, prog_8_method_1_code, 4, none, m_X6_init) := ⟨List.mem_of_getElem? (i := 512) (by decide +kernel), by decide +kernel, by decide +kernel, by decide +kernel, by decide +kernel⟩
set_option maxRecDepth 100000 in
theorem k_X6_wish : a_Mok (⟨"SoldWeather$Saving", "wish", "(LSoldWeather$Course;I)I"⟩, prog_8_method_2_code, 3, (some .int), m_X6_wish) := ⟨List.mem_of_getElem? (i := 607) (by decide +kernel), by decide +kernel, by decide +kernel, by decide +kernel, by decide +kernel⟩
set_option maxRecDepth 100000 in
theorem k_X6_tells : a_Mok (⟨"SoldWeather$Saving", "tells", "(I[I)I"⟩, prog_8_method_3_code, 4, (some .int), m_X6_tells) := ⟨List.mem_of_getElem? (i := 843) (by decide +kernel), by decide +kernel, by decide +kernel, by decide +kernel, by decide +kernel⟩
set_option maxRecDepth 100000 in
theorem k_X7_init : a_Mok (⟨"SoldWeather$Sharing", "<init>", "(III)V"⟩, prog_9_method_1_code, 4, none, m_X7_init) := ⟨List.mem_of_getElem? (i := 522) (by decide +kernel), by decide +kernel, by decide +kernel, by decide +kernel, by decide +kernel⟩
set_option maxRecDepth 100000 in
theorem k_X7_wish : a_Mok (⟨"SoldWeather$Sharing", "wish", "(LSoldWeather$Course;I)I"⟩, prog_9_method_2_code, 6, (some .int), m_X7_wish) := ⟨List.mem_of_getElem? (i := 615) (by decide +kernel), by decide +kernel, by decide +kernel, by decide +kernel, by decide +kernel⟩
set_option maxRecDepth 100000 in
theorem k_X7_bids : a_Mok (⟨"SoldWeather$Sharing", "bids", "(I[I)I"⟩, prog_9_method_3_code, 3, (some .int), m_X7_bids) := ⟨List.mem_of_getElem? (i := 799) (by decide +kernel), by decide +kernel, by decide +kernel, by decide +kernel, by decide +kernel⟩
set_option maxRecDepth 100000 in
theorem k_X8_init : a_Mok (⟨"SoldWeather$Told", "<init>", "(III)V"⟩, prog_10_method_1_code, 4, none, m_X8_init) := ⟨List.mem_of_getElem? (i := 532) (by decide +kernel), by decide +kernel, by decide +kernel, by decide +kernel, by decide +kernel⟩
set_option maxRecDepth 100000 in
theorem k_X8_wish : a_Mok (⟨"SoldWeather$Told", "wish", "(LSoldWeather$Course;I)I"⟩, prog_10_method_2_code, 3, (some .int), m_X8_wish) := ⟨List.mem_of_getElem? (i := 619) (by decide +kernel), by decide +kernel, by decide +kernel, by decide +kernel, by decide +kernel⟩
set_option maxRecDepth 100000 in
theorem k_X8_pays : a_Mok (⟨"SoldWeather$Told", "pays", "(I[I)I"⟩, prog_10_method_3_code, 3, (some .int), m_X8_pays) := ⟨List.mem_of_getElem? (i := 823) (by decide +kernel), by decide +kernel, by decide +kernel, by decide +kernel, by decide +kernel⟩
set_option maxRecDepth 100000 in
theorem k_X9_init : a_Mok (⟨"SoldWeather$Valley", "<init>", "([I[I[III)V"⟩, prog_11_method_1_code, 6, none, m_X9_init) := ⟨List.mem_of_getElem? (i := 390) (by decide +kernel), by decide +kernel, by decide +kernel, by decide +kernel, by decide +kernel⟩
set_option maxRecDepth 100000 in
theorem k_X9_worth : a_Mok (⟨"SoldWeather$Valley", "worth", "([I)I"⟩, prog_11_method_2_code, 5, (some .int), m_X9_worth) := ⟨List.mem_of_getElem? (i := 585) (by decide +kernel), by decide +kernel, by decide +kernel, by decide +kernel, by decide +kernel⟩
set_option maxRecDepth 100000 in
theorem k_X9_holds : a_Mok (⟨"SoldWeather$Valley", "holds", "(II[I)Z"⟩, prog_11_method_3_code, 10, (some .boolean), m_X9_holds) := ⟨List.mem_of_getElem? (i := 588) (by decide +kernel), by decide +kernel, by decide +kernel, by decide +kernel, by decide +kernel⟩
set_option maxRecDepth 100000 in
theorem k_X10_init : a_Mok (⟨"SoldWeather$World", "<init>", "()V"⟩, prog_12_method_1_code, 2, none, m_X10_init) := ⟨List.mem_of_getElem? (i := 91) (by decide +kernel), by decide +kernel, by decide +kernel, by decide +kernel, by decide +kernel⟩
set_option maxRecDepth 100000 in
theorem k_X10_becomeLike : a_Mok (⟨"SoldWeather$World", "becomeLike", "(LSoldWeather$World;)V"⟩, prog_12_method_2_code, 3, none, m_X10_becomeLike) := ⟨List.mem_of_getElem? (i := 873) (by decide +kernel), by decide +kernel, by decide +kernel, by decide +kernel, by decide +kernel⟩
set_option maxRecDepth 100000 in
theorem k_X10_isOne : a_Mok (⟨"SoldWeather$World", "isOne", "(I)Z"⟩, prog_12_method_3_code, 2, (some .boolean), m_X10_isOne) := ⟨List.mem_of_getElem? (i := 556) (by decide +kernel), by decide +kernel, by decide +kernel, by decide +kernel, by decide +kernel⟩
set_option maxRecDepth 100000 in
theorem k_X10_one : a_Mok (⟨"SoldWeather$World", "one", "(I)LSoldWeather$Bidder;"⟩, prog_12_method_4_code, 2, (some (.object "SoldWeather$Bidder")), m_X10_one) := ⟨List.mem_of_getElem? (i := 552) (by decide +kernel), by decide +kernel, by decide +kernel, by decide +kernel, by decide +kernel⟩
set_option maxRecDepth 100000 in
theorem k_X10_payRule : a_Mok (⟨"SoldWeather$World", "payRule", "()I"⟩, prog_12_method_5_code, 1, (some .int), m_X10_payRule) := ⟨List.mem_of_getElem? (i := 418) (by decide +kernel), by decide +kernel, by decide +kernel, by decide +kernel, by decide +kernel⟩
