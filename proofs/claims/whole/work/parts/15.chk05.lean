/-! 15.chk, piece 5 -/
set_option maxRecDepth 100000 in
theorem k_X12_spells : a_Mok (⟨"SoldWeatherModel", "spells", "(Ljava/lang/String;)V"⟩, prog_14_method_11_code, 3, none, m_X12_spells) := ⟨List.mem_of_getElem? (i := 987) (by decide +kernel), by decide +kernel, by decide +kernel, by decide +kernel, by decide +kernel⟩
set_option maxRecDepth 100000 in
theorem k_X12_figures : a_Mok (⟨"SoldWeatherModel", "figures", "()I"⟩, prog_14_method_12_code, 3, (some .int), m_X12_figures) := ⟨List.mem_of_getElem? (i := 995) (by decide +kernel), by decide +kernel, by decide +kernel, by decide +kernel, by decide +kernel⟩
set_option maxRecDepth 100000 in
theorem k_X12_among : a_Mok (⟨"SoldWeatherModel", "among", "(Ljava/lang/String;)I"⟩, prog_14_method_13_code, 3, (some .int), m_X12_among) := ⟨List.mem_of_getElem? (i := 1010) (by decide +kernel), by decide +kernel, by decide +kernel, by decide +kernel, by decide +kernel⟩
set_option maxRecDepth 100000 in
theorem k_X12_emits : a_Mok (⟨"SoldWeatherModel", "emits", "(I)V"⟩, prog_14_method_14_code, 2, none, m_X12_emits) := ⟨List.mem_of_getElem? (i := 1007) (by decide +kernel), by decide +kernel, by decide +kernel, by decide +kernel, by decide +kernel⟩
set_option maxRecDepth 100000 in
theorem k_X12_factor : a_Mok (⟨"SoldWeatherModel", "factor", "()V"⟩, prog_14_method_15_code, 5, none, m_X12_factor) := ⟨List.mem_of_getElem? (i := 1004) (by decide +kernel), by decide +kernel, by decide +kernel, by decide +kernel, by decide +kernel⟩
set_option maxRecDepth 100000 in
theorem k_X12_every : a_Mok (⟨"SoldWeatherModel", "every", "()V"⟩, prog_14_method_16_code, 1, none, m_X12_every) := ⟨List.mem_of_getElem? (i := 1001) (by decide +kernel), by decide +kernel, by decide +kernel, by decide +kernel, by decide +kernel⟩
set_option maxRecDepth 100000 in
theorem k_X12_some : a_Mok (⟨"SoldWeatherModel", "some", "()V"⟩, prog_14_method_17_code, 1, none, m_X12_some) := ⟨List.mem_of_getElem? (i := 998) (by decide +kernel), by decide +kernel, by decide +kernel, by decide +kernel, by decide +kernel⟩
set_option maxRecDepth 100000 in
theorem k_X12_much : a_Mok (⟨"SoldWeatherModel", "much", "(ILjava/lang/String;)V"⟩, prog_14_method_18_code, 4, none, m_X12_much) := ⟨List.mem_of_getElem? (i := 984) (by decide +kernel), by decide +kernel, by decide +kernel, by decide +kernel, by decide +kernel⟩
set_option maxRecDepth 100000 in
theorem k_X12_ruleHere : a_Mok (⟨"SoldWeatherModel", "ruleHere", "()V"⟩, prog_14_method_19_code, 1, none, m_X12_ruleHere) := ⟨List.mem_of_getElem? (i := 1013) (by decide +kernel), by decide +kernel, by decide +kernel, by decide +kernel, by decide +kernel⟩
set_option maxRecDepth 100000 in
theorem k_X12_giftHere : a_Mok (⟨"SoldWeatherModel", "giftHere", "()V"⟩, prog_14_method_20_code, 2, none, m_X12_giftHere) := ⟨List.mem_of_getElem? (i := 1016) (by decide +kernel), by decide +kernel, by decide +kernel, by decide +kernel, by decide +kernel⟩
set_option maxRecDepth 100000 in
theorem k_X12_clauseHere : a_Mok (⟨"SoldWeatherModel", "clauseHere", "()V"⟩, prog_14_method_21_code, 1, none, m_X12_clauseHere) := ⟨List.mem_of_getElem? (i := 978) (by decide +kernel), by decide +kernel, by decide +kernel, by decide +kernel, by decide +kernel⟩
set_option maxRecDepth 100000 in
theorem k_X12_valley : a_Mok (⟨"SoldWeatherModel", "valley", "()I"⟩, prog_14_method_22_code, 2, (some .int), m_X12_valley) := ⟨List.mem_of_getElem? (i := 975) (by decide +kernel), by decide +kernel, by decide +kernel, by decide +kernel, by decide +kernel⟩
set_option maxRecDepth 100000 in
theorem k_X12_tellsOf : a_Mok (⟨"SoldWeatherModel", "tellsOf", "(I)I"⟩, prog_14_method_23_code, 2, (some .int), m_X12_tellsOf) := ⟨List.mem_of_getElem? (i := 1023) (by decide +kernel), by decide +kernel, by decide +kernel, by decide +kernel, by decide +kernel⟩
set_option maxRecDepth 100000 in
theorem k_X12_worthOf : a_Mok (⟨"SoldWeatherModel", "worthOf", "(IIII)I"⟩, prog_14_method_24_code, 14, (some .int), m_X12_worthOf) := ⟨List.mem_of_getElem? (i := 1057) (by decide +kernel), by decide +kernel, by decide +kernel, by decide +kernel, by decide +kernel⟩
set_option maxRecDepth 100000 in
theorem k_X12_worthNow : a_Mok (⟨"SoldWeatherModel", "worthNow", "(II)I"⟩, prog_14_method_25_code, 3, (some .int), m_X12_worthNow) := ⟨List.mem_of_getElem? (i := 1054) (by decide +kernel), by decide +kernel, by decide +kernel, by decide +kernel, by decide +kernel⟩
set_option maxRecDepth 100000 in
theorem k_X12_worthToAll : a_Mok (⟨"SoldWeatherModel", "worthToAll", "(III)I"⟩, prog_14_method_26_code, 6, (some .int), m_X12_worthToAll) := ⟨List.mem_of_getElem? (i := 1085) (by decide +kernel), by decide +kernel, by decide +kernel, by decide +kernel, by decide +kernel⟩
set_option maxRecDepth 100000 in
theorem k_X12_fortuneNext : a_Mok (⟨"SoldWeatherModel", "fortuneNext", "()I"⟩, prog_14_method_27_code, 1, (some .int), m_X12_fortuneNext) := ⟨List.mem_of_getElem? (i := 1026) (by decide +kernel), by decide +kernel, by decide +kernel, by decide +kernel, by decide +kernel⟩
set_option maxRecDepth 100000 in
theorem k_X12_told : a_Mok (⟨"SoldWeatherModel", "told", "(I)I"⟩, prog_14_method_28_code, 2, (some .int), m_X12_told) := ⟨List.mem_of_getElem? (i := 1020) (by decide +kernel), by decide +kernel, by decide +kernel, by decide +kernel, by decide +kernel⟩
set_option maxRecDepth 100000 in
theorem k_X12_fortune : a_Mok (⟨"SoldWeatherModel", "fortune", "(I)I"⟩, prog_14_method_29_code, 2, (some .int), m_X12_fortune) := ⟨List.mem_of_getElem? (i := 1030) (by decide +kernel), by decide +kernel, by decide +kernel, by decide +kernel, by decide +kernel⟩
set_option maxRecDepth 100000 in
theorem k_X12_person : a_Mok (⟨"SoldWeatherModel", "person", "(III)I"⟩, prog_14_method_30_code, 6, (some .int), m_X12_person) := ⟨List.mem_of_getElem? (i := 1037) (by decide +kernel), by decide +kernel, by decide +kernel, by decide +kernel, by decide +kernel⟩
set_option maxRecDepth 100000 in
theorem k_X12_row : a_Mok (⟨"SoldWeatherModel", "row", "(III)I"⟩, prog_14_method_31_code, 5, (some .int), m_X12_row) := ⟨List.mem_of_getElem? (i := 1041) (by decide +kernel), by decide +kernel, by decide +kernel, by decide +kernel, by decide +kernel⟩
set_option maxRecDepth 100000 in
theorem k_X12_kept : a_Mok (⟨"SoldWeatherModel", "kept", "(II)I"⟩, prog_14_method_32_code, 3, (some .int), m_X12_kept) := ⟨List.mem_of_getElem? (i := 1060) (by decide +kernel), by decide +kernel, by decide +kernel, by decide +kernel, by decide +kernel⟩
set_option maxRecDepth 100000 in
theorem k_X12_league : a_Mok (⟨"SoldWeatherModel", "league", "(II)I"⟩, prog_14_method_33_code, 5, (some .int), m_X12_league) := ⟨List.mem_of_getElem? (i := 1063) (by decide +kernel), by decide +kernel, by decide +kernel, by decide +kernel, by decide +kernel⟩
set_option maxRecDepth 100000 in
theorem k_X12_ahead : a_Mok (⟨"SoldWeatherModel", "ahead", "(II)I"⟩, prog_14_method_34_code, 6, (some .int), m_X12_ahead) := ⟨List.mem_of_getElem? (i := 1066) (by decide +kernel), by decide +kernel, by decide +kernel, by decide +kernel, by decide +kernel⟩
