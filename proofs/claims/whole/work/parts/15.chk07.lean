/-! 15.chk, piece 7 -/
set_option maxRecDepth 100000 in
theorem k_X12_isUnder : a_Mok (⟨"SoldWeatherModel", "isUnder", "(II)Z"⟩, prog_14_method_59_code, 2, (some .boolean), m_X12_isUnder) := ⟨List.mem_of_getElem? (i := 1162) (by decide +kernel), by decide +kernel, by decide +kernel, by decide +kernel, by decide +kernel⟩
set_option maxRecDepth 100000 in
theorem k_X12_plainBids : a_Mok (⟨"SoldWeatherModel", "plainBids", "(I)I"⟩, prog_14_method_60_code, 2, (some .int), m_X12_plainBids) := ⟨List.mem_of_getElem? (i := 1168) (by decide +kernel), by decide +kernel, by decide +kernel, by decide +kernel, by decide +kernel⟩
set_option maxRecDepth 100000 in
theorem k_X12_bidsActs : a_Mok (⟨"SoldWeatherModel", "bidsActs", "(I)I"⟩, prog_14_method_61_code, 2, (some .int), m_X12_bidsActs) := ⟨List.mem_of_getElem? (i := 1159) (by decide +kernel), by decide +kernel, by decide +kernel, by decide +kernel, by decide +kernel⟩
set_option maxRecDepth 100000 in
theorem k_X12_plainPays : a_Mok (⟨"SoldWeatherModel", "plainPays", "(I)I"⟩, prog_14_method_62_code, 2, (some .int), m_X12_plainPays) := ⟨List.mem_of_getElem? (i := 1177) (by decide +kernel), by decide +kernel, by decide +kernel, by decide +kernel, by decide +kernel⟩
set_option maxRecDepth 100000 in
theorem k_X12_leaguePays : a_Mok (⟨"SoldWeatherModel", "leaguePays", "(I)I"⟩, prog_14_method_63_code, 2, (some .int), m_X12_leaguePays) := ⟨List.mem_of_getElem? (i := 1174) (by decide +kernel), by decide +kernel, by decide +kernel, by decide +kernel, by decide +kernel⟩
set_option maxRecDepth 100000 in
theorem k_X12_paysActs : a_Mok (⟨"SoldWeatherModel", "paysActs", "(I)I"⟩, prog_14_method_64_code, 2, (some .int), m_X12_paysActs) := ⟨List.mem_of_getElem? (i := 1171) (by decide +kernel), by decide +kernel, by decide +kernel, by decide +kernel, by decide +kernel⟩
set_option maxRecDepth 100000 in
theorem k_X12_plainTells : a_Mok (⟨"SoldWeatherModel", "plainTells", "(I)I"⟩, prog_14_method_65_code, 2, (some .int), m_X12_plainTells) := ⟨List.mem_of_getElem? (i := 1183) (by decide +kernel), by decide +kernel, by decide +kernel, by decide +kernel, by decide +kernel⟩
set_option maxRecDepth 100000 in
theorem k_X12_tellsActs : a_Mok (⟨"SoldWeatherModel", "tellsActs", "(I)I"⟩, prog_14_method_66_code, 3, (some .int), m_X12_tellsActs) := ⟨List.mem_of_getElem? (i := 1180) (by decide +kernel), by decide +kernel, by decide +kernel, by decide +kernel, by decide +kernel⟩
set_option maxRecDepth 100000 in
theorem k_X12_act : a_Mok (⟨"SoldWeatherModel", "act", "(III)I"⟩, prog_14_method_67_code, 4, (some .int), m_X12_act) := ⟨List.mem_of_getElem? (i := 1156) (by decide +kernel), by decide +kernel, by decide +kernel, by decide +kernel, by decide +kernel⟩
set_option maxRecDepth 100000 in
theorem k_X12_trace : a_Mok (⟨"SoldWeatherModel", "trace", "(I)I"⟩, prog_14_method_68_code, 2, (some .int), m_X12_trace) := ⟨List.mem_of_getElem? (i := 1187) (by decide +kernel), by decide +kernel, by decide +kernel, by decide +kernel, by decide +kernel⟩
set_option maxRecDepth 100000 in
theorem k_X12_as : a_Mok (⟨"SoldWeatherModel", "as", "(II)I"⟩, prog_14_method_69_code, 3, (some .int), m_X12_as) := ⟨List.mem_of_getElem? (i := 1191) (by decide +kernel), by decide +kernel, by decide +kernel, by decide +kernel, by decide +kernel⟩
set_option maxRecDepth 100000 in
theorem k_X12_image : a_Mok (⟨"SoldWeatherModel", "image", "()I"⟩, prog_14_method_70_code, 2, (some .int), m_X12_image) := ⟨List.mem_of_getElem? (i := 1195) (by decide +kernel), by decide +kernel, by decide +kernel, by decide +kernel, by decide +kernel⟩
set_option maxRecDepth 100000 in
theorem k_X12_undo : a_Mok (⟨"SoldWeatherModel", "undo", "()I"⟩, prog_14_method_71_code, 2, (some .int), m_X12_undo) := ⟨List.mem_of_getElem? (i := 1199) (by decide +kernel), by decide +kernel, by decide +kernel, by decide +kernel, by decide +kernel⟩
set_option maxRecDepth 100000 in
theorem k_X12_count : a_Mok (⟨"SoldWeatherModel", "count", "(I)I"⟩, prog_14_method_72_code, 2, (some .int), m_X12_count) := ⟨List.mem_of_getElem? (i := 1203) (by decide +kernel), by decide +kernel, by decide +kernel, by decide +kernel, by decide +kernel⟩
set_option maxRecDepth 100000 in
theorem k_J0_length_8abf5 : a_Mok (⟨"java/lang/String", "length", "()I"⟩, prog_16_method_54_code, 1, (some .int), m_J0_length_8abf5) := ⟨List.mem_of_getElem? (i := 312) (by decide +kernel), by decide +kernel, by decide +kernel, by decide +kernel, by decide +kernel⟩
set_option maxRecDepth 100000 in
theorem k_J0_charAt_5068e : a_Mok (⟨"java/lang/String", "charAt", "(I)C"⟩, prog_16_method_56_code, 2, (some .char), m_J0_charAt_5068e) := ⟨List.mem_of_getElem? (i := 321) (by decide +kernel), by decide +kernel, by decide +kernel, by decide +kernel, by decide +kernel⟩
set_option maxRecDepth 100000 in
theorem k_J0_coder_7d493 : a_Mok (⟨"java/lang/String", "coder", "()B"⟩, prog_16_method_152_code, 1, (some .byte), m_J0_coder_7d493) := ⟨List.mem_of_getElem? (i := 316) (by decide +kernel), by decide +kernel, by decide +kernel, by decide +kernel, by decide +kernel⟩
set_option maxRecDepth 100000 in
theorem k_J0_isLatin1_aae02 : a_Mok (⟨"java/lang/String", "isLatin1", "()Z"⟩, prog_16_method_154_code, 1, (some .boolean), m_J0_isLatin1_aae02) := ⟨List.mem_of_getElem? (i := 325) (by decide +kernel), by decide +kernel, by decide +kernel, by decide +kernel, by decide +kernel⟩
set_option maxRecDepth 100000 in
theorem k_J0_checkIndex_df160 : a_Mok (⟨"java/lang/String", "checkIndex", "(II)V"⟩, prog_16_method_155_code, 2, none, m_J0_checkIndex_df160) := ⟨List.mem_of_getElem? (i := 331) (by decide +kernel), by decide +kernel, by decide +kernel, by decide +kernel, by decide +kernel⟩
set_option maxRecDepth 100000 in
theorem k_J1_charAt_3b067 : a_Mok (⟨"java/lang/StringLatin1", "charAt", "([BI)C"⟩, prog_17_method_2_code, 2, (some .char), m_J1_charAt_3b067) := ⟨List.mem_of_getElem? (i := 328) (by decide +kernel), by decide +kernel, by decide +kernel, by decide +kernel, by decide +kernel⟩
set_option maxRecDepth 100000 in
theorem k_J3_checkIndex_8e157 : a_Mok (⟨"jdk/internal/util/Preconditions", "checkIndex", "(IILjava/util/function/BiFunction;)I"⟩, prog_20_method_11_code, 3, (some .int), m_J3_checkIndex_8e157) := ⟨List.mem_of_getElem? (i := 335) (by decide +kernel), by decide +kernel, by decide +kernel, by decide +kernel, by decide +kernel⟩
