/-! 15.chk, piece 6 -/
set_option maxRecDepth 100000 in
theorem k_X12_sharing : a_Mok (⟨"SoldWeatherModel", "sharing", "(II)I"⟩, prog_14_method_35_code, 5, (some .int), m_X12_sharing) := ⟨List.mem_of_getElem? (i := 1069) (by decide +kernel), by decide +kernel, by decide +kernel, by decide +kernel, by decide +kernel⟩
set_option maxRecDepth 100000 in
theorem k_X12_bidOf : a_Mok (⟨"SoldWeatherModel", "bidOf", "(II)I"⟩, prog_14_method_36_code, 4, (some .int), m_X12_bidOf) := ⟨List.mem_of_getElem? (i := 1051) (by decide +kernel), by decide +kernel, by decide +kernel, by decide +kernel, by decide +kernel⟩
set_option maxRecDepth 100000 in
theorem k_X12_of : a_Mok (⟨"SoldWeatherModel", "of", "(II)I"⟩, prog_14_method_37_code, 3, (some .int), m_X12_of) := ⟨List.mem_of_getElem? (i := 1048) (by decide +kernel), by decide +kernel, by decide +kernel, by decide +kernel, by decide +kernel⟩
set_option maxRecDepth 100000 in
theorem k_X12_takesBids : a_Mok (⟨"SoldWeatherModel", "takesBids", "()V"⟩, prog_14_method_38_code, 3, none, m_X12_takesBids) := ⟨List.mem_of_getElem? (i := 1079) (by decide +kernel), by decide +kernel, by decide +kernel, by decide +kernel, by decide +kernel⟩
set_option maxRecDepth 100000 in
theorem k_X12_sells : a_Mok (⟨"SoldWeatherModel", "sells", "()V"⟩, prog_14_method_39_code, 3, none, m_X12_sells) := ⟨List.mem_of_getElem? (i := 1082) (by decide +kernel), by decide +kernel, by decide +kernel, by decide +kernel, by decide +kernel⟩
set_option maxRecDepth 100000 in
theorem k_X12_harmOf : a_Mok (⟨"SoldWeatherModel", "harmOf", "(I)I"⟩, prog_14_method_40_code, 5, (some .int), m_X12_harmOf) := ⟨List.mem_of_getElem? (i := 1091) (by decide +kernel), by decide +kernel, by decide +kernel, by decide +kernel, by decide +kernel⟩
set_option maxRecDepth 100000 in
theorem k_X12_paysOf : a_Mok (⟨"SoldWeatherModel", "paysOf", "(I)I"⟩, prog_14_method_41_code, 6, (some .int), m_X12_paysOf) := ⟨List.mem_of_getElem? (i := 1088) (by decide +kernel), by decide +kernel, by decide +kernel, by decide +kernel, by decide +kernel⟩
set_option maxRecDepth 100000 in
theorem k_X12_gainOf : a_Mok (⟨"SoldWeatherModel", "gainOf", "(I)I"⟩, prog_14_method_42_code, 2, (some .int), m_X12_gainOf) := ⟨List.mem_of_getElem? (i := 1119) (by decide +kernel), by decide +kernel, by decide +kernel, by decide +kernel, by decide +kernel⟩
set_option maxRecDepth 100000 in
theorem k_X12_evening : a_Mok (⟨"SoldWeatherModel", "evening", "()V"⟩, prog_14_method_43_code, 4, none, m_X12_evening) := ⟨List.mem_of_getElem? (i := 1076) (by decide +kernel), by decide +kernel, by decide +kernel, by decide +kernel, by decide +kernel⟩
set_option maxRecDepth 100000 in
theorem k_X12_go : a_Mok (⟨"SoldWeatherModel", "go", "()I"⟩, prog_14_method_44_code, 1, (some .int), m_X12_go) := ⟨List.mem_of_getElem? (i := 1073) (by decide +kernel), by decide +kernel, by decide +kernel, by decide +kernel, by decide +kernel⟩
set_option maxRecDepth 100000 in
theorem k_X12_sold : a_Mok (⟨"SoldWeatherModel", "sold", "(I)I"⟩, prog_14_method_45_code, 2, (some .int), m_X12_sold) := ⟨List.mem_of_getElem? (i := 1095) (by decide +kernel), by decide +kernel, by decide +kernel, by decide +kernel, by decide +kernel⟩
set_option maxRecDepth 100000 in
theorem k_X12_run : a_Mok (⟨"SoldWeatherModel", "run", "(II)I"⟩, prog_14_method_46_code, 4, (some .int), m_X12_run) := ⟨List.mem_of_getElem? (i := 1099) (by decide +kernel), by decide +kernel, by decide +kernel, by decide +kernel, by decide +kernel⟩
set_option maxRecDepth 100000 in
theorem k_X12_withNext : a_Mok (⟨"SoldWeatherModel", "withNext", "(III)I"⟩, prog_14_method_47_code, 4, (some .int), m_X12_withNext) := ⟨List.mem_of_getElem? (i := 1112) (by decide +kernel), by decide +kernel, by decide +kernel, by decide +kernel, by decide +kernel⟩
set_option maxRecDepth 100000 in
theorem k_X12_best : a_Mok (⟨"SoldWeatherModel", "best", "(II)I"⟩, prog_14_method_48_code, 8, (some .int), m_X12_best) := ⟨List.mem_of_getElem? (i := 1109) (by decide +kernel), by decide +kernel, by decide +kernel, by decide +kernel, by decide +kernel⟩
set_option maxRecDepth 100000 in
theorem k_X12_truly : a_Mok (⟨"SoldWeatherModel", "truly", "(II)I"⟩, prog_14_method_49_code, 11, (some .int), m_X12_truly) := ⟨List.mem_of_getElem? (i := 1116) (by decide +kernel), by decide +kernel, by decide +kernel, by decide +kernel, by decide +kernel⟩
set_option maxRecDepth 100000 in
theorem k_X12_harm : a_Mok (⟨"SoldWeatherModel", "harm", "(I)I"⟩, prog_14_method_50_code, 2, (some .int), m_X12_harm) := ⟨List.mem_of_getElem? (i := 1123) (by decide +kernel), by decide +kernel, by decide +kernel, by decide +kernel, by decide +kernel⟩
set_option maxRecDepth 100000 in
theorem k_X12_leagues : a_Mok (⟨"SoldWeatherModel", "leagues", "(I)I"⟩, prog_14_method_51_code, 9, (some .int), m_X12_leagues) := ⟨List.mem_of_getElem? (i := 1127) (by decide +kernel), by decide +kernel, by decide +kernel, by decide +kernel, by decide +kernel⟩
set_option maxRecDepth 100000 in
theorem k_X12_beside : a_Mok (⟨"SoldWeatherModel", "beside", "(I)I"⟩, prog_14_method_52_code, 2, (some .int), m_X12_beside) := ⟨List.mem_of_getElem? (i := 1131) (by decide +kernel), by decide +kernel, by decide +kernel, by decide +kernel, by decide +kernel⟩
set_option maxRecDepth 100000 in
theorem k_X12_spill : a_Mok (⟨"SoldWeatherModel", "spill", "(II)I"⟩, prog_14_method_53_code, 5, (some .int), m_X12_spill) := ⟨List.mem_of_getElem? (i := 1135) (by decide +kernel), by decide +kernel, by decide +kernel, by decide +kernel, by decide +kernel⟩
set_option maxRecDepth 100000 in
theorem k_X12_poor : a_Mok (⟨"SoldWeatherModel", "poor", "(II)I"⟩, prog_14_method_54_code, 9, (some .int), m_X12_poor) := ⟨List.mem_of_getElem? (i := 1139) (by decide +kernel), by decide +kernel, by decide +kernel, by decide +kernel, by decide +kernel⟩
set_option maxRecDepth 100000 in
theorem k_X12_worse : a_Mok (⟨"SoldWeatherModel", "worse", "(I)J"⟩, prog_14_method_55_code, 8, (some .long), m_X12_worse) := ⟨List.mem_of_getElem? (i := 1143) (by decide +kernel), by decide +kernel, by decide +kernel, by decide +kernel, by decide +kernel⟩
set_option maxRecDepth 100000 in
theorem k_X12_book : a_Mok (⟨"SoldWeatherModel", "book", "(I)I"⟩, prog_14_method_56_code, 2, (some .int), m_X12_book) := ⟨List.mem_of_getElem? (i := 1148) (by decide +kernel), by decide +kernel, by decide +kernel, by decide +kernel, by decide +kernel⟩
set_option maxRecDepth 100000 in
theorem k_X12_looked : a_Mok (⟨"SoldWeatherModel", "looked", "()I"⟩, prog_14_method_57_code, 3, (some .int), m_X12_looked) := ⟨List.mem_of_getElem? (i := 1152) (by decide +kernel), by decide +kernel, by decide +kernel, by decide +kernel, by decide +kernel⟩
set_option maxRecDepth 100000 in
theorem k_X12_ranBody : a_Mok (⟨"SoldWeatherModel", "ranBody", "(I)V"⟩, prog_14_method_58_code, 2, none, m_X12_ranBody) := ⟨List.mem_of_getElem? (i := 1165) (by decide +kernel), by decide +kernel, by decide +kernel, by decide +kernel, by decide +kernel⟩
