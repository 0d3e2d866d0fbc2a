/-! 15.chk, piece 4 -/
set_option maxRecDepth 100000 in
theorem k_X11_act : a_Mok (⟨"SoldWeather", "act", "(III)I"⟩, prog_1_method_22_code, 5, (some .int), m_X11_act) := ⟨List.mem_of_getElem? (i := 781) (by decide +kernel), by decide +kernel, by decide +kernel, by decide +kernel, by decide +kernel⟩
set_option maxRecDepth 100000 in
theorem k_X11_trace : a_Mok (⟨"SoldWeather", "trace", "(I)I"⟩, prog_1_method_23_code, 2, (some .int), m_X11_trace) := ⟨List.mem_of_getElem? (i := 858) (by decide +kernel), by decide +kernel, by decide +kernel, by decide +kernel, by decide +kernel⟩
set_option maxRecDepth 100000 in
theorem k_X11_as : a_Mok (⟨"SoldWeather", "as", "(II)I"⟩, prog_1_method_24_code, 4, (some .int), m_X11_as) := ⟨List.mem_of_getElem? (i := 862) (by decide +kernel), by decide +kernel, by decide +kernel, by decide +kernel, by decide +kernel⟩
set_option maxRecDepth 100000 in
theorem k_X11_image : a_Mok (⟨"SoldWeather", "image", "()I"⟩, prog_1_method_25_code, 1, (some .int), m_X11_image) := ⟨List.mem_of_getElem? (i := 869) (by decide +kernel), by decide +kernel, by decide +kernel, by decide +kernel, by decide +kernel⟩
set_option maxRecDepth 100000 in
theorem k_X11_undo : a_Mok (⟨"SoldWeather", "undo", "()I"⟩, prog_1_method_26_code, 1, (some .int), m_X11_undo) := ⟨List.mem_of_getElem? (i := 878) (by decide +kernel), by decide +kernel, by decide +kernel, by decide +kernel, by decide +kernel⟩
set_option maxRecDepth 100000 in
theorem k_X11_count : a_Mok (⟨"SoldWeather", "count", "(I)I"⟩, prog_1_method_27_code, 2, (some .int), m_X11_count) := ⟨List.mem_of_getElem? (i := 882) (by decide +kernel), by decide +kernel, by decide +kernel, by decide +kernel, by decide +kernel⟩
set_option maxRecDepth 100000 in
theorem k_X11_isWeather : a_Mok (⟨"SoldWeather", "isWeather", "(I)Z"⟩, prog_1_method_28_code, 1, (some .boolean), m_X11_isWeather) := ⟨List.mem_of_getElem? (i := 436) (by decide +kernel), by decide +kernel, by decide +kernel, by decide +kernel, by decide +kernel⟩
set_option maxRecDepth 100000 in
theorem k_X11_isKind : a_Mok (⟨"SoldWeather", "isKind", "(I)Z"⟩, prog_1_method_29_code, 1, (some .boolean), m_X11_isKind) := ⟨List.mem_of_getElem? (i := 443) (by decide +kernel), by decide +kernel, by decide +kernel, by decide +kernel, by decide +kernel⟩
set_option maxRecDepth 100000 in
theorem k_X11_isRun : a_Mok (⟨"SoldWeather", "isRun", "(I)Z"⟩, prog_1_method_30_code, 1, (some .boolean), m_X11_isRun) := ⟨List.mem_of_getElem? (i := 752) (by decide +kernel), by decide +kernel, by decide +kernel, by decide +kernel, by decide +kernel⟩
set_option maxRecDepth 100000 in
theorem k_X11_grown : a_Mok (⟨"SoldWeather", "grown", "([III)I"⟩, prog_1_method_31_code, 3, (some .int), m_X11_grown) := ⟨List.mem_of_getElem? (i := 433) (by decide +kernel), by decide +kernel, by decide +kernel, by decide +kernel, by decide +kernel⟩
set_option maxRecDepth 100000 in
theorem k_X11_ofKind : a_Mok (⟨"SoldWeather", "ofKind", "(III)LSoldWeather$Bidder;"⟩, prog_1_method_32_code, 3, (some (.object "SoldWeather$Bidder")), m_X11_ofKind) := ⟨List.mem_of_getElem? (i := 446) (by decide +kernel), by decide +kernel, by decide +kernel, by decide +kernel, by decide +kernel⟩
set_option maxRecDepth 100000 in
theorem k_X11_isUnder : a_Mok (⟨"SoldWeather", "isUnder", "(LSoldWeather$Bidder;I)Z"⟩, prog_1_method_33_code, 2, (some .boolean), m_X11_isUnder) := ⟨List.mem_of_getElem? (i := 865) (by decide +kernel), by decide +kernel, by decide +kernel, by decide +kernel, by decide +kernel⟩
set_option maxRecDepth 100000 in
theorem k_X11_planDay : a_Mok (⟨"SoldWeather", "planDay", "(II)V"⟩, prog_1_method_34_code, 7, none, m_X11_planDay) := ⟨List.mem_of_getElem? (i := 712) (by decide +kernel), by decide +kernel, by decide +kernel, by decide +kernel, by decide +kernel⟩
set_option maxRecDepth 100000 in
theorem k_X11_tallyWorth : a_Mok (⟨"SoldWeather", "tallyWorth", "()I"⟩, prog_1_method_35_code, 4, (some .int), m_X11_tallyWorth) := ⟨List.mem_of_getElem? (i := 759) (by decide +kernel), by decide +kernel, by decide +kernel, by decide +kernel, by decide +kernel⟩
set_option maxRecDepth 100000 in
theorem k_X11_tallySpan : a_Mok (⟨"SoldWeather", "tallySpan", "()I"⟩, prog_1_method_36_code, 4, (some .int), m_X11_tallySpan) := ⟨List.mem_of_getElem? (i := 762) (by decide +kernel), by decide +kernel, by decide +kernel, by decide +kernel, by decide +kernel⟩
set_option maxRecDepth 100000 in
theorem k_X12_init : a_Mok (⟨"SoldWeatherModel", "<init>", "()V"⟩, prog_14_method_1_code, 2, none, m_X12_init) := ⟨List.mem_of_getElem? (i := 887) (by decide +kernel), by decide +kernel, by decide +kernel, by decide +kernel, by decide +kernel⟩
set_option maxRecDepth 100000 in
theorem k_X12_in : a_Mok (⟨"SoldWeatherModel", "in", "(III)Z"⟩, prog_14_method_3_code, 3, (some .boolean), m_X12_in) := ⟨List.mem_of_getElem? (i := 971) (by decide +kernel), by decide +kernel, by decide +kernel, by decide +kernel, by decide +kernel⟩
set_option maxRecDepth 100000 in
theorem k_X12_isWeather : a_Mok (⟨"SoldWeatherModel", "isWeather", "(I)Z"⟩, prog_14_method_4_code, 1, (some .boolean), m_X12_isWeather) := ⟨List.mem_of_getElem? (i := 1033) (by decide +kernel), by decide +kernel, by decide +kernel, by decide +kernel, by decide +kernel⟩
set_option maxRecDepth 100000 in
theorem k_X12_isPerson : a_Mok (⟨"SoldWeatherModel", "isPerson", "(I)Z"⟩, prog_14_method_5_code, 2, (some .boolean), m_X12_isPerson) := ⟨List.mem_of_getElem? (i := 1044) (by decide +kernel), by decide +kernel, by decide +kernel, by decide +kernel, by decide +kernel⟩
set_option maxRecDepth 100000 in
theorem k_X12_keeps : a_Mok (⟨"SoldWeatherModel", "keeps", "()V"⟩, prog_14_method_6_code, 2, none, m_X12_keeps) := ⟨List.mem_of_getElem? (i := 1102) (by decide +kernel), by decide +kernel, by decide +kernel, by decide +kernel, by decide +kernel⟩
set_option maxRecDepth 100000 in
theorem k_X12_goesBack : a_Mok (⟨"SoldWeatherModel", "goesBack", "()V"⟩, prog_14_method_7_code, 2, none, m_X12_goesBack) := ⟨List.mem_of_getElem? (i := 1105) (by decide +kernel), by decide +kernel, by decide +kernel, by decide +kernel, by decide +kernel⟩
set_option maxRecDepth 100000 in
theorem k_X12_feed : a_Mok (⟨"SoldWeatherModel", "feed", "(I)I"⟩, prog_14_method_8_code, 2, (some .int), m_X12_feed) := ⟨List.mem_of_getElem? (i := 968) (by decide +kernel), by decide +kernel, by decide +kernel, by decide +kernel, by decide +kernel⟩
set_option maxRecDepth 100000 in
theorem k_X12_here : a_Mok (⟨"SoldWeatherModel", "here", "()I"⟩, prog_14_method_9_code, 1, (some .int), m_X12_here) := ⟨List.mem_of_getElem? (i := 981) (by decide +kernel), by decide +kernel, by decide +kernel, by decide +kernel, by decide +kernel⟩
set_option maxRecDepth 100000 in
theorem k_X12_must : a_Mok (⟨"SoldWeatherModel", "must", "(I)V"⟩, prog_14_method_10_code, 2, none, m_X12_must) := ⟨List.mem_of_getElem? (i := 992) (by decide +kernel), by decide +kernel, by decide +kernel, by decide +kernel, by decide +kernel⟩
