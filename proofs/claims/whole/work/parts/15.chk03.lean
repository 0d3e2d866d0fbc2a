/-! 15.chk, piece 3 -/
set_option maxRecDepth 100000 in
theorem k_X10_giftEach : a_Mok (⟨"SoldWeather$World", "giftEach", "()I"⟩, prog_12_method_6_code, 1, (some .int), m_X10_giftEach) := ⟨List.mem_of_getElem? (i := 422) (by decide +kernel), by decide +kernel, by decide +kernel, by decide +kernel, by decide +kernel⟩
set_option maxRecDepth 100000 in
theorem k_X10_fortuneAt : a_Mok (⟨"SoldWeather$World", "fortuneAt", "(I)I"⟩, prog_12_method_7_code, 2, (some .int), m_X10_fortuneAt) := ⟨List.mem_of_getElem? (i := 426) (by decide +kernel), by decide +kernel, by decide +kernel, by decide +kernel, by decide +kernel⟩
set_option maxRecDepth 100000 in
theorem k_X10_turnBehind : a_Mok (⟨"SoldWeather$World", "turnBehind", "(I)I"⟩, prog_12_method_8_code, 2, (some .int), m_X10_turnBehind) := ⟨List.mem_of_getElem? (i := 678) (by decide +kernel), by decide +kernel, by decide +kernel, by decide +kernel, by decide +kernel⟩
set_option maxRecDepth 100000 in
theorem k_X11_init : a_Mok (⟨"SoldWeather", "<init>", "()V"⟩, prog_1_method_1_code, 1, none, m_X11_init) := ⟨List.mem_of_getElem? (i := 83) (by decide +kernel), by decide +kernel, by decide +kernel, by decide +kernel, by decide +kernel⟩
set_option maxRecDepth 100000 in
theorem k_X11_feed : a_Mok (⟨"SoldWeather", "feed", "(I)I"⟩, prog_1_method_2_code, 2, (some .int), m_X11_feed) := ⟨List.mem_of_getElem? (i := 285) (by decide +kernel), by decide +kernel, by decide +kernel, by decide +kernel, by decide +kernel⟩
set_option maxRecDepth 100000 in
theorem k_X11_valley : a_Mok (⟨"SoldWeather", "valley", "()I"⟩, prog_1_method_3_code, 2, (some .int), m_X11_valley) := ⟨List.mem_of_getElem? (i := 289) (by decide +kernel), by decide +kernel, by decide +kernel, by decide +kernel, by decide +kernel⟩
set_option maxRecDepth 100000 in
theorem k_X11_told : a_Mok (⟨"SoldWeather", "told", "(I)I"⟩, prog_1_method_4_code, 2, (some .int), m_X11_told) := ⟨List.mem_of_getElem? (i := 414) (by decide +kernel), by decide +kernel, by decide +kernel, by decide +kernel, by decide +kernel⟩
set_option maxRecDepth 100000 in
theorem k_X11_fortune : a_Mok (⟨"SoldWeather", "fortune", "(I)I"⟩, prog_1_method_5_code, 3, (some .int), m_X11_fortune) := ⟨List.mem_of_getElem? (i := 430) (by decide +kernel), by decide +kernel, by decide +kernel, by decide +kernel, by decide +kernel⟩
set_option maxRecDepth 100000 in
theorem k_X11_person : a_Mok (⟨"SoldWeather", "person", "(III)I"⟩, prog_1_method_6_code, 5, (some .int), m_X11_person) := ⟨List.mem_of_getElem? (i := 440) (by decide +kernel), by decide +kernel, by decide +kernel, by decide +kernel, by decide +kernel⟩
set_option maxRecDepth 100000 in
theorem k_X11_row : a_Mok (⟨"SoldWeather", "row", "(III)I"⟩, prog_1_method_7_code, 7, (some .int), m_X11_row) := ⟨List.mem_of_getElem? (i := 548) (by decide +kernel), by decide +kernel, by decide +kernel, by decide +kernel, by decide +kernel⟩
set_option maxRecDepth 100000 in
theorem k_X11_of : a_Mok (⟨"SoldWeather", "of", "(II)I"⟩, prog_1_method_8_code, 4, (some .int), m_X11_of) := ⟨List.mem_of_getElem? (i := 560) (by decide +kernel), by decide +kernel, by decide +kernel, by decide +kernel, by decide +kernel⟩
set_option maxRecDepth 100000 in
theorem k_X11_go : a_Mok (⟨"SoldWeather", "go", "()I"⟩, prog_1_method_9_code, 1, (some .int), m_X11_go) := ⟨List.mem_of_getElem? (i := 643) (by decide +kernel), by decide +kernel, by decide +kernel, by decide +kernel, by decide +kernel⟩
set_option maxRecDepth 100000 in
theorem k_X11_sold : a_Mok (⟨"SoldWeather", "sold", "(I)I"⟩, prog_1_method_10_code, 3, (some .int), m_X11_sold) := ⟨List.mem_of_getElem? (i := 686) (by decide +kernel), by decide +kernel, by decide +kernel, by decide +kernel, by decide +kernel⟩
set_option maxRecDepth 100000 in
theorem k_X11_run : a_Mok (⟨"SoldWeather", "run", "(II)I"⟩, prog_1_method_11_code, 8, (some .int), m_X11_run) := ⟨List.mem_of_getElem? (i := 696) (by decide +kernel), by decide +kernel, by decide +kernel, by decide +kernel, by decide +kernel⟩
set_option maxRecDepth 100000 in
theorem k_X11_best : a_Mok (⟨"SoldWeather", "best", "(II)I"⟩, prog_1_method_12_code, 5, (some .int), m_X11_best) := ⟨List.mem_of_getElem? (i := 709) (by decide +kernel), by decide +kernel, by decide +kernel, by decide +kernel, by decide +kernel⟩
set_option maxRecDepth 100000 in
theorem k_X11_truly : a_Mok (⟨"SoldWeather", "truly", "(II)I"⟩, prog_1_method_13_code, 11, (some .int), m_X11_truly) := ⟨List.mem_of_getElem? (i := 717) (by decide +kernel), by decide +kernel, by decide +kernel, by decide +kernel, by decide +kernel⟩
set_option maxRecDepth 100000 in
theorem k_X11_harm : a_Mok (⟨"SoldWeather", "harm", "(I)I"⟩, prog_1_method_14_code, 2, (some .int), m_X11_harm) := ⟨List.mem_of_getElem? (i := 732) (by decide +kernel), by decide +kernel, by decide +kernel, by decide +kernel, by decide +kernel⟩
set_option maxRecDepth 100000 in
theorem k_X11_leagues : a_Mok (⟨"SoldWeather", "leagues", "(I)I"⟩, prog_1_method_15_code, 6, (some .int), m_X11_leagues) := ⟨List.mem_of_getElem? (i := 737) (by decide +kernel), by decide +kernel, by decide +kernel, by decide +kernel, by decide +kernel⟩
set_option maxRecDepth 100000 in
theorem k_X11_beside : a_Mok (⟨"SoldWeather", "beside", "(I)I"⟩, prog_1_method_16_code, 3, (some .int), m_X11_beside) := ⟨List.mem_of_getElem? (i := 745) (by decide +kernel), by decide +kernel, by decide +kernel, by decide +kernel, by decide +kernel⟩
set_option maxRecDepth 100000 in
theorem k_X11_spill : a_Mok (⟨"SoldWeather", "spill", "(II)I"⟩, prog_1_method_17_code, 5, (some .int), m_X11_spill) := ⟨List.mem_of_getElem? (i := 749) (by decide +kernel), by decide +kernel, by decide +kernel, by decide +kernel, by decide +kernel⟩
set_option maxRecDepth 100000 in
theorem k_X11_poor : a_Mok (⟨"SoldWeather", "poor", "(II)I"⟩, prog_1_method_18_code, 5, (some .int), m_X11_poor) := ⟨List.mem_of_getElem? (i := 756) (by decide +kernel), by decide +kernel, by decide +kernel, by decide +kernel, by decide +kernel⟩
set_option maxRecDepth 100000 in
theorem k_X11_worse : a_Mok (⟨"SoldWeather", "worse", "(I)J"⟩, prog_1_method_19_code, 5, (some .long), m_X11_worse) := ⟨List.mem_of_getElem? (i := 767) (by decide +kernel), by decide +kernel, by decide +kernel, by decide +kernel, by decide +kernel⟩
set_option maxRecDepth 100000 in
theorem k_X11_book : a_Mok (⟨"SoldWeather", "book", "(I)I"⟩, prog_1_method_20_code, 3, (some .int), m_X11_book) := ⟨List.mem_of_getElem? (i := 773) (by decide +kernel), by decide +kernel, by decide +kernel, by decide +kernel, by decide +kernel⟩
set_option maxRecDepth 100000 in
theorem k_X11_looked : a_Mok (⟨"SoldWeather", "looked", "()I"⟩, prog_1_method_21_code, 2, (some .int), m_X11_looked) := ⟨List.mem_of_getElem? (i := 777) (by decide +kernel), by decide +kernel, by decide +kernel, by decide +kernel, by decide +kernel⟩
