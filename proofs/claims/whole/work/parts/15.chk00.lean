/-! 15.chk: rows against bytes and words (by program) -/
def a_Mok (q : aM) : Prop := Jvm.Cond.code q.1 q.2.1 q.2.2.1 q.2.2.2.1 ∈ a_TB ∧ plainName q.1.cls = true ∧ q.2.2.1 ≤ 20 ∧ a_pf q.2.2.2.2 0 = 0 ∧ (q.2.2.2.2.zipIdx.all fun r => a_rowok q.1.cls (q.1.name == "<init>") a_P a_cl a_TB "SoldWeather$Bidder" a_NC a_SR (a_sv .null) q.2.1 q.2.2.2.1 q.2.2.2.2 r.2 r.1) = true
set_option maxRecDepth 100000 in
theorem k_X0_init : a_Mok (⟨"SoldWeather$Ahead", "<init>", "(III)V"⟩, prog_2_method_1_code, 4, none, m_X0_init) := ⟨List.mem_of_getElem? (i := 502) (by decide +kernel), by decide +kernel, by decide +kernel, by decide +kernel, by decide +kernel⟩
set_option maxRecDepth 100000 in
theorem k_X0_wish : a_Mok (⟨"SoldWeather$Ahead", "wish", "(LSoldWeather$Course;I)I"⟩, prog_2_method_2_code, 5, (some .int), m_X0_wish) := ⟨List.mem_of_getElem? (i := 577) (by decide +kernel), by decide +kernel, by decide +kernel, by decide +kernel, by decide +kernel⟩
set_option maxRecDepth 100000 in
theorem k_X0_tells : a_Mok (⟨"SoldWeather$Ahead", "tells", "(I[I)I"⟩, prog_2_method_3_code, 3, (some .int), m_X0_tells) := ⟨List.mem_of_getElem? (i := 835) (by decide +kernel), by decide +kernel, by decide +kernel, by decide +kernel, by decide +kernel⟩
set_option maxRecDepth 100000 in
theorem k_X1_init : a_Mok (⟨"SoldWeather$Bidder", "<init>", "(III)V"⟩, prog_3_method_1_code, 4, none, m_X1_init) := ⟨List.mem_of_getElem? (i := 454) (by decide +kernel), by decide +kernel, by decide +kernel, by decide +kernel, by decide +kernel⟩
set_option maxRecDepth 100000 in
theorem k_X1_wish : a_Mok (⟨"SoldWeather$Bidder", "wish", "(LSoldWeather$Course;I)I"⟩, prog_3_method_2_code, 3, (some .int), m_X1_wish) := ⟨List.mem_of_getElem? (i := 624) (by decide +kernel), by decide +kernel, by decide +kernel, by decide +kernel, by decide +kernel⟩
set_option maxRecDepth 100000 in
theorem k_X1_bids : a_Mok (⟨"SoldWeather$Bidder", "bids", "(I[I)I"⟩, prog_3_method_3_code, 3, (some .int), m_X1_bids) := ⟨List.mem_of_getElem? (i := 805) (by decide +kernel), by decide +kernel, by decide +kernel, by decide +kernel, by decide +kernel⟩
set_option maxRecDepth 100000 in
theorem k_X1_pays : a_Mok (⟨"SoldWeather$Bidder", "pays", "(I[I)I"⟩, prog_3_method_4_code, 3, (some .int), m_X1_pays) := ⟨List.mem_of_getElem? (i := 827) (by decide +kernel), by decide +kernel, by decide +kernel, by decide +kernel, by decide +kernel⟩
set_option maxRecDepth 100000 in
theorem k_X1_tells : a_Mok (⟨"SoldWeather$Bidder", "tells", "(I[I)I"⟩, prog_3_method_5_code, 3, (some .int), m_X1_tells) := ⟨List.mem_of_getElem? (i := 853) (by decide +kernel), by decide +kernel, by decide +kernel, by decide +kernel, by decide +kernel⟩
set_option maxRecDepth 100000 in
theorem k_X1_began : a_Mok (⟨"SoldWeather$Bidder", "began", "([II)V"⟩, prog_3_method_6_code, 2, none, m_X1_began) := ⟨List.mem_of_getElem? (i := 794) (by decide +kernel), by decide +kernel, by decide +kernel, by decide +kernel, by decide +kernel⟩
set_option maxRecDepth 100000 in
theorem k_X2_init : a_Mok (⟨"SoldWeather$Course", "<init>", "(LSoldWeather$World;)V"⟩, prog_4_method_1_code, 2, none, m_X2_init) := ⟨List.mem_of_getElem? (i := 215) (by decide +kernel), by decide +kernel, by decide +kernel, by decide +kernel, by decide +kernel⟩
set_option maxRecDepth 100000 in
theorem k_X2_begin : a_Mok (⟨"SoldWeather$Course", "begin", "()V"⟩, prog_4_method_2_code, 1, none, m_X2_begin) := ⟨List.mem_of_getElem? (i := 564) (by decide +kernel), by decide +kernel, by decide +kernel, by decide +kernel, by decide +kernel⟩
set_option maxRecDepth 100000 in
theorem k_X2_keep : a_Mok (⟨"SoldWeather$Course", "keep", "()V"⟩, prog_4_method_3_code, 1, none, m_X2_keep) := ⟨List.mem_of_getElem? (i := 682) (by decide +kernel), by decide +kernel, by decide +kernel, by decide +kernel, by decide +kernel⟩
set_option maxRecDepth 100000 in
theorem k_X2_open : a_Mok (⟨"SoldWeather$Course", "open", "()V"⟩, prog_4_method_4_code, 2, none, m_X2_open) := ⟨List.mem_of_getElem? (i := 647) (by decide +kernel), by decide +kernel, by decide +kernel, by decide +kernel, by decide +kernel⟩
set_option maxRecDepth 100000 in
theorem k_X2_ask : a_Mok (⟨"SoldWeather$Course", "ask", "(I)V"⟩, prog_4_method_5_code, 4, none, m_X2_ask) := ⟨List.mem_of_getElem? (i := 569) (by decide +kernel), by decide +kernel, by decide +kernel, by decide +kernel, by decide +kernel⟩
set_option maxRecDepth 100000 in
theorem k_X2_putBid : a_Mok (⟨"SoldWeather$Course", "putBid", "(III)V"⟩, prog_4_method_6_code, 4, none, m_X2_putBid) := ⟨List.mem_of_getElem? (i := 628) (by decide +kernel), by decide +kernel, by decide +kernel, by decide +kernel, by decide +kernel⟩
set_option maxRecDepth 100000 in
theorem k_X2_settle : a_Mok (⟨"SoldWeather$Course", "settle", "()V"⟩, prog_4_method_7_code, 4, none, m_X2_settle) := ⟨List.mem_of_getElem? (i := 651) (by decide +kernel), by decide +kernel, by decide +kernel, by decide +kernel, by decide +kernel⟩
set_option maxRecDepth 100000 in
theorem k_X2_due : a_Mok (⟨"SoldWeather$Course", "due", "(I)I"⟩, prog_4_method_8_code, 3, (some .int), m_X2_due) := ⟨List.mem_of_getElem? (i := 665) (by decide +kernel), by decide +kernel, by decide +kernel, by decide +kernel, by decide +kernel⟩
set_option maxRecDepth 100000 in
theorem k_X2_harmBy : a_Mok (⟨"SoldWeather$Course", "harmBy", "(I)I"⟩, prog_4_method_9_code, 4, (some .int), m_X2_harmBy) := ⟨List.mem_of_getElem? (i := 671) (by decide +kernel), by decide +kernel, by decide +kernel, by decide +kernel, by decide +kernel⟩
set_option maxRecDepth 100000 in
theorem k_X2_rebate : a_Mok (⟨"SoldWeather$Course", "rebate", "()I"⟩, prog_4_method_10_code, 4, (some .int), m_X2_rebate) := ⟨List.mem_of_getElem? (i := 674) (by decide +kernel), by decide +kernel, by decide +kernel, by decide +kernel, by decide +kernel⟩
set_option maxRecDepth 100000 in
theorem k_X2_close : a_Mok (⟨"SoldWeather$Course", "close", "()I"⟩, prog_4_method_11_code, 5, (some .int), m_X2_close) := ⟨List.mem_of_getElem? (i := 660) (by decide +kernel), by decide +kernel, by decide +kernel, by decide +kernel, by decide +kernel⟩
set_option maxRecDepth 100000 in
theorem k_X2_fortuneNext : a_Mok (⟨"SoldWeather$Course", "fortuneNext", "()I"⟩, prog_4_method_12_code, 1, (some .int), m_X2_fortuneNext) := ⟨List.mem_of_getElem? (i := 655) (by decide +kernel), by decide +kernel, by decide +kernel, by decide +kernel, by decide +kernel⟩
set_option maxRecDepth 100000 in
theorem k_X2_purseOf : a_Mok (⟨"SoldWeather$Course", "purseOf", "(I)I"⟩, prog_4_method_13_code, 2, (some .int), m_X2_purseOf) := ⟨List.mem_of_getElem? (i := 611) (by decide +kernel), by decide +kernel, by decide +kernel, by decide +kernel, by decide +kernel⟩
set_option maxRecDepth 100000 in
theorem k_X2_bidOf : a_Mok (⟨"SoldWeather$Course", "bidOf", "(II)I"⟩, prog_4_method_14_code, 3, (some .int), m_X2_bidOf) := ⟨List.mem_of_getElem? (i := 634) (by decide +kernel), by decide +kernel, by decide +kernel, by decide +kernel, by decide +kernel⟩
set_option maxRecDepth 100000 in
theorem k_X2_bidsFor : a_Mok (⟨"SoldWeather$Course", "bidsFor", "(I)I"⟩, prog_4_method_15_code, 2, (some .int), m_X2_bidsFor) := ⟨List.mem_of_getElem? (i := 692) (by decide +kernel), by decide +kernel, by decide +kernel, by decide +kernel, by decide +kernel⟩
