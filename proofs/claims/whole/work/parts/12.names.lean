/-! 12.names: the tables' words (PART A of the skeleton), names of classes and their fields (printed by program out of NAMES.whole) -/
-- ===== PART A: goes FIRST, ahead of the names: the tables' words, and 'selects' of the private methods out of them =====
/-- a private method of a class that the tables say can be made, by its rows of tables_1 -/
def lw_okq (q : MethodName × Nat) : Prop := (q.1.cls ≠ "java/lang/invoke/MethodHandle" ∧ q.1.cls ≠ "java/lang/invoke/VarHandle") ∧ Cond.instantiable q.1.cls q.2 ∈ tables_1 ∧ Cond.privateMethod q.1 ∈ tables_1 ∧ Cond.instanceMethod q.1 ∈ tables_1
theorem lw_p0 : lw_okq (⟨"SoldWeather$Reader", "step", "()V"⟩, 11) := ⟨⟨by decide +kernel, by decide +kernel⟩, List.mem_of_getElem? (i := 114) (by decide +kernel), List.mem_of_getElem? (i := 240) (by decide +kernel), List.mem_of_getElem? (i := 241) (by decide +kernel)⟩
theorem lw_p1 : lw_okq (⟨"SoldWeather$Reader", "clause", "()Z"⟩, 11) := ⟨⟨by decide +kernel, by decide +kernel⟩, List.mem_of_getElem? (i := 114) (by decide +kernel), List.mem_of_getElem? (i := 244) (by decide +kernel), List.mem_of_getElem? (i := 245) (by decide +kernel)⟩
theorem lw_p2 : lw_okq (⟨"SoldWeather$Reader", "word", "(Ljava/lang/String;)Z"⟩, 11) := ⟨⟨by decide +kernel, by decide +kernel⟩, List.mem_of_getElem? (i := 114) (by decide +kernel), List.mem_of_getElem? (i := 255) (by decide +kernel), List.mem_of_getElem? (i := 256) (by decide +kernel)⟩
theorem lw_p3 : lw_okq (⟨"SoldWeather$Reader", "ruleNumber", "()I"⟩, 11) := ⟨⟨by decide +kernel, by decide +kernel⟩, List.mem_of_getElem? (i := 114) (by decide +kernel), List.mem_of_getElem? (i := 307) (by decide +kernel), List.mem_of_getElem? (i := 308) (by decide +kernel)⟩
theorem lw_p4 : lw_okq (⟨"SoldWeather$Reader", "number", "()I"⟩, 11) := ⟨⟨by decide +kernel, by decide +kernel⟩, List.mem_of_getElem? (i := 114) (by decide +kernel), List.mem_of_getElem? (i := 311) (by decide +kernel), List.mem_of_getElem? (i := 312) (by decide +kernel)⟩
theorem lw_p5 : lw_okq (⟨"SoldWeather$Reader", "expression", "(I)Z"⟩, 11) := ⟨⟨by decide +kernel, by decide +kernel⟩, List.mem_of_getElem? (i := 114) (by decide +kernel), List.mem_of_getElem? (i := 316) (by decide +kernel), List.mem_of_getElem? (i := 317) (by decide +kernel)⟩
theorem lw_p6 : lw_okq (⟨"SoldWeather$Reader", "factor", "(I)Z"⟩, 11) := ⟨⟨by decide +kernel, by decide +kernel⟩, List.mem_of_getElem? (i := 114) (by decide +kernel), List.mem_of_getElem? (i := 320) (by decide +kernel), List.mem_of_getElem? (i := 321) (by decide +kernel)⟩
theorem lw_p7 : lw_okq (⟨"SoldWeather$Reader", "test", "()Z"⟩, 11) := ⟨⟨by decide +kernel, by decide +kernel⟩, List.mem_of_getElem? (i := 114) (by decide +kernel), List.mem_of_getElem? (i := 324) (by decide +kernel), List.mem_of_getElem? (i := 325) (by decide +kernel)⟩
theorem lw_p8 : lw_okq (⟨"SoldWeather$Reader", "put", "(I)Z"⟩, 11) := ⟨⟨by decide +kernel, by decide +kernel⟩, List.mem_of_getElem? (i := 114) (by decide +kernel), List.mem_of_getElem? (i := 331) (by decide +kernel), List.mem_of_getElem? (i := 332) (by decide +kernel)⟩
theorem lw_p9 : lw_okq (⟨"SoldWeather$Reader", "keepClause", "(I)Z"⟩, 11) := ⟨⟨by decide +kernel, by decide +kernel⟩, List.mem_of_getElem? (i := 114) (by decide +kernel), List.mem_of_getElem? (i := 336) (by decide +kernel), List.mem_of_getElem? (i := 337) (by decide +kernel)⟩
theorem lw_p10 : lw_okq (⟨"SoldWeather$Valley", "holds", "(II[I)Z"⟩, 5) := ⟨⟨by decide +kernel, by decide +kernel⟩, List.mem_of_getElem? (i := 344) (by decide +kernel), List.mem_of_getElem? (i := 550) (by decide +kernel), List.mem_of_getElem? (i := 551) (by decide +kernel)⟩
theorem lw_p11 : lw_okq (⟨"SoldWeather$Course", "putBid", "(III)V"⟩, 10) := ⟨⟨by decide +kernel, by decide +kernel⟩, List.mem_of_getElem? (i := 154) (by decide +kernel), List.mem_of_getElem? (i := 591) (by decide +kernel), List.mem_of_getElem? (i := 592) (by decide +kernel)⟩
theorem lw_p12 : lw_okq (⟨"SoldWeather$Course", "settle", "()V"⟩, 10) := ⟨⟨by decide +kernel, by decide +kernel⟩, List.mem_of_getElem? (i := 154) (by decide +kernel), List.mem_of_getElem? (i := 615) (by decide +kernel), List.mem_of_getElem? (i := 616) (by decide +kernel)⟩
theorem lw_p13 : lw_okq (⟨"SoldWeather$Course", "rebate", "()I"⟩, 10) := ⟨⟨by decide +kernel, by decide +kernel⟩, List.mem_of_getElem? (i := 154) (by decide +kernel), List.mem_of_getElem? (i := 639) (by decide +kernel), List.mem_of_getElem? (i := 640) (by decide +kernel)⟩
theorem lw_p14 : lw_okq (⟨"SoldWeather", "planDay", "(II)V"⟩, 8) := ⟨⟨by decide +kernel, by decide +kernel⟩, List.mem_of_getElem? (i := 21) (by decide +kernel), List.mem_of_getElem? (i := 678) (by decide +kernel), List.mem_of_getElem? (i := 679) (by decide +kernel)⟩
theorem lw_p15 : lw_okq (⟨"SoldWeather", "tallyWorth", "()I"⟩, 8) := ⟨⟨by decide +kernel, by decide +kernel⟩, List.mem_of_getElem? (i := 21) (by decide +kernel), List.mem_of_getElem? (i := 726) (by decide +kernel), List.mem_of_getElem? (i := 727) (by decide +kernel)⟩
def lw_privs_1 : List (MethodName × Nat) := [(⟨"SoldWeather$Reader", "step", "()V"⟩, 11), (⟨"SoldWeather$Reader", "clause", "()Z"⟩, 11), (⟨"SoldWeather$Reader", "word", "(Ljava/lang/String;)Z"⟩, 11), (⟨"SoldWeather$Reader", "ruleNumber", "()I"⟩, 11), (⟨"SoldWeather$Reader", "number", "()I"⟩, 11), (⟨"SoldWeather$Reader", "expression", "(I)Z"⟩, 11), (⟨"SoldWeather$Reader", "factor", "(I)Z"⟩, 11), (⟨"SoldWeather$Reader", "test", "()Z"⟩, 11), (⟨"SoldWeather$Reader", "put", "(I)Z"⟩, 11), (⟨"SoldWeather$Reader", "keepClause", "(I)Z"⟩, 11), (⟨"SoldWeather$Valley", "holds", "(II[I)Z"⟩, 5), (⟨"SoldWeather$Course", "putBid", "(III)V"⟩, 10), (⟨"SoldWeather$Course", "settle", "()V"⟩, 10), (⟨"SoldWeather$Course", "rebate", "()I"⟩, 10), (⟨"SoldWeather", "planDay", "(II)V"⟩, 8), (⟨"SoldWeather", "tallyWorth", "()I"⟩, 8)]
theorem lw_r1 : ∀ q ∈ lw_privs_1, lw_okq q := List.forall_mem_cons.mpr ⟨lw_p0, List.forall_mem_cons.mpr ⟨lw_p1, List.forall_mem_cons.mpr ⟨lw_p2, List.forall_mem_cons.mpr ⟨lw_p3, List.forall_mem_cons.mpr ⟨lw_p4, List.forall_mem_cons.mpr ⟨lw_p5, List.forall_mem_cons.mpr ⟨lw_p6, List.forall_mem_cons.mpr ⟨lw_p7, List.forall_mem_cons.mpr ⟨lw_p8, List.forall_mem_cons.mpr ⟨lw_p9, List.forall_mem_cons.mpr ⟨lw_p10, List.forall_mem_cons.mpr ⟨lw_p11, List.forall_mem_cons.mpr ⟨lw_p12, List.forall_mem_cons.mpr ⟨lw_p13, List.forall_mem_cons.mpr ⟨lw_p14, List.forall_mem_cons.mpr ⟨lw_p15, fun _ h => absurd h List.not_mem_nil⟩⟩⟩⟩⟩⟩⟩⟩⟩⟩⟩⟩⟩⟩⟩⟩
theorem lw_p16 : lw_okq (⟨"SoldWeather", "tallySpan", "()I"⟩, 8) := ⟨⟨by decide +kernel, by decide +kernel⟩, List.mem_of_getElem? (i := 21) (by decide +kernel), List.mem_of_getElem? (i := 730) (by decide +kernel), List.mem_of_getElem? (i := 731) (by decide +kernel)⟩
theorem lw_p17 : lw_okq (⟨"SoldWeatherModel", "clauseHere", "()V"⟩, 25) := ⟨⟨by decide +kernel, by decide +kernel⟩, List.mem_of_getElem? (i := 857) (by decide +kernel), List.mem_of_getElem? (i := 950) (by decide +kernel), List.mem_of_getElem? (i := 951) (by decide +kernel)⟩
theorem lw_p18 : lw_okq (⟨"SoldWeatherModel", "here", "()I"⟩, 25) := ⟨⟨by decide +kernel, by decide +kernel⟩, List.mem_of_getElem? (i := 857) (by decide +kernel), List.mem_of_getElem? (i := 954) (by decide +kernel), List.mem_of_getElem? (i := 955) (by decide +kernel)⟩
theorem lw_p19 : lw_okq (⟨"SoldWeatherModel", "much", "(ILjava/lang/String;)V"⟩, 25) := ⟨⟨by decide +kernel, by decide +kernel⟩, List.mem_of_getElem? (i := 857) (by decide +kernel), List.mem_of_getElem? (i := 959) (by decide +kernel), List.mem_of_getElem? (i := 960) (by decide +kernel)⟩
theorem lw_p20 : lw_okq (⟨"SoldWeatherModel", "spells", "(Ljava/lang/String;)V"⟩, 25) := ⟨⟨by decide +kernel, by decide +kernel⟩, List.mem_of_getElem? (i := 857) (by decide +kernel), List.mem_of_getElem? (i := 963) (by decide +kernel), List.mem_of_getElem? (i := 964) (by decide +kernel)⟩
theorem lw_p21 : lw_okq (⟨"SoldWeatherModel", "must", "(I)V"⟩, 25) := ⟨⟨by decide +kernel, by decide +kernel⟩, List.mem_of_getElem? (i := 857) (by decide +kernel), List.mem_of_getElem? (i := 969) (by decide +kernel), List.mem_of_getElem? (i := 970) (by decide +kernel)⟩
theorem lw_p22 : lw_okq (⟨"SoldWeatherModel", "figures", "()I"⟩, 25) := ⟨⟨by decide +kernel, by decide +kernel⟩, List.mem_of_getElem? (i := 857) (by decide +kernel), List.mem_of_getElem? (i := 973) (by decide +kernel), List.mem_of_getElem? (i := 974) (by decide +kernel)⟩
theorem lw_p23 : lw_okq (⟨"SoldWeatherModel", "some", "()V"⟩, 25) := ⟨⟨by decide +kernel, by decide +kernel⟩, List.mem_of_getElem? (i := 857) (by decide +kernel), List.mem_of_getElem? (i := 977) (by decide +kernel), List.mem_of_getElem? (i := 978) (by decide +kernel)⟩
theorem lw_p24 : lw_okq (⟨"SoldWeatherModel", "every", "()V"⟩, 25) := ⟨⟨by decide +kernel, by decide +kernel⟩, List.mem_of_getElem? (i := 857) (by decide +kernel), List.mem_of_getElem? (i := 981) (by decide +kernel), List.mem_of_getElem? (i := 982) (by decide +kernel)⟩
theorem lw_p25 : lw_okq (⟨"SoldWeatherModel", "factor", "()V"⟩, 25) := ⟨⟨by decide +kernel, by decide +kernel⟩, List.mem_of_getElem? (i := 857) (by decide +kernel), List.mem_of_getElem? (i := 985) (by decide +kernel), List.mem_of_getElem? (i := 986) (by decide +kernel)⟩
theorem lw_p26 : lw_okq (⟨"SoldWeatherModel", "emits", "(I)V"⟩, 25) := ⟨⟨by decide +kernel, by decide +kernel⟩, List.mem_of_getElem? (i := 857) (by decide +kernel), List.mem_of_getElem? (i := 989) (by decide +kernel), List.mem_of_getElem? (i := 990) (by decide +kernel)⟩
theorem lw_p27 : lw_okq (⟨"SoldWeatherModel", "among", "(Ljava/lang/String;)I"⟩, 25) := ⟨⟨by decide +kernel, by decide +kernel⟩, List.mem_of_getElem? (i := 857) (by decide +kernel), List.mem_of_getElem? (i := 994) (by decide +kernel), List.mem_of_getElem? (i := 995) (by decide +kernel)⟩
theorem lw_p28 : lw_okq (⟨"SoldWeatherModel", "ruleHere", "()V"⟩, 25) := ⟨⟨by decide +kernel, by decide +kernel⟩, List.mem_of_getElem? (i := 857) (by decide +kernel), List.mem_of_getElem? (i := 1000) (by decide +kernel), List.mem_of_getElem? (i := 1001) (by decide +kernel)⟩
theorem lw_p29 : lw_okq (⟨"SoldWeatherModel", "giftHere", "()V"⟩, 25) := ⟨⟨by decide +kernel, by decide +kernel⟩, List.mem_of_getElem? (i := 857) (by decide +kernel), List.mem_of_getElem? (i := 1005) (by decide +kernel), List.mem_of_getElem? (i := 1006) (by decide +kernel)⟩
theorem lw_p30 : lw_okq (⟨"SoldWeatherModel", "tellsOf", "(I)I"⟩, 25) := ⟨⟨by decide +kernel, by decide +kernel⟩, List.mem_of_getElem? (i := 857) (by decide +kernel), List.mem_of_getElem? (i := 1014) (by decide +kernel), List.mem_of_getElem? (i := 1015) (by decide +kernel)⟩
theorem lw_p31 : lw_okq (⟨"SoldWeatherModel", "fortuneNext", "()I"⟩, 25) := ⟨⟨by decide +kernel, by decide +kernel⟩, List.mem_of_getElem? (i := 857) (by decide +kernel), List.mem_of_getElem? (i := 1018) (by decide +kernel), List.mem_of_getElem? (i := 1019) (by decide +kernel)⟩
def lw_privs_2 : List (MethodName × Nat) := [(⟨"SoldWeather", "tallySpan", "()I"⟩, 8), (⟨"SoldWeatherModel", "clauseHere", "()V"⟩, 25), (⟨"SoldWeatherModel", "here", "()I"⟩, 25), (⟨"SoldWeatherModel", "much", "(ILjava/lang/String;)V"⟩, 25), (⟨"SoldWeatherModel", "spells", "(Ljava/lang/String;)V"⟩, 25), (⟨"SoldWeatherModel", "must", "(I)V"⟩, 25), (⟨"SoldWeatherModel", "figures", "()I"⟩, 25), (⟨"SoldWeatherModel", "some", "()V"⟩, 25), (⟨"SoldWeatherModel", "every", "()V"⟩, 25), (⟨"SoldWeatherModel", "factor", "()V"⟩, 25), (⟨"SoldWeatherModel", "emits", "(I)V"⟩, 25), (⟨"SoldWeatherModel", "among", "(Ljava/lang/String;)I"⟩, 25), (⟨"SoldWeatherModel", "ruleHere", "()V"⟩, 25), (⟨"SoldWeatherModel", "giftHere", "()V"⟩, 25), (⟨"SoldWeatherModel", "tellsOf", "(I)I"⟩, 25), (⟨"SoldWeatherModel", "fortuneNext", "()I"⟩, 25)]
theorem lw_r2 : ∀ q ∈ lw_privs_2, lw_okq q := List.forall_mem_cons.mpr ⟨lw_p16, List.forall_mem_cons.mpr ⟨lw_p17, List.forall_mem_cons.mpr ⟨lw_p18, List.forall_mem_cons.mpr ⟨lw_p19, List.forall_mem_cons.mpr ⟨lw_p20, List.forall_mem_cons.mpr ⟨lw_p21, List.forall_mem_cons.mpr ⟨lw_p22, List.forall_mem_cons.mpr ⟨lw_p23, List.forall_mem_cons.mpr ⟨lw_p24, List.forall_mem_cons.mpr ⟨lw_p25, List.forall_mem_cons.mpr ⟨lw_p26, List.forall_mem_cons.mpr ⟨lw_p27, List.forall_mem_cons.mpr ⟨lw_p28, List.forall_mem_cons.mpr ⟨lw_p29, List.forall_mem_cons.mpr ⟨lw_p30, List.forall_mem_cons.mpr ⟨lw_p31, fun _ h => absurd h List.not_mem_nil⟩⟩⟩⟩⟩⟩⟩⟩⟩⟩⟩⟩⟩⟩⟩⟩
theorem lw_p32 : lw_okq (⟨"SoldWeatherModel", "isPerson", "(I)Z"⟩, 25) := ⟨⟨by decide +kernel, by decide +kernel⟩, List.mem_of_getElem? (i := 857) (by decide +kernel), List.mem_of_getElem? (i := 1037) (by decide +kernel), List.mem_of_getElem? (i := 1038) (by decide +kernel)⟩
theorem lw_p33 : lw_okq (⟨"SoldWeatherModel", "bidOf", "(II)I"⟩, 25) := ⟨⟨by decide +kernel, by decide +kernel⟩, List.mem_of_getElem? (i := 857) (by decide +kernel), List.mem_of_getElem? (i := 1045) (by decide +kernel), List.mem_of_getElem? (i := 1046) (by decide +kernel)⟩
theorem lw_p34 : lw_okq (⟨"SoldWeatherModel", "worthNow", "(II)I"⟩, 25) := ⟨⟨by decide +kernel, by decide +kernel⟩, List.mem_of_getElem? (i := 857) (by decide +kernel), List.mem_of_getElem? (i := 1049) (by decide +kernel), List.mem_of_getElem? (i := 1050) (by decide +kernel)⟩
theorem lw_p35 : lw_okq (⟨"SoldWeatherModel", "worthOf", "(IIII)I"⟩, 25) := ⟨⟨by decide +kernel, by decide +kernel⟩, List.mem_of_getElem? (i := 857) (by decide +kernel), List.mem_of_getElem? (i := 1053) (by decide +kernel), List.mem_of_getElem? (i := 1054) (by decide +kernel)⟩
theorem lw_p36 : lw_okq (⟨"SoldWeatherModel", "kept", "(II)I"⟩, 25) := ⟨⟨by decide +kernel, by decide +kernel⟩, List.mem_of_getElem? (i := 857) (by decide +kernel), List.mem_of_getElem? (i := 1057) (by decide +kernel), List.mem_of_getElem? (i := 1058) (by decide +kernel)⟩
theorem lw_p37 : lw_okq (⟨"SoldWeatherModel", "league", "(II)I"⟩, 25) := ⟨⟨by decide +kernel, by decide +kernel⟩, List.mem_of_getElem? (i := 857) (by decide +kernel), List.mem_of_getElem? (i := 1061) (by decide +kernel), List.mem_of_getElem? (i := 1062) (by decide +kernel)⟩
theorem lw_p38 : lw_okq (⟨"SoldWeatherModel", "ahead", "(II)I"⟩, 25) := ⟨⟨by decide +kernel, by decide +kernel⟩, List.mem_of_getElem? (i := 857) (by decide +kernel), List.mem_of_getElem? (i := 1065) (by decide +kernel), List.mem_of_getElem? (i := 1066) (by decide +kernel)⟩
theorem lw_p39 : lw_okq (⟨"SoldWeatherModel", "sharing", "(II)I"⟩, 25) := ⟨⟨by decide +kernel, by decide +kernel⟩, List.mem_of_getElem? (i := 857) (by decide +kernel), List.mem_of_getElem? (i := 1069) (by decide +kernel), List.mem_of_getElem? (i := 1070) (by decide +kernel)⟩
theorem lw_p40 : lw_okq (⟨"SoldWeatherModel", "evening", "()V"⟩, 25) := ⟨⟨by decide +kernel, by decide +kernel⟩, List.mem_of_getElem? (i := 857) (by decide +kernel), List.mem_of_getElem? (i := 1077) (by decide +kernel), List.mem_of_getElem? (i := 1078) (by decide +kernel)⟩
theorem lw_p41 : lw_okq (⟨"SoldWeatherModel", "takesBids", "()V"⟩, 25) := ⟨⟨by decide +kernel, by decide +kernel⟩, List.mem_of_getElem? (i := 857) (by decide +kernel), List.mem_of_getElem? (i := 1081) (by decide +kernel), List.mem_of_getElem? (i := 1082) (by decide +kernel)⟩
theorem lw_p42 : lw_okq (⟨"SoldWeatherModel", "sells", "()V"⟩, 25) := ⟨⟨by decide +kernel, by decide +kernel⟩, List.mem_of_getElem? (i := 857) (by decide +kernel), List.mem_of_getElem? (i := 1085) (by decide +kernel), List.mem_of_getElem? (i := 1086) (by decide +kernel)⟩
theorem lw_p43 : lw_okq (⟨"SoldWeatherModel", "worthToAll", "(III)I"⟩, 25) := ⟨⟨by decide +kernel, by decide +kernel⟩, List.mem_of_getElem? (i := 857) (by decide +kernel), List.mem_of_getElem? (i := 1089) (by decide +kernel), List.mem_of_getElem? (i := 1090) (by decide +kernel)⟩
theorem lw_p44 : lw_okq (⟨"SoldWeatherModel", "paysOf", "(I)I"⟩, 25) := ⟨⟨by decide +kernel, by decide +kernel⟩, List.mem_of_getElem? (i := 857) (by decide +kernel), List.mem_of_getElem? (i := 1093) (by decide +kernel), List.mem_of_getElem? (i := 1094) (by decide +kernel)⟩
theorem lw_p45 : lw_okq (⟨"SoldWeatherModel", "harmOf", "(I)I"⟩, 25) := ⟨⟨by decide +kernel, by decide +kernel⟩, List.mem_of_getElem? (i := 857) (by decide +kernel), List.mem_of_getElem? (i := 1097) (by decide +kernel), List.mem_of_getElem? (i := 1098) (by decide +kernel)⟩
theorem lw_p46 : lw_okq (⟨"SoldWeatherModel", "keeps", "()V"⟩, 25) := ⟨⟨by decide +kernel, by decide +kernel⟩, List.mem_of_getElem? (i := 857) (by decide +kernel), List.mem_of_getElem? (i := 1109) (by decide +kernel), List.mem_of_getElem? (i := 1110) (by decide +kernel)⟩
theorem lw_p47 : lw_okq (⟨"SoldWeatherModel", "goesBack", "()V"⟩, 25) := ⟨⟨by decide +kernel, by decide +kernel⟩, List.mem_of_getElem? (i := 857) (by decide +kernel), List.mem_of_getElem? (i := 1113) (by decide +kernel), List.mem_of_getElem? (i := 1114) (by decide +kernel)⟩
def lw_privs_3 : List (MethodName × Nat) := [(⟨"SoldWeatherModel", "isPerson", "(I)Z"⟩, 25), (⟨"SoldWeatherModel", "bidOf", "(II)I"⟩, 25), (⟨"SoldWeatherModel", "worthNow", "(II)I"⟩, 25), (⟨"SoldWeatherModel", "worthOf", "(IIII)I"⟩, 25), (⟨"SoldWeatherModel", "kept", "(II)I"⟩, 25), (⟨"SoldWeatherModel", "league", "(II)I"⟩, 25), (⟨"SoldWeatherModel", "ahead", "(II)I"⟩, 25), (⟨"SoldWeatherModel", "sharing", "(II)I"⟩, 25), (⟨"SoldWeatherModel", "evening", "()V"⟩, 25), (⟨"SoldWeatherModel", "takesBids", "()V"⟩, 25), (⟨"SoldWeatherModel", "sells", "()V"⟩, 25), (⟨"SoldWeatherModel", "worthToAll", "(III)I"⟩, 25), (⟨"SoldWeatherModel", "paysOf", "(I)I"⟩, 25), (⟨"SoldWeatherModel", "harmOf", "(I)I"⟩, 25), (⟨"SoldWeatherModel", "keeps", "()V"⟩, 25), (⟨"SoldWeatherModel", "goesBack", "()V"⟩, 25)]
theorem lw_r3 : ∀ q ∈ lw_privs_3, lw_okq q := List.forall_mem_cons.mpr ⟨lw_p32, List.forall_mem_cons.mpr ⟨lw_p33, List.forall_mem_cons.mpr ⟨lw_p34, List.forall_mem_cons.mpr ⟨lw_p35, List.forall_mem_cons.mpr ⟨lw_p36, List.forall_mem_cons.mpr ⟨lw_p37, List.forall_mem_cons.mpr ⟨lw_p38, List.forall_mem_cons.mpr ⟨lw_p39, List.forall_mem_cons.mpr ⟨lw_p40, List.forall_mem_cons.mpr ⟨lw_p41, List.forall_mem_cons.mpr ⟨lw_p42, List.forall_mem_cons.mpr ⟨lw_p43, List.forall_mem_cons.mpr ⟨lw_p44, List.forall_mem_cons.mpr ⟨lw_p45, List.forall_mem_cons.mpr ⟨lw_p46, List.forall_mem_cons.mpr ⟨lw_p47, fun _ h => absurd h List.not_mem_nil⟩⟩⟩⟩⟩⟩⟩⟩⟩⟩⟩⟩⟩⟩⟩⟩
theorem lw_p48 : lw_okq (⟨"SoldWeatherModel", "withNext", "(III)I"⟩, 25) := ⟨⟨by decide +kernel, by decide +kernel⟩, List.mem_of_getElem? (i := 857) (by decide +kernel), List.mem_of_getElem? (i := 1121) (by decide +kernel), List.mem_of_getElem? (i := 1122) (by decide +kernel)⟩
theorem lw_p49 : lw_okq (⟨"SoldWeatherModel", "gainOf", "(I)I"⟩, 25) := ⟨⟨by decide +kernel, by decide +kernel⟩, List.mem_of_getElem? (i := 857) (by decide +kernel), List.mem_of_getElem? (i := 1129) (by decide +kernel), List.mem_of_getElem? (i := 1130) (by decide +kernel)⟩
theorem lw_p50 : lw_okq (⟨"SoldWeatherModel", "bidsActs", "(I)I"⟩, 25) := ⟨⟨by decide +kernel, by decide +kernel⟩, List.mem_of_getElem? (i := 857) (by decide +kernel), List.mem_of_getElem? (i := 1170) (by decide +kernel), List.mem_of_getElem? (i := 1171) (by decide +kernel)⟩
theorem lw_p51 : lw_okq (⟨"SoldWeatherModel", "ranBody", "(I)V"⟩, 25) := ⟨⟨by decide +kernel, by decide +kernel⟩, List.mem_of_getElem? (i := 857) (by decide +kernel), List.mem_of_getElem? (i := 1177) (by decide +kernel), List.mem_of_getElem? (i := 1178) (by decide +kernel)⟩
theorem lw_p52 : lw_okq (⟨"SoldWeatherModel", "plainBids", "(I)I"⟩, 25) := ⟨⟨by decide +kernel, by decide +kernel⟩, List.mem_of_getElem? (i := 857) (by decide +kernel), List.mem_of_getElem? (i := 1181) (by decide +kernel), List.mem_of_getElem? (i := 1182) (by decide +kernel)⟩
theorem lw_p53 : lw_okq (⟨"SoldWeatherModel", "paysActs", "(I)I"⟩, 25) := ⟨⟨by decide +kernel, by decide +kernel⟩, List.mem_of_getElem? (i := 857) (by decide +kernel), List.mem_of_getElem? (i := 1185) (by decide +kernel), List.mem_of_getElem? (i := 1186) (by decide +kernel)⟩
theorem lw_p54 : lw_okq (⟨"SoldWeatherModel", "leaguePays", "(I)I"⟩, 25) := ⟨⟨by decide +kernel, by decide +kernel⟩, List.mem_of_getElem? (i := 857) (by decide +kernel), List.mem_of_getElem? (i := 1189) (by decide +kernel), List.mem_of_getElem? (i := 1190) (by decide +kernel)⟩
theorem lw_p55 : lw_okq (⟨"SoldWeatherModel", "plainPays", "(I)I"⟩, 25) := ⟨⟨by decide +kernel, by decide +kernel⟩, List.mem_of_getElem? (i := 857) (by decide +kernel), List.mem_of_getElem? (i := 1193) (by decide +kernel), List.mem_of_getElem? (i := 1194) (by decide +kernel)⟩
theorem lw_p56 : lw_okq (⟨"SoldWeatherModel", "tellsActs", "(I)I"⟩, 25) := ⟨⟨by decide +kernel, by decide +kernel⟩, List.mem_of_getElem? (i := 857) (by decide +kernel), List.mem_of_getElem? (i := 1197) (by decide +kernel), List.mem_of_getElem? (i := 1198) (by decide +kernel)⟩
theorem lw_p57 : lw_okq (⟨"SoldWeatherModel", "plainTells", "(I)I"⟩, 25) := ⟨⟨by decide +kernel, by decide +kernel⟩, List.mem_of_getElem? (i := 857) (by decide +kernel), List.mem_of_getElem? (i := 1201) (by decide +kernel), List.mem_of_getElem? (i := 1202) (by decide +kernel)⟩
def lw_privs_4 : List (MethodName × Nat) := [(⟨"SoldWeatherModel", "withNext", "(III)I"⟩, 25), (⟨"SoldWeatherModel", "gainOf", "(I)I"⟩, 25), (⟨"SoldWeatherModel", "bidsActs", "(I)I"⟩, 25), (⟨"SoldWeatherModel", "ranBody", "(I)V"⟩, 25), (⟨"SoldWeatherModel", "plainBids", "(I)I"⟩, 25), (⟨"SoldWeatherModel", "paysActs", "(I)I"⟩, 25), (⟨"SoldWeatherModel", "leaguePays", "(I)I"⟩, 25), (⟨"SoldWeatherModel", "plainPays", "(I)I"⟩, 25), (⟨"SoldWeatherModel", "tellsActs", "(I)I"⟩, 25), (⟨"SoldWeatherModel", "plainTells", "(I)I"⟩, 25)]
theorem lw_r4 : ∀ q ∈ lw_privs_4, lw_okq q := List.forall_mem_cons.mpr ⟨lw_p48, List.forall_mem_cons.mpr ⟨lw_p49, List.forall_mem_cons.mpr ⟨lw_p50, List.forall_mem_cons.mpr ⟨lw_p51, List.forall_mem_cons.mpr ⟨lw_p52, List.forall_mem_cons.mpr ⟨lw_p53, List.forall_mem_cons.mpr ⟨lw_p54, List.forall_mem_cons.mpr ⟨lw_p55, List.forall_mem_cons.mpr ⟨lw_p56, List.forall_mem_cons.mpr ⟨lw_p57, fun _ h => absurd h List.not_mem_nil⟩⟩⟩⟩⟩⟩⟩⟩⟩⟩
def lw_privs : List (MethodName × Nat) := lw_privs_1 ++ (lw_privs_2 ++ (lw_privs_3 ++ (lw_privs_4)))
def lw_tbl : List Cond := k2_sels lw_privs ++ tables_1
theorem lw_privs_ok : ∀ q ∈ lw_privs, lw_okq q := by
  show ∀ q ∈ lw_privs_1 ++ (lw_privs_2 ++ (lw_privs_3 ++ (lw_privs_4))), lw_okq q
  exact List.forall_mem_append.mpr ⟨lw_r1, List.forall_mem_append.mpr ⟨lw_r2, List.forall_mem_append.mpr ⟨lw_r3, lw_r4⟩⟩⟩

def RX0 : String := "SoldWeather$Ahead"
def TX0 : u_T := fun k => match k with
  | 0 => ("SoldWeather$Bidder", "kind", "I", true)
  | 1 => ("SoldWeather$Bidder", "number", "I", true)
  | _ => ("SoldWeather$Bidder", "v", "I", true)
def tyX0 : Nat → FieldType := fun k => match k with
  | 0 => .int
  | 1 => .int
  | _ => .int
abbrev wsX00 : List Cond := u_ws RX0 TX0 3
theorem nmX0 : ∀ a, a < 3 → ∀ b, b < 3 → a ≠ b → (TX0 a).2.1 ≠ (TX0 b).2.1 := by decide +kernel
theorem tyX0_ok : ∀ k, k < 3 → parseFieldDescriptor (TX0 k).2.2.1 = some (tyX0 k) := by decide +kernel

def RX1 : String := "SoldWeather$Bidder"
def TX1 : u_T := fun k => match k with
  | 0 => ("SoldWeather$Bidder", "kind", "I", true)
  | 1 => ("SoldWeather$Bidder", "number", "I", true)
  | _ => ("SoldWeather$Bidder", "v", "I", true)
def tyX1 : Nat → FieldType := fun k => match k with
  | 0 => .int
  | 1 => .int
  | _ => .int
abbrev wsX10 : List Cond := u_ws RX1 TX1 3
theorem nmX1 : ∀ a, a < 3 → ∀ b, b < 3 → a ≠ b → (TX1 a).2.1 ≠ (TX1 b).2.1 := by decide +kernel
theorem tyX1_ok : ∀ k, k < 3 → parseFieldDescriptor (TX1 k).2.2.1 = some (tyX1 k) := by decide +kernel

def RX2 : String := "SoldWeather$Course"
def TX2 : u_T := fun k => match k with
  | 0 => ("SoldWeather$Course", "world", "LSoldWeather$World;", true)
  | 1 => ("SoldWeather$Course", "purses", "[I", true)
  | 2 => ("SoldWeather$Course", "bids", "[I", true)
  | 3 => ("SoldWeather$Course", "sums", "[I", true)
  | 4 => ("SoldWeather$Course", "given", "[I", true)
  | 5 => ("SoldWeather$Course", "anyBid", "Z", false)
  | 6 => ("SoldWeather$Course", "turn", "I", false)
  | 7 => ("SoldWeather$Course", "day", "I", false)
  | 8 => ("SoldWeather$Course", "ahead", "I", false)
  | _ => ("SoldWeather$Course", "sold", "I", false)
def tyX2 : Nat → FieldType := fun k => match k with
  | 0 => .object "SoldWeather$World"
  | 1 => .array .int
  | 2 => .array .int
  | 3 => .array .int
  | 4 => .array .int
  | 5 => .boolean
  | 6 => .int
  | 7 => .int
  | 8 => .int
  | _ => .int
abbrev wsX20 : List Cond := u_ws RX2 TX2 10
theorem nmX2 : ∀ a, a < 10 → ∀ b, b < 10 → a ≠ b → (TX2 a).2.1 ≠ (TX2 b).2.1 := by decide +kernel
theorem tyX2_ok : ∀ k, k < 10 → parseFieldDescriptor (TX2 k).2.2.1 = some (tyX2 k) := by decide +kernel

def RX3 : String := "SoldWeather$League"
def TX3 : u_T := fun k => match k with
  | 0 => ("SoldWeather$Bidder", "kind", "I", true)
  | 1 => ("SoldWeather$Bidder", "number", "I", true)
  | _ => ("SoldWeather$Bidder", "v", "I", true)
def tyX3 : Nat → FieldType := fun k => match k with
  | 0 => .int
  | 1 => .int
  | _ => .int
abbrev wsX30 : List Cond := u_ws RX3 TX3 3
theorem nmX3 : ∀ a, a < 3 → ∀ b, b < 3 → a ≠ b → (TX3 a).2.1 ≠ (TX3 b).2.1 := by decide +kernel
theorem tyX3_ok : ∀ k, k < 3 → parseFieldDescriptor (TX3 k).2.2.1 = some (tyX3 k) := by decide +kernel

def RX4 : String := "SoldWeather$Low"
def TX4 : u_T := fun k => match k with
  | 0 => ("SoldWeather$Bidder", "kind", "I", true)
  | 1 => ("SoldWeather$Bidder", "number", "I", true)
  | _ => ("SoldWeather$Bidder", "v", "I", true)
def tyX4 : Nat → FieldType := fun k => match k with
  | 0 => .int
  | 1 => .int
  | _ => .int
abbrev wsX40 : List Cond := u_ws RX4 TX4 3
theorem nmX4 : ∀ a, a < 3 → ∀ b, b < 3 → a ≠ b → (TX4 a).2.1 ≠ (TX4 b).2.1 := by decide +kernel
theorem tyX4_ok : ∀ k, k < 3 → parseFieldDescriptor (TX4 k).2.2.1 = some (tyX4 k) := by decide +kernel

def RX5 : String := "SoldWeather$Reader"
def TX5 : u_T := fun k => match k with
  | 0 => ("SoldWeather$Reader", "code", "[I", true)
  | 1 => ("SoldWeather$Reader", "ends", "[I", true)
  | 2 => ("SoldWeather$Reader", "amounts", "[I", true)
  | 3 => ("SoldWeather$Reader", "steps", "I", false)
  | 4 => ("SoldWeather$Reader", "valued", "I", false)
  | 5 => ("SoldWeather$Reader", "rule", "I", false)
  | 6 => ("SoldWeather$Reader", "gift", "I", false)
  | 7 => ("SoldWeather$Reader", "tape", "[I", true)
  | 8 => ("SoldWeather$Reader", "size", "I", false)
  | 9 => ("SoldWeather$Reader", "at", "I", false)
  | _ => ("SoldWeather$Reader", "next", "I", false)
def tyX5 : Nat → FieldType := fun k => match k with
  | 0 => .array .int
  | 1 => .array .int
  | 2 => .array .int
  | 3 => .int
  | 4 => .int
  | 5 => .int
  | 6 => .int
  | 7 => .array .int
  | 8 => .int
  | 9 => .int
  | _ => .int
abbrev wsX50 : List Cond := u_ws RX5 TX5 11
theorem nmX5 : ∀ a, a < 11 → ∀ b, b < 11 → a ≠ b → (TX5 a).2.1 ≠ (TX5 b).2.1 := by decide +kernel
theorem tyX5_ok : ∀ k, k < 11 → parseFieldDescriptor (TX5 k).2.2.1 = some (tyX5 k) := by decide +kernel

def RX6 : String := "SoldWeather$Saving"
def TX6 : u_T := fun k => match k with
  | 0 => ("SoldWeather$Bidder", "kind", "I", true)
  | 1 => ("SoldWeather$Bidder", "number", "I", true)
  | _ => ("SoldWeather$Bidder", "v", "I", true)
def tyX6 : Nat → FieldType := fun k => match k with
  | 0 => .int
  | 1 => .int
  | _ => .int
abbrev wsX60 : List Cond := u_ws RX6 TX6 3
theorem nmX6 : ∀ a, a < 3 → ∀ b, b < 3 → a ≠ b → (TX6 a).2.1 ≠ (TX6 b).2.1 := by decide +kernel
theorem tyX6_ok : ∀ k, k < 3 → parseFieldDescriptor (TX6 k).2.2.1 = some (tyX6 k) := by decide +kernel

def RX7 : String := "SoldWeather$Sharing"
def TX7 : u_T := fun k => match k with
  | 0 => ("SoldWeather$Bidder", "kind", "I", true)
  | 1 => ("SoldWeather$Bidder", "number", "I", true)
  | _ => ("SoldWeather$Bidder", "v", "I", true)
def tyX7 : Nat → FieldType := fun k => match k with
  | 0 => .int
  | 1 => .int
  | _ => .int
abbrev wsX70 : List Cond := u_ws RX7 TX7 3
theorem nmX7 : ∀ a, a < 3 → ∀ b, b < 3 → a ≠ b → (TX7 a).2.1 ≠ (TX7 b).2.1 := by decide +kernel
theorem tyX7_ok : ∀ k, k < 3 → parseFieldDescriptor (TX7 k).2.2.1 = some (tyX7 k) := by decide +kernel

def RX8 : String := "SoldWeather$Told"
def TX8 : u_T := fun k => match k with
  | 0 => ("SoldWeather$Bidder", "kind", "I", true)
  | 1 => ("SoldWeather$Bidder", "number", "I", true)
  | _ => ("SoldWeather$Bidder", "v", "I", true)
def tyX8 : Nat → FieldType := fun k => match k with
  | 0 => .int
  | 1 => .int
  | _ => .int
abbrev wsX80 : List Cond := u_ws RX8 TX8 3
theorem nmX8 : ∀ a, a < 3 → ∀ b, b < 3 → a ≠ b → (TX8 a).2.1 ≠ (TX8 b).2.1 := by decide +kernel
theorem tyX8_ok : ∀ k, k < 3 → parseFieldDescriptor (TX8 k).2.2.1 = some (tyX8 k) := by decide +kernel

def RX9 : String := "SoldWeather$Valley"
def TX9 : u_T := fun k => match k with
  | 0 => ("SoldWeather$Valley", "code", "[I", true)
  | 1 => ("SoldWeather$Valley", "ends", "[I", true)
  | 2 => ("SoldWeather$Valley", "amounts", "[I", true)
  | 3 => ("SoldWeather$Valley", "rule", "I", true)
  | _ => ("SoldWeather$Valley", "gift", "I", true)
def tyX9 : Nat → FieldType := fun k => match k with
  | 0 => .array .int
  | 1 => .array .int
  | 2 => .array .int
  | 3 => .int
  | _ => .int
abbrev wsX90 : List Cond := u_ws RX9 TX9 5
theorem nmX9 : ∀ a, a < 5 → ∀ b, b < 5 → a ≠ b → (TX9 a).2.1 ≠ (TX9 b).2.1 := by decide +kernel
theorem tyX9_ok : ∀ k, k < 5 → parseFieldDescriptor (TX9 k).2.2.1 = some (tyX9 k) := by decide +kernel

def RX10 : String := "SoldWeather$World"
def TX10 : u_T := fun k => match k with
  | 0 => ("SoldWeather$World", "tape", "[I", true)
  | 1 => ("SoldWeather$World", "signs", "I", false)
  | 2 => ("SoldWeather$World", "valleys", "I", false)
  | 3 => ("SoldWeather$World", "held", "LSoldWeather$Valley;", false)
  | 4 => ("SoldWeather$World", "day", "I", false)
  | 5 => ("SoldWeather$World", "ahead", "I", false)
  | 6 => ("SoldWeather$World", "fortune", "[I", true)
  | 7 => ("SoldWeather$World", "fortunes", "I", false)
  | 8 => ("SoldWeather$World", "turn", "I", false)
  | 9 => ("SoldWeather$World", "people", "[LSoldWeather$Bidder;", true)
  | 10 => ("SoldWeather$World", "purses", "[I", true)
  | 11 => ("SoldWeather$World", "rows", "[I", true)
  | 12 => ("SoldWeather$World", "size", "I", false)
  | 13 => ("SoldWeather$World", "beside", "[I", true)
  | 14 => ("SoldWeather$World", "besides", "I", false)
  | 15 => ("SoldWeather$World", "book", "[I", true)
  | _ => ("SoldWeather$World", "booked", "I", false)
def tyX10 : Nat → FieldType := fun k => match k with
  | 0 => .array .int
  | 1 => .int
  | 2 => .int
  | 3 => .object "SoldWeather$Valley"
  | 4 => .int
  | 5 => .int
  | 6 => .array .int
  | 7 => .int
  | 8 => .int
  | 9 => .array (.object "SoldWeather$Bidder")
  | 10 => .array .int
  | 11 => .array .int
  | 12 => .int
  | 13 => .array .int
  | 14 => .int
  | 15 => .array .int
  | _ => .int
abbrev wsX100 : List Cond := u_ws RX10 TX10 17
theorem nmX10 : ∀ a, a < 17 → ∀ b, b < 17 → a ≠ b → (TX10 a).2.1 ≠ (TX10 b).2.1 := by decide +kernel
theorem tyX10_ok : ∀ k, k < 17 → parseFieldDescriptor (TX10 k).2.2.1 = some (tyX10 k) := by decide +kernel

def RX11 : String := "SoldWeather"
def TX11 : u_T := fun k => match k with
  | 0 => ("SoldWeather", "now", "LSoldWeather$World;", true)
  | 1 => ("SoldWeather", "reader", "LSoldWeather$Reader;", true)
  | 2 => ("SoldWeather", "course", "LSoldWeather$Course;", true)
  | 3 => ("SoldWeather", "trail", "[I", true)
  | 4 => ("SoldWeather", "tally", "[I", true)
  | 5 => ("SoldWeather", "planned", "[I", true)
  | 6 => ("SoldWeather", "plannedWorth", "[I", true)
  | _ => ("SoldWeather", "kept", "LSoldWeather$World;", false)
def tyX11 : Nat → FieldType := fun k => match k with
  | 0 => .object "SoldWeather$World"
  | 1 => .object "SoldWeather$Reader"
  | 2 => .object "SoldWeather$Course"
  | 3 => .array .int
  | 4 => .array .int
  | 5 => .array .int
  | 6 => .array .int
  | _ => .object "SoldWeather$World"
abbrev wsX110 : List Cond := u_ws RX11 TX11 8
theorem nmX11 : ∀ a, a < 8 → ∀ b, b < 8 → a ≠ b → (TX11 a).2.1 ≠ (TX11 b).2.1 := by decide +kernel
theorem tyX11_ok : ∀ k, k < 8 → parseFieldDescriptor (TX11 k).2.2.1 = some (tyX11 k) := by decide +kernel

def RX12 : String := "SoldWeatherModel"
def TX12 : u_T := fun k => match k with
  | 0 => ("SoldWeatherModel", "thrown", "I", false)
  | 1 => ("SoldWeatherModel", "s", "[I", true)
  | 2 => ("SoldWeatherModel", "image", "[I", true)
  | 3 => ("SoldWeatherModel", "frame", "[I", true)
  | 4 => ("SoldWeatherModel", "hasImage", "Z", false)
  | 5 => ("SoldWeatherModel", "act", "I", false)
  | 6 => ("SoldWeatherModel", "spot", "I", false)
  | 7 => ("SoldWeatherModel", "end", "I", false)
  | 8 => ("SoldWeatherModel", "isWrong", "Z", false)
  | 9 => ("SoldWeatherModel", "open", "I", false)
  | 10 => ("SoldWeatherModel", "by", "[I", true)
  | 11 => ("SoldWeatherModel", "truths", "[Z", true)
  | 12 => ("SoldWeatherModel", "bids", "[I", true)
  | 13 => ("SoldWeatherModel", "sums", "[I", true)
  | 14 => ("SoldWeatherModel", "soldNow", "I", false)
  | 15 => ("SoldWeatherModel", "isFortune", "Z", false)
  | 16 => ("SoldWeatherModel", "worths", "I", false)
  | 17 => ("SoldWeatherModel", "paid", "I", false)
  | 18 => ("SoldWeatherModel", "follows", "[I", true)
  | 19 => ("SoldWeatherModel", "worthTo", "[I", true)
  | 20 => ("SoldWeatherModel", "bodies", "[I", true)
  | 21 => ("SoldWeatherModel", "ran", "I", false)
  | 22 => ("SoldWeatherModel", "kind", "I", false)
  | 23 => ("SoldWeatherModel", "number", "I", false)
  | _ => ("SoldWeatherModel", "tellsV", "I", false)
def tyX12 : Nat → FieldType := fun k => match k with
  | 0 => .int
  | 1 => .array .int
  | 2 => .array .int
  | 3 => .array .int
  | 4 => .boolean
  | 5 => .int
  | 6 => .int
  | 7 => .int
  | 8 => .boolean
  | 9 => .int
  | 10 => .array .int
  | 11 => .array .boolean
  | 12 => .array .int
  | 13 => .array .int
  | 14 => .int
  | 15 => .boolean
  | 16 => .int
  | 17 => .int
  | 18 => .array .int
  | 19 => .array .int
  | 20 => .array .int
  | 21 => .int
  | 22 => .int
  | 23 => .int
  | _ => .int
abbrev wsX120 : List Cond := u_ws RX12 TX12 25
theorem nmX12 : ∀ a, a < 25 → ∀ b, b < 25 → a ≠ b → (TX12 a).2.1 ≠ (TX12 b).2.1 := by decide +kernel
theorem tyX12_ok : ∀ k, k < 25 → parseFieldDescriptor (TX12 k).2.2.1 = some (tyX12 k) := by decide +kernel

/-- words that are not carried into a callee -/
def a_gk (w : Jvm.Cond) : Bool := match w with
  | .castable .. => false
  | .arrayOver .. => false
  | .declares .. => false
  | .privateMethod .. => false
  | .stringRef .. => false
  | .laysStatic .. => false
  | _ => true
def a_TB : List Jvm.Cond := (Jvm.Cond.code x code maxLocals ret :: lw_tbl).filter a_gk

def a_cl : List vw_C := [(RX0, TX0, 3), (RX1, TX1, 3), (RX2, TX2, 10), (RX3, TX3, 3), (RX4, TX4, 3), (RX5, TX5, 11), (RX6, TX6, 3), (RX7, TX7, 3), (RX8, TX8, 3), (RX9, TX9, 5), (RX10, TX10, 17), (RX11, TX11, 8), (RX12, TX12, 25)]

def a_df : List (List Value) := [[.int 0, .int 0, .int 0], [.int 0, .int 0, .int 0], [.null, .null, .null, .null, .null, .int 0, .int 0, .int 0, .int 0, .int 0], [.int 0, .int 0, .int 0], [.int 0, .int 0, .int 0], [.null, .null, .null, .int 0, .int 0, .int 0, .int 0, .null, .int 0, .int 0, .int 0], [.int 0, .int 0, .int 0], [.int 0, .int 0, .int 0], [.int 0, .int 0, .int 0], [.null, .null, .null, .int 0, .int 0], [.null, .int 0, .int 0, .null, .int 0, .int 0, .null, .int 0, .int 0, .null, .null, .null, .int 0, .null, .int 0, .null, .int 0], [.null, .null, .null, .null, .null, .null, .null, .null], [.int 0, .null, .null, .null, .int 0, .int 0, .int 0, .int 0, .int 0, .int 0, .null, .null, .null, .null, .int 0, .int 0, .int 0, .int 0, .null, .null, .null, .int 0, .int 0, .int 0, .int 0]]

def a_ty : Nat → Nat → FieldType := fun ci => match ci with
  | 0 => tyX0
  | 1 => tyX1
  | 2 => tyX2
  | 3 => tyX3
  | 4 => tyX4
  | 5 => tyX5
  | 6 => tyX6
  | 7 => tyX7
  | 8 => tyX8
  | 9 => tyX9
  | 10 => tyX10
  | 11 => tyX11
  | _ => tyX12

def a_NC : List (Bool × String × String) := [(false, "SoldWeather", "SoldWeather$Told"), (false, "SoldWeather$World", "SoldWeather$Told"), (false, "SoldWeather$Reader", "SoldWeather$Told"), (false, "SoldWeather$Course", "SoldWeather$Told"), (false, "SoldWeatherModel", "SoldWeather$Told"), (false, "SoldWeather$Valley", "SoldWeather$Told"), (false, "SoldWeather$Low", "SoldWeather$Told"), (false, "SoldWeather$League", "SoldWeather$Told"), (false, "SoldWeather$Ahead", "SoldWeather$Told"), (false, "SoldWeather$Saving", "SoldWeather$Told"), (false, "SoldWeather$Sharing", "SoldWeather$Told"), (false, "SoldWeather$Bidder", "SoldWeather$Told"), (false, "SoldWeather", "SoldWeather$League"), (false, "SoldWeather$World", "SoldWeather$League"), (false, "SoldWeather$Reader", "SoldWeather$League"), (false, "SoldWeather$Course", "SoldWeather$League"), (false, "SoldWeatherModel", "SoldWeather$League"), (false, "SoldWeather$Valley", "SoldWeather$League"), (false, "SoldWeather$Low", "SoldWeather$League"), (false, "SoldWeather$Ahead", "SoldWeather$League"), (false, "SoldWeather$Saving", "SoldWeather$League"), (false, "SoldWeather$Bidder", "SoldWeather$League"), (false, "SoldWeather", "SoldWeather$Low"), (false, "SoldWeather$World", "SoldWeather$Low"), (false, "SoldWeather$Reader", "SoldWeather$Low"), (false, "SoldWeather$Course", "SoldWeather$Low"), (false, "SoldWeatherModel", "SoldWeather$Low"), (false, "SoldWeather$Valley", "SoldWeather$Low"), (false, "SoldWeather$League", "SoldWeather$Low"), (false, "SoldWeather$Ahead", "SoldWeather$Low"), (false, "SoldWeather$Sharing", "SoldWeather$Low"), (false, "SoldWeather$Told", "SoldWeather$Low"), (false, "SoldWeather$Bidder", "SoldWeather$Low"), (false, "SoldWeather", "SoldWeather$Ahead"), (false, "SoldWeather$World", "SoldWeather$Ahead"), (false, "SoldWeather$Reader", "SoldWeather$Ahead"), (false, "SoldWeather$Course", "SoldWeather$Ahead"), (false, "SoldWeatherModel", "SoldWeather$Ahead"), (false, "SoldWeather$Valley", "SoldWeather$Ahead"), (false, "SoldWeather$Low", "SoldWeather$Ahead"), (false, "SoldWeather$League", "SoldWeather$Ahead"), (false, "SoldWeather$Saving", "SoldWeather$Ahead"), (false, "SoldWeather$Sharing", "SoldWeather$Ahead"), (false, "SoldWeather$Told", "SoldWeather$Ahead"), (false, "SoldWeather$Bidder", "SoldWeather$Ahead"), (false, "SoldWeather", "SoldWeather$Saving"), (false, "SoldWeather$World", "SoldWeather$Saving"), (false, "SoldWeather$Reader", "SoldWeather$Saving"), (false, "SoldWeather$Course", "SoldWeather$Saving"), (false, "SoldWeatherModel", "SoldWeather$Saving"), (false, "SoldWeather$Valley", "SoldWeather$Saving"), (false, "SoldWeather$Low", "SoldWeather$Saving"), (false, "SoldWeather$League", "SoldWeather$Saving"), (false, "SoldWeather$Ahead", "SoldWeather$Saving"), (false, "SoldWeather$Sharing", "SoldWeather$Saving"), (false, "SoldWeather$Told", "SoldWeather$Saving"), (false, "SoldWeather$Bidder", "SoldWeather$Saving"), (false, "SoldWeather", "SoldWeather$Sharing"), (false, "SoldWeather$World", "SoldWeather$Sharing"), (false, "SoldWeather$Reader", "SoldWeather$Sharing"), (false, "SoldWeather$Course", "SoldWeather$Sharing"), (false, "SoldWeatherModel", "SoldWeather$Sharing"), (false, "SoldWeather$Valley", "SoldWeather$Sharing"), (false, "SoldWeather$Low", "SoldWeather$Sharing"), (false, "SoldWeather$League", "SoldWeather$Sharing"), (false, "SoldWeather$Ahead", "SoldWeather$Sharing"), (false, "SoldWeather$Saving", "SoldWeather$Sharing"), (false, "SoldWeather$Told", "SoldWeather$Sharing"), (false, "SoldWeather$Bidder", "SoldWeather$Sharing"), (true, "SoldWeather$Sharing", "SoldWeather$League"), (true, "SoldWeather$Told", "SoldWeather$League"), (true, "SoldWeather$Saving", "SoldWeather$Low"), (true, "SoldWeather$Low", "SoldWeather$Bidder"), (true, "SoldWeather$League", "SoldWeather$Bidder"), (true, "SoldWeather$Ahead", "SoldWeather$Bidder"), (true, "SoldWeather$Saving", "SoldWeather$Bidder"), (true, "SoldWeather$Sharing", "SoldWeather$Bidder"), (true, "SoldWeather$Told", "SoldWeather$Bidder")]

def a_SR : List (String × Nat × String × Nat) := [("SoldWeather$Reader", 98, "harm ", 0), ("SoldWeather$Reader", 100, "rule ", 1), ("SoldWeather$Reader", 102, "gift ", 2), ("SoldWeather$Reader", 104, "worth ", 3), ("SoldWeather$Reader", 89, " ", 4), ("SoldWeather$Reader", 124, ")", 5), ("SoldWeatherModel", 113, "worth ", 3), ("SoldWeatherModel", 91, "wydpk", 6), ("SoldWeatherModel", 97, "<=>", 7), ("SoldWeatherModel", 119, "harm ", 0), ("SoldWeatherModel", 109, "rule ", 1), ("SoldWeatherModel", 111, "gift ", 2)]

def a_tx : List (List Int32) := [[104, 97, 114, 109, 32], [114, 117, 108, 101, 32], [103, 105, 102, 116, 32], [119, 111, 114, 116, 104, 32], [32], [41], [119, 121, 100, 112, 107], [60, 61, 62]]

def a_sv (fz : Value) : List (String × String × String × Value) := [("java/lang/String", "COMPACT_STRINGS", "Z", .int 1), ("jdk/internal/util/Preconditions", "SIOOBE_FORMATTER", "Ljava/util/function/BiFunction;", fz)]
