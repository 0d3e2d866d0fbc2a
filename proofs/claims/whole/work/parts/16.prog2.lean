/-! 16.prog2: the whole table is as bytes and words say; the words are good; the classes -/
theorem a_k5_fz (fz : Value) (own : String) (TB : List Jvm.Cond) (ins : Instr) (len : Nat) (aux : aX) : a_k5 own TB (a_sv fz) ins len aux = a_k5 own TB (a_sv .null) ins len aux := by
  unfold a_k5
  split
  case h_4 ix =>
    congr 1
    split
    · rename_i j p1 r
      match j with
      | 0 => rfl
      | 1 => rfl
      | j + 2 => rfl
    · rfl
  all_goals rfl
theorem a_rowok_fz (fz : Value) (own : String) (isI : Bool) (P : List aM) (cl : List vw_C) (TB : List Jvm.Cond) (E : String) (NC : List (Bool × String × String)) (SR : List (String × Nat × String × Nat)) (bs : ByteArray) (rt : Option FieldType) (rows : List aI) (i : Nat) (row : aI) : a_rowok own isI P cl TB E NC SR (a_sv fz) bs rt rows i row = a_rowok own isI P cl TB E NC SR (a_sv .null) bs rt rows i row := by
  obtain ⟨pc, ins, len, cst, aux⟩ := row
  simp only [a_rowok, a_k5_fz fz]
theorem a_all0 : ∀ q ∈ (a_P.drop 0).take 40, a_Mok q := List.forall_mem_cons.mpr ⟨k_X0_init, List.forall_mem_cons.mpr ⟨k_X0_wish, List.forall_mem_cons.mpr ⟨k_X0_tells, List.forall_mem_cons.mpr ⟨k_X1_init, List.forall_mem_cons.mpr ⟨k_X1_wish, List.forall_mem_cons.mpr ⟨k_X1_bids, List.forall_mem_cons.mpr ⟨k_X1_pays, List.forall_mem_cons.mpr ⟨k_X1_tells, List.forall_mem_cons.mpr ⟨k_X1_began, List.forall_mem_cons.mpr ⟨k_X2_init, List.forall_mem_cons.mpr ⟨k_X2_begin, List.forall_mem_cons.mpr ⟨k_X2_keep, List.forall_mem_cons.mpr ⟨k_X2_open, List.forall_mem_cons.mpr ⟨k_X2_ask, List.forall_mem_cons.mpr ⟨k_X2_putBid, List.forall_mem_cons.mpr ⟨k_X2_settle, List.forall_mem_cons.mpr ⟨k_X2_due, List.forall_mem_cons.mpr ⟨k_X2_harmBy, List.forall_mem_cons.mpr ⟨k_X2_rebate, List.forall_mem_cons.mpr ⟨k_X2_close, List.forall_mem_cons.mpr ⟨k_X2_fortuneNext, List.forall_mem_cons.mpr ⟨k_X2_purseOf, List.forall_mem_cons.mpr ⟨k_X2_bidOf, List.forall_mem_cons.mpr ⟨k_X2_bidsFor, List.forall_mem_cons.mpr ⟨k_X2_gain, List.forall_mem_cons.mpr ⟨k_X2_gainByLie, List.forall_mem_cons.mpr ⟨k_X2_gainTogether, List.forall_mem_cons.mpr ⟨k_X2_rowOf, List.forall_mem_cons.mpr ⟨k_X2_one, List.forall_mem_cons.mpr ⟨k_X2_worthTo, List.forall_mem_cons.mpr ⟨k_X2_worthToAll, List.forall_mem_cons.mpr ⟨k_X2_worthToAllOn, List.forall_mem_cons.mpr ⟨k_X2_worth, List.forall_mem_cons.mpr ⟨k_X3_init, List.forall_mem_cons.mpr ⟨k_X3_wish, List.forall_mem_cons.mpr ⟨k_X3_pays, List.forall_mem_cons.mpr ⟨k_X4_init, List.forall_mem_cons.mpr ⟨k_X4_wish, List.forall_mem_cons.mpr ⟨k_X4_bids, List.forall_mem_cons.mpr ⟨k_X5_init, fun _ h => absurd h List.not_mem_nil⟩⟩⟩⟩⟩⟩⟩⟩⟩⟩⟩⟩⟩⟩⟩⟩⟩⟩⟩⟩⟩⟩⟩⟩⟩⟩⟩⟩⟩⟩⟩⟩⟩⟩⟩⟩⟩⟩⟩⟩
theorem a_all1 : ∀ q ∈ (a_P.drop 40).take 40, a_Mok q := List.forall_mem_cons.mpr ⟨k_X5_faultOf, List.forall_mem_cons.mpr ⟨k_X5_made, List.forall_mem_cons.mpr ⟨k_X5_head, List.forall_mem_cons.mpr ⟨k_X5_step, List.forall_mem_cons.mpr ⟨k_X5_clause, List.forall_mem_cons.mpr ⟨k_X5_wordOf, List.forall_mem_cons.mpr ⟨k_X5_word, List.forall_mem_cons.mpr ⟨k_X5_ruleNumber, List.forall_mem_cons.mpr ⟨k_X5_number, List.forall_mem_cons.mpr ⟨k_X5_keepClause, List.forall_mem_cons.mpr ⟨k_X5_expression, List.forall_mem_cons.mpr ⟨k_X5_factor, List.forall_mem_cons.mpr ⟨k_X5_test, List.forall_mem_cons.mpr ⟨k_X5_askedBy, List.forall_mem_cons.mpr ⟨k_X5_put, List.forall_mem_cons.mpr ⟨k_X6_init, List.forall_mem_cons.mpr ⟨k_X6_wish, List.forall_mem_cons.mpr ⟨k_X6_tells, List.forall_mem_cons.mpr ⟨k_X7_init, List.forall_mem_cons.mpr ⟨k_X7_wish, List.forall_mem_cons.mpr ⟨k_X7_bids, List.forall_mem_cons.mpr ⟨k_X8_init, List.forall_mem_cons.mpr ⟨k_X8_wish, List.forall_mem_cons.mpr ⟨k_X8_pays, List.forall_mem_cons.mpr ⟨k_X9_init, List.forall_mem_cons.mpr ⟨k_X9_worth, List.forall_mem_cons.mpr ⟨k_X9_holds, List.forall_mem_cons.mpr ⟨k_X10_init, List.forall_mem_cons.mpr ⟨k_X10_becomeLike, List.forall_mem_cons.mpr ⟨k_X10_isOne, List.forall_mem_cons.mpr ⟨k_X10_one, List.forall_mem_cons.mpr ⟨k_X10_payRule, List.forall_mem_cons.mpr ⟨k_X10_giftEach, List.forall_mem_cons.mpr ⟨k_X10_fortuneAt, List.forall_mem_cons.mpr ⟨k_X10_turnBehind, List.forall_mem_cons.mpr ⟨k_X11_init, List.forall_mem_cons.mpr ⟨k_X11_feed, List.forall_mem_cons.mpr ⟨k_X11_valley, List.forall_mem_cons.mpr ⟨k_X11_told, List.forall_mem_cons.mpr ⟨k_X11_fortune, fun _ h => absurd h List.not_mem_nil⟩⟩⟩⟩⟩⟩⟩⟩⟩⟩⟩⟩⟩⟩⟩⟩⟩⟩⟩⟩⟩⟩⟩⟩⟩⟩⟩⟩⟩⟩⟩⟩⟩⟩⟩⟩⟩⟩⟩⟩
theorem a_all2 : ∀ q ∈ (a_P.drop 80).take 40, a_Mok q := List.forall_mem_cons.mpr ⟨k_X11_person, List.forall_mem_cons.mpr ⟨k_X11_row, List.forall_mem_cons.mpr ⟨k_X11_of, List.forall_mem_cons.mpr ⟨k_X11_go, List.forall_mem_cons.mpr ⟨k_X11_sold, List.forall_mem_cons.mpr ⟨k_X11_run, List.forall_mem_cons.mpr ⟨k_X11_best, List.forall_mem_cons.mpr ⟨k_X11_truly, List.forall_mem_cons.mpr ⟨k_X11_harm, List.forall_mem_cons.mpr ⟨k_X11_leagues, List.forall_mem_cons.mpr ⟨k_X11_beside, List.forall_mem_cons.mpr ⟨k_X11_spill, List.forall_mem_cons.mpr ⟨k_X11_poor, List.forall_mem_cons.mpr ⟨k_X11_worse, List.forall_mem_cons.mpr ⟨k_X11_book, List.forall_mem_cons.mpr ⟨k_X11_looked, List.forall_mem_cons.mpr ⟨k_X11_act, List.forall_mem_cons.mpr ⟨k_X11_trace, List.forall_mem_cons.mpr ⟨k_X11_as, List.forall_mem_cons.mpr ⟨k_X11_image, List.forall_mem_cons.mpr ⟨k_X11_undo, List.forall_mem_cons.mpr ⟨k_X11_count, List.forall_mem_cons.mpr ⟨k_X11_isWeather, List.forall_mem_cons.mpr ⟨k_X11_isKind, List.forall_mem_cons.mpr ⟨k_X11_isRun, List.forall_mem_cons.mpr ⟨k_X11_grown, List.forall_mem_cons.mpr ⟨k_X11_ofKind, List.forall_mem_cons.mpr ⟨k_X11_isUnder, List.forall_mem_cons.mpr ⟨k_X11_planDay, List.forall_mem_cons.mpr ⟨k_X11_tallyWorth, List.forall_mem_cons.mpr ⟨k_X11_tallySpan, List.forall_mem_cons.mpr ⟨k_X12_init, List.forall_mem_cons.mpr ⟨k_X12_in, List.forall_mem_cons.mpr ⟨k_X12_isWeather, List.forall_mem_cons.mpr ⟨k_X12_isPerson, List.forall_mem_cons.mpr ⟨k_X12_keeps, List.forall_mem_cons.mpr ⟨k_X12_goesBack, List.forall_mem_cons.mpr ⟨k_X12_feed, List.forall_mem_cons.mpr ⟨k_X12_here, List.forall_mem_cons.mpr ⟨k_X12_must, fun _ h => absurd h List.not_mem_nil⟩⟩⟩⟩⟩⟩⟩⟩⟩⟩⟩⟩⟩⟩⟩⟩⟩⟩⟩⟩⟩⟩⟩⟩⟩⟩⟩⟩⟩⟩⟩⟩⟩⟩⟩⟩⟩⟩⟩⟩
theorem a_all3 : ∀ q ∈ (a_P.drop 120).take 40, a_Mok q := List.forall_mem_cons.mpr ⟨k_X12_spells, List.forall_mem_cons.mpr ⟨k_X12_figures, List.forall_mem_cons.mpr ⟨k_X12_among, List.forall_mem_cons.mpr ⟨k_X12_emits, List.forall_mem_cons.mpr ⟨k_X12_factor, List.forall_mem_cons.mpr ⟨k_X12_every, List.forall_mem_cons.mpr ⟨k_X12_some, List.forall_mem_cons.mpr ⟨k_X12_much, List.forall_mem_cons.mpr ⟨k_X12_ruleHere, List.forall_mem_cons.mpr ⟨k_X12_giftHere, List.forall_mem_cons.mpr ⟨k_X12_clauseHere, List.forall_mem_cons.mpr ⟨k_X12_valley, List.forall_mem_cons.mpr ⟨k_X12_tellsOf, List.forall_mem_cons.mpr ⟨k_X12_worthOf, List.forall_mem_cons.mpr ⟨k_X12_worthNow, List.forall_mem_cons.mpr ⟨k_X12_worthToAll, List.forall_mem_cons.mpr ⟨k_X12_fortuneNext, List.forall_mem_cons.mpr ⟨k_X12_told, List.forall_mem_cons.mpr ⟨k_X12_fortune, List.forall_mem_cons.mpr ⟨k_X12_person, List.forall_mem_cons.mpr ⟨k_X12_row, List.forall_mem_cons.mpr ⟨k_X12_kept, List.forall_mem_cons.mpr ⟨k_X12_league, List.forall_mem_cons.mpr ⟨k_X12_ahead, List.forall_mem_cons.mpr ⟨k_X12_sharing, List.forall_mem_cons.mpr ⟨k_X12_bidOf, List.forall_mem_cons.mpr ⟨k_X12_of, List.forall_mem_cons.mpr ⟨k_X12_takesBids, List.forall_mem_cons.mpr ⟨k_X12_sells, List.forall_mem_cons.mpr ⟨k_X12_harmOf, List.forall_mem_cons.mpr ⟨k_X12_paysOf, List.forall_mem_cons.mpr ⟨k_X12_gainOf, List.forall_mem_cons.mpr ⟨k_X12_evening, List.forall_mem_cons.mpr ⟨k_X12_go, List.forall_mem_cons.mpr ⟨k_X12_sold, List.forall_mem_cons.mpr ⟨k_X12_run, List.forall_mem_cons.mpr ⟨k_X12_withNext, List.forall_mem_cons.mpr ⟨k_X12_best, List.forall_mem_cons.mpr ⟨k_X12_truly, List.forall_mem_cons.mpr ⟨k_X12_harm, fun _ h => absurd h List.not_mem_nil⟩⟩⟩⟩⟩⟩⟩⟩⟩⟩⟩⟩⟩⟩⟩⟩⟩⟩⟩⟩⟩⟩⟩⟩⟩⟩⟩⟩⟩⟩⟩⟩⟩⟩⟩⟩⟩⟩⟩⟩
theorem a_all4 : ∀ q ∈ (a_P.drop 160).take 30, a_Mok q := List.forall_mem_cons.mpr ⟨k_X12_leagues, List.forall_mem_cons.mpr ⟨k_X12_beside, List.forall_mem_cons.mpr ⟨k_X12_spill, List.forall_mem_cons.mpr ⟨k_X12_poor, List.forall_mem_cons.mpr ⟨k_X12_worse, List.forall_mem_cons.mpr ⟨k_X12_book, List.forall_mem_cons.mpr ⟨k_X12_looked, List.forall_mem_cons.mpr ⟨k_X12_ranBody, List.forall_mem_cons.mpr ⟨k_X12_isUnder, List.forall_mem_cons.mpr ⟨k_X12_plainBids, List.forall_mem_cons.mpr ⟨k_X12_bidsActs, List.forall_mem_cons.mpr ⟨k_X12_plainPays, List.forall_mem_cons.mpr ⟨k_X12_leaguePays, List.forall_mem_cons.mpr ⟨k_X12_paysActs, List.forall_mem_cons.mpr ⟨k_X12_plainTells, List.forall_mem_cons.mpr ⟨k_X12_tellsActs, List.forall_mem_cons.mpr ⟨k_X12_act, List.forall_mem_cons.mpr ⟨k_X12_trace, List.forall_mem_cons.mpr ⟨k_X12_as, List.forall_mem_cons.mpr ⟨k_X12_image, List.forall_mem_cons.mpr ⟨k_X12_undo, List.forall_mem_cons.mpr ⟨k_X12_count, List.forall_mem_cons.mpr ⟨k_J0_length_8abf5, List.forall_mem_cons.mpr ⟨k_J0_charAt_5068e, List.forall_mem_cons.mpr ⟨k_J0_coder_7d493, List.forall_mem_cons.mpr ⟨k_J0_isLatin1_aae02, List.forall_mem_cons.mpr ⟨k_J0_checkIndex_df160, List.forall_mem_cons.mpr ⟨k_J1_charAt_3b067, List.forall_mem_cons.mpr ⟨k_J3_checkIndex_8e157, List.forall_mem_cons.mpr ⟨k_L_law, fun _ h => absurd h List.not_mem_nil⟩⟩⟩⟩⟩⟩⟩⟩⟩⟩⟩⟩⟩⟩⟩⟩⟩⟩⟩⟩⟩⟩⟩⟩⟩⟩⟩⟩⟩⟩
set_option maxRecDepth 100000 in
theorem a_P_cut : a_P = (a_P.drop 0).take 40 ++ ((a_P.drop 40).take 40 ++ ((a_P.drop 80).take 40 ++ ((a_P.drop 120).take 40 ++ ((a_P.drop 160).take 30)))) := rfl
theorem a_all : ∀ q ∈ a_P, a_Mok q := by
  intro q hq
  rw [a_P_cut] at hq
  simp only [List.mem_append] at hq
  rcases hq with hq | hq | hq | hq | hq
  · exact a_all0 q hq
  · exact a_all1 q hq
  · exact a_all2 q hq
  · exact a_all3 q hq
  · exact a_all4 q hq
theorem a_prog_ok (fz : Value) : a_prog a_P a_cl a_TB "SoldWeather$Bidder" a_NC a_SR (a_sv fz) := by
  intro k y bs ml rt rows hP
  obtain ⟨h1, h2, h3, h4, h5⟩ := a_all _ (List.mem_of_getElem? hP)
  refine ⟨h1, h2, h3, h4, fun i row hr => ?_⟩
  rw [a_rowok_fz]
  have := List.all_eq_true.mp h5 (row, i) (by rw [List.mem_zipIdx_iff_getElem?]; exact hr)
  exact this
set_option maxRecDepth 100000 in
theorem a_good_ok : a_TB.all goodWord = true := by decide +kernel
set_option maxRecDepth 100000 in
theorem a_inX0 : ∀ w ∈ u_ws RX0 TX0 3, w ∈ a_TB := by decide +kernel
set_option maxRecDepth 100000 in
theorem a_inX1 : ∀ w ∈ u_ws RX1 TX1 3, w ∈ a_TB := by decide +kernel
set_option maxRecDepth 100000 in
theorem a_inX2 : ∀ w ∈ u_ws RX2 TX2 10, w ∈ a_TB := by decide +kernel
set_option maxRecDepth 100000 in
theorem a_inX3 : ∀ w ∈ u_ws RX3 TX3 3, w ∈ a_TB := by decide +kernel
set_option maxRecDepth 100000 in
theorem a_inX4 : ∀ w ∈ u_ws RX4 TX4 3, w ∈ a_TB := by decide +kernel
set_option maxRecDepth 100000 in
theorem a_inX5 : ∀ w ∈ u_ws RX5 TX5 11, w ∈ a_TB := by decide +kernel
set_option maxRecDepth 100000 in
theorem a_inX6 : ∀ w ∈ u_ws RX6 TX6 3, w ∈ a_TB := by decide +kernel
set_option maxRecDepth 100000 in
theorem a_inX7 : ∀ w ∈ u_ws RX7 TX7 3, w ∈ a_TB := by decide +kernel
set_option maxRecDepth 100000 in
theorem a_inX8 : ∀ w ∈ u_ws RX8 TX8 3, w ∈ a_TB := by decide +kernel
set_option maxRecDepth 100000 in
theorem a_inX9 : ∀ w ∈ u_ws RX9 TX9 5, w ∈ a_TB := by decide +kernel
set_option maxRecDepth 100000 in
theorem a_inX10 : ∀ w ∈ u_ws RX10 TX10 17, w ∈ a_TB := by decide +kernel
set_option maxRecDepth 100000 in
theorem a_inX11 : ∀ w ∈ u_ws RX11 TX11 8, w ∈ a_TB := by decide +kernel
set_option maxRecDepth 100000 in
theorem a_inX12 : ∀ w ∈ u_ws RX12 TX12 25, w ∈ a_TB := by decide +kernel
theorem a_cls_ok : a_cls a_cl a_ty a_df a_TB := by
  intro ci C T N h
  match ci, h with
  | 0, h => cases h; exact ⟨a_inX0, tyX0_ok, nmX0, fun fs hf => by cases hf; exact ⟨rfl, by decide +kernel, by decide +kernel⟩⟩
  | 1, h => cases h; exact ⟨a_inX1, tyX1_ok, nmX1, fun fs hf => by cases hf; exact ⟨rfl, by decide +kernel, by decide +kernel⟩⟩
  | 2, h => cases h; exact ⟨a_inX2, tyX2_ok, nmX2, fun fs hf => by cases hf; exact ⟨rfl, by decide +kernel, by decide +kernel⟩⟩
  | 3, h => cases h; exact ⟨a_inX3, tyX3_ok, nmX3, fun fs hf => by cases hf; exact ⟨rfl, by decide +kernel, by decide +kernel⟩⟩
  | 4, h => cases h; exact ⟨a_inX4, tyX4_ok, nmX4, fun fs hf => by cases hf; exact ⟨rfl, by decide +kernel, by decide +kernel⟩⟩
  | 5, h => cases h; exact ⟨a_inX5, tyX5_ok, nmX5, fun fs hf => by cases hf; exact ⟨rfl, by decide +kernel, by decide +kernel⟩⟩
  | 6, h => cases h; exact ⟨a_inX6, tyX6_ok, nmX6, fun fs hf => by cases hf; exact ⟨rfl, by decide +kernel, by decide +kernel⟩⟩
  | 7, h => cases h; exact ⟨a_inX7, tyX7_ok, nmX7, fun fs hf => by cases hf; exact ⟨rfl, by decide +kernel, by decide +kernel⟩⟩
  | 8, h => cases h; exact ⟨a_inX8, tyX8_ok, nmX8, fun fs hf => by cases hf; exact ⟨rfl, by decide +kernel, by decide +kernel⟩⟩
  | 9, h => cases h; exact ⟨a_inX9, tyX9_ok, nmX9, fun fs hf => by cases hf; exact ⟨rfl, by decide +kernel, by decide +kernel⟩⟩
  | 10, h => cases h; exact ⟨a_inX10, tyX10_ok, nmX10, fun fs hf => by cases hf; exact ⟨rfl, by decide +kernel, by decide +kernel⟩⟩
  | 11, h => cases h; exact ⟨a_inX11, tyX11_ok, nmX11, fun fs hf => by cases hf; exact ⟨rfl, by decide +kernel, by decide +kernel⟩⟩
  | 12, h => cases h; exact ⟨a_inX12, tyX12_ok, nmX12, fun fs hf => by cases hf; exact ⟨rfl, by decide +kernel, by decide +kernel⟩⟩
  | ci + 13, h => simp [a_cl] at h
