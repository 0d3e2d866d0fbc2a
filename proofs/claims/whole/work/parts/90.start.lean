/-! 90.start: what holds at the law's entry; the claim out of one run of our machine -/
abbrev s_pre : Jvm.Cond := Jvm.Cond.and given_1 narrow_1
def s_tm (i : Nat) : Term := match i with
  | 0 => .string "SoldWeather$Reader" 98
  | 1 => .string "SoldWeather$Reader" 100
  | 2 => .string "SoldWeather$Reader" 102
  | 3 => .string "SoldWeather$Reader" 104
  | 4 => .string "SoldWeather$Reader" 89
  | 5 => .string "SoldWeather$Reader" 124
  | 6 => .string "SoldWeatherModel" 91
  | _ => .string "SoldWeatherModel" 97
set_option maxRecDepth 100000 in
theorem s_hex : ∀ i, i < 8 → (Cond.exactly (s_tm i) "java/lang/String") ∈ flatC s_pre := by decide +kernel
set_option maxRecDepth 100000 in
theorem s_hco : ∀ i, i < 8 → (Cond.eq (.field (s_tm i) "java/lang/String" "coder" "B") (.int 0)) ∈ flatC s_pre := by decide +kernel
set_option maxRecDepth 100000 in
theorem s_har : ∀ i, i < 8 → (Cond.arrayOf (.field (s_tm i) "java/lang/String" "value" "[B") .byte) ∈ flatC s_pre := by decide +kernel
set_option maxRecDepth 100000 in
theorem s_hle : ∀ i, i < 8 → (Cond.eq (.length (.field (s_tm i) "java/lang/String" "value" "[B")) (.int (Int32.ofNat ((a_tx.map List.length).getD i 0)))) ∈ flatC s_pre := by decide +kernel
set_option maxRecDepth 100000 in
theorem s_hel : ∀ i, i < 8 → ∀ j, j < (a_tx.map List.length).getD i 0 → (Cond.eq (.elem (.field (s_tm i) "java/lang/String" "value" "[B") (.int (Int32.ofNat j))) (.int ((a_tx.getD i []).getD j 0))) ∈ flatC s_pre := by decide +kernel
set_option maxRecDepth 100000 in
theorem s_hne : ∀ i, i < 8 → ∀ j, j < 8 → i ≠ j → Cond.not (Cond.eq (s_tm i) (s_tm j)) ∈ flatC s_pre ∨ Cond.not (Cond.eq (s_tm j) (s_tm i)) ∈ flatC s_pre := by decide +kernel
set_option maxRecDepth 100000 in
theorem s_nc : ∀ q ∈ a_NC, (q.1 = false → Cond.not (Cond.castable q.2.1 q.2.2) ∈ flatC s_pre) ∧ (q.1 = true → Cond.castable q.2.1 q.2.2 ∈ lw_tbl) := by decide +kernel
theorem s_eqi {b : Nat} {s : State} {t : Term} {n : Int32} (h : (Cond.eq t (.int n)).before #[Value.ref b] s = true) : t.eval #[Value.ref b] s none [] s = some (.int n) := by
  obtain ⟨y, h1, h2⟩ := Cond.eq_one h
  have h3 : (Term.int n).eval #[Value.ref b] s none [] s = some (.int n) := rfl
  rw [h3] at h2
  cases h2
  exact h1
theorem s_eqr {b a : Nat} {s : State} {t u : Term} (h : (Cond.eq t u).before #[Value.ref b] s = true) (ht : t.eval #[Value.ref b] s none [] s = some (.ref a)) : u.eval #[Value.ref b] s none [] s = some (.ref a) := by
  obtain ⟨y, h1, h2⟩ := Cond.eq_one h
  rw [ht] at h1
  cases h1
  exact h2
theorem s_tb {b : Nat} {s : State} (hc : (Cond.code x code maxLocals ret).before #[Value.ref b] s = true) (hts : ∀ w ∈ lw_tbl, w.before #[Value.ref b] s = true) : ∀ w ∈ a_TB, w.before #[Value.ref b] s = true := fun w hw => by
  rcases List.mem_cons.mp (List.mem_filter.mp hw).1 with rfl | h
  · exact hc
  · exact hts w h
def s_ad (adK adV : Nat → Nat) (b t : Nat) : Nat → Nat := fun k => if k < 50 then adK k else if k = 50 then b else if k = 60 then t else adV (k - 100)
set_option maxRecDepth 100000 in
set_option maxHeartbeats 4000000 in
theorem s_world {b L : Nat} {xs : Nat → Int32} {s : State} (hts : ∀ w ∈ lw_tbl, w.before #[Value.ref b] s = true) (hts2 : ∀ w ∈ a_TB, w.before #[Value.ref b] s = true) (hgv : s_pre.before #[Value.ref b] s = true) (hX : va_X b L xs s s.heap) (hbl : b < s.heap.size) :
    ∃ (ad : Nat → Nat) (D : va_G) (dA : Nat → ClassId) (fz : Value), ad 50 = b ∧ (fz = .null ∨ fz = .retAddr 60) ∧ a_wor s.heap.size ad D dA a_cl "SoldWeather$Bidder" a_NC a_SR a_tx (a_sv fz) (L, xs) s := by
  have hfl := flat_of_before _ hgv
  have hA : ∀ a : Nat, a < s.heap.size → ¬ s.heap.size ≤ a := fun a h => by omega
  obtain ⟨c0, i0, hk0⟩ := u_known (C := RX0) (T := TX0) (N := 3) (n := 3) hts2 a_inX0 (hts2 (.instantiable RX0 3) (List.mem_of_getElem? (i := 499) (by decide +kernel)))
  obtain ⟨c1, i1, hk1⟩ := u_known (C := RX1) (T := TX1) (N := 3) (n := 3) hts2 a_inX1 (hts2 (.instantiable RX1 3) (List.mem_of_getElem? (i := 539) (by decide +kernel)))
  obtain ⟨c2, i2, hk2⟩ := u_known (C := RX2) (T := TX2) (N := 10) (n := 10) hts2 a_inX2 (hts2 (.instantiable RX2 10) (List.mem_of_getElem? (i := 212) (by decide +kernel)))
  obtain ⟨c3, i3, hk3⟩ := u_known (C := RX3) (T := TX3) (N := 3) (n := 3) hts2 a_inX3 (hts2 (.instantiable RX3 3) (List.mem_of_getElem? (i := 489) (by decide +kernel)))
  obtain ⟨c4, i4, hk4⟩ := u_known (C := RX4) (T := TX4) (N := 3) (n := 3) hts2 a_inX4 (hts2 (.instantiable RX4 3) (List.mem_of_getElem? (i := 448) (by decide +kernel)))
  obtain ⟨c5, i5, hk5⟩ := u_known (C := RX5) (T := TX5) (N := 11) (n := 11) hts2 a_inX5 (hts2 (.instantiable RX5 11) (List.mem_of_getElem? (i := 172) (by decide +kernel)))
  obtain ⟨c6, i6, hk6⟩ := u_known (C := RX6) (T := TX6) (N := 3) (n := 3) hts2 a_inX6 (hts2 (.instantiable RX6 3) (List.mem_of_getElem? (i := 509) (by decide +kernel)))
  obtain ⟨c7, i7, hk7⟩ := u_known (C := RX7) (T := TX7) (N := 3) (n := 3) hts2 a_inX7 (hts2 (.instantiable RX7 3) (List.mem_of_getElem? (i := 519) (by decide +kernel)))
  obtain ⟨c8, i8, hk8⟩ := u_known (C := RX8) (T := TX8) (N := 3) (n := 3) hts2 a_inX8 (hts2 (.instantiable RX8 3) (List.mem_of_getElem? (i := 529) (by decide +kernel)))
  obtain ⟨c9, i9, hk9⟩ := u_known (C := RX9) (T := TX9) (N := 5) (n := 5) hts2 a_inX9 (hts2 (.instantiable RX9 5) (List.mem_of_getElem? (i := 381) (by decide +kernel)))
  obtain ⟨c10, i10, hk10⟩ := u_known (C := RX10) (T := TX10) (N := 17) (n := 17) hts2 a_inX10 (hts2 (.instantiable RX10 17) (List.mem_of_getElem? (i := 88) (by decide +kernel)))
  obtain ⟨c11, i11, hk11⟩ := u_known (C := RX11) (T := TX11) (N := 8) (n := 8) hts2 a_inX11 (hts2 (.instantiable RX11 8) (List.mem_of_getElem? (i := 80) (by decide +kernel)))
  obtain ⟨c12, i12, hk12⟩ := u_known (C := RX12) (T := TX12) (N := 25) (n := 25) hts2 a_inX12 (hts2 (.instantiable RX12 25) (List.mem_of_getElem? (i := 884) (by decide +kernel)))
  obtain ⟨ca, ka, ma, fa1, fa2, fa3⟩ := Cond.arrayClass_spec (hts2 (.arrayClass .int) (List.mem_of_getElem? (i := 170) (by decide +kernel)))
  obtain ⟨cb, kb, mb, fb1, fb2, fb3⟩ := Cond.arrayClass_spec (hts2 (.arrayClass .boolean) (List.mem_of_getElem? (i := 964) (by decide +kernel)))
  have hao := hts (.arrayOver (.object "SoldWeather$Bidder")) (List.mem_of_getElem? (i := 93) (by decide +kernel))
  obtain ⟨mo, co, ko, fo1, -, fo2, fo3, fo4⟩ := Cond.arrayOver_spec hao
  obtain ⟨adK, adV, hS, hev⟩ := vk_Sof (args := #[Value.ref b]) (s := s) (N := 8) (tm := s_tm) (len := a_tx.map List.length) (byt := a_tx) (A := fun q => s.heap.size ≤ q) (by decide +kernel) (fun i hi => hfl _ (s_hex i hi)) (fun i hi => hfl _ (s_hco i hi)) (fun i hi => hfl _ (s_har i hi)) (fun i hi => hfl _ (s_hle i hi)) (fun i hi j hj => hfl _ (s_hel i hi j hj)) (fun i j hi hj hn => (s_hne i hi j hj hn).imp (fun q => hfl _ q) (fun q => hfl _ q)) hA
  have hz0 : va_Z "java/lang/String" "COMPACT_STRINGS" "Z" (.int 1) (fun q => s.heap.size ≤ q) s s.heap := va_Zof (hts (.laysStatic "java/lang/String" "COMPACT_STRINGS" "Z") (List.mem_of_getElem? (i := 325) (by decide +kernel))) (hts2 (.initialized "java/lang/String") (List.mem_of_getElem? (i := 66) (by decide +kernel))) (s_eqi (hfl _ (by decide +kernel))) hA
  have hz1 : va_Zq "jdk/internal/util/Preconditions" "SIOOBE_FORMATTER" "Ljava/util/function/BiFunction;" (fun q => s.heap.size ≤ q) s s.heap := va_Zqof (hts (.laysStatic "jdk/internal/util/Preconditions" "SIOOBE_FORMATTER" "Ljava/util/function/BiFunction;") (List.mem_of_getElem? (i := 341) (by decide +kernel))) (hts2 (.initialized "jdk/internal/util/Preconditions") (List.mem_of_getElem? (i := 68) (by decide +kernel))) (hfl _ (by decide +kernel)) hA
  obtain ⟨fz, t0, hfz, hz2⟩ : ∃ (fz : Value) (t0 : Nat), (fz = .null ∨ fz = .retAddr 60) ∧ va_Z "jdk/internal/util/Preconditions" "SIOOBE_FORMATTER" "Ljava/util/function/BiFunction;" (a_cv s.heap.size (s_ad adK adV b t0) fz) (fun q => s.heap.size ≤ q) s s.heap := by
    rcases hz1 with h | ⟨t0, h⟩
    · exact ⟨.null, 0, Or.inl rfl, h⟩
    · exact ⟨.retAddr 60, t0, Or.inr rfl, h⟩
  have ha1 : ∀ i, i < 8 → s_ad adK adV b t0 i = adK i := fun i hi => by unfold s_ad; rw [if_pos (by omega)]
  have ha2 : ∀ i, i < 8 → s_ad adK adV b t0 (100 + i) = adV i := fun i hi => by unfold s_ad; rw [if_neg (by omega), if_neg (by omega), if_neg (by omega)]; congr 1; omega
  have ha3 : s_ad adK adV b t0 50 = b := rfl
  refine ⟨s_ad adK adV b t0, (fun k => match k with
    | 0 => c0
    | 1 => c1
    | 2 => c2
    | 3 => c3
    | 4 => c4
    | 5 => c5
    | 6 => c6
    | 7 => c7
    | 8 => c8
    | 9 => c9
    | 10 => c10
    | 11 => c11
    | _ => c12, fun k => match k with
    | 0 => i0
    | 1 => i1
    | 2 => i2
    | 3 => i3
    | 4 => i4
    | 5 => i5
    | 6 => i6
    | 7 => i7
    | 8 => i8
    | 9 => i9
    | 10 => i10
    | 11 => i11
    | _ => i12), (fun k => match k with
    | 0 => ca
    | 1 => cb
    | _ => co), fz, ha3, hfz, ⟨?_, ?_⟩, ⟨?_, hao⟩, ?_, ⟨hX, hbl, hbl⟩, ?_, ?_, ?_⟩
  · intro k q hq
    match k, hq with
    | 0, hq => cases hq; exact hk0
    | 1, hq => cases hq; exact hk1
    | 2, hq => cases hq; exact hk2
    | 3, hq => cases hq; exact hk3
    | 4, hq => cases hq; exact hk4
    | 5, hq => cases hq; exact hk5
    | 6, hq => cases hq; exact hk6
    | 7, hq => cases hq; exact hk7
    | 8, hq => cases hq; exact hk8
    | 9, hq => cases hq; exact hk9
    | 10, hq => cases hq; exact hk10
    | 11, hq => cases hq; exact hk11
    | 12, hq => cases hq; exact hk12
    | k + 13, hq => simp [a_cl] at hq
  · intro k q hq
    match k, hq with
    | 0, hq => cases hq; exact ⟨fun n z => ⟨fun k h => (by cases h), ka, fa2, ma, fa3⟩, fa1⟩
    | 1, hq => cases hq; exact ⟨fun n z => ⟨fun k h => (by cases h), kb, fb2, mb, fb3⟩, fb1⟩
    | 2, hq => cases hq; exact ⟨fun n z => ⟨fun k h => (by cases h), ko, fo2, mo, fo3⟩, ko, mo, fo2, fo3, fo1, fo4⟩
    | k + 3, hq => simp [a_tys] at hq
  · intro q hq
    obtain ⟨g1, g2⟩ := s_nc q hq
    obtain ⟨bb, C, T⟩ := q
    cases bb
    · exact va_Nc.of (hfl _ (g1 rfl))
    · exact va_Nw.of rfl (hts _ (g2 rfl))
  · intro q hq
    simp only [a_SR, List.mem_cons, List.not_mem_nil, or_false] at hq
    rcases hq with rfl | rfl | rfl | rfl | rfl | rfl | rfl | rfl | rfl | rfl | rfl | rfl
    · exact vk_R.of (hts (.stringRef "SoldWeather$Reader" 98 "harm ") (List.mem_of_getElem? (i := 308) (by decide +kernel))) ((hev 0 (by decide)).trans (by rw [ha1 0 (by decide)]))
    · exact vk_R.of (hts (.stringRef "SoldWeather$Reader" 100 "rule ") (List.mem_of_getElem? (i := 309) (by decide +kernel))) ((hev 1 (by decide)).trans (by rw [ha1 1 (by decide)]))
    · exact vk_R.of (hts (.stringRef "SoldWeather$Reader" 102 "gift ") (List.mem_of_getElem? (i := 310) (by decide +kernel))) ((hev 2 (by decide)).trans (by rw [ha1 2 (by decide)]))
    · exact vk_R.of (hts (.stringRef "SoldWeather$Reader" 104 "worth ") (List.mem_of_getElem? (i := 311) (by decide +kernel))) ((hev 3 (by decide)).trans (by rw [ha1 3 (by decide)]))
    · exact vk_R.of (hts (.stringRef "SoldWeather$Reader" 89 " ") (List.mem_of_getElem? (i := 372) (by decide +kernel))) ((hev 4 (by decide)).trans (by rw [ha1 4 (by decide)]))
    · exact vk_R.of (hts (.stringRef "SoldWeather$Reader" 124 ")") (List.mem_of_getElem? (i := 392) (by decide +kernel))) ((hev 5 (by decide)).trans (by rw [ha1 5 (by decide)]))
    · exact vk_R.of (hts (.stringRef "SoldWeatherModel" 113 "worth ") (List.mem_of_getElem? (i := 1015) (by decide +kernel))) ((s_eqr (t := .string "SoldWeather$Reader" 104) (u := .string "SoldWeatherModel" 113) (hfl _ (by decide +kernel)) (hev 3 (by decide))).trans (by rw [ha1 3 (by decide)]))
    · exact vk_R.of (hts (.stringRef "SoldWeatherModel" 91 "wydpk") (List.mem_of_getElem? (i := 1050) (by decide +kernel))) ((hev 6 (by decide)).trans (by rw [ha1 6 (by decide)]))
    · exact vk_R.of (hts (.stringRef "SoldWeatherModel" 97 "<=>") (List.mem_of_getElem? (i := 1055) (by decide +kernel))) ((hev 7 (by decide)).trans (by rw [ha1 7 (by decide)]))
    · exact vk_R.of (hts (.stringRef "SoldWeatherModel" 119 "harm ") (List.mem_of_getElem? (i := 1056) (by decide +kernel))) ((s_eqr (t := .string "SoldWeather$Reader" 98) (u := .string "SoldWeatherModel" 119) (hfl _ (by decide +kernel)) (hev 0 (by decide))).trans (by rw [ha1 0 (by decide)]))
    · exact vk_R.of (hts (.stringRef "SoldWeatherModel" 109 "rule ") (List.mem_of_getElem? (i := 1061) (by decide +kernel))) ((s_eqr (t := .string "SoldWeather$Reader" 100) (u := .string "SoldWeatherModel" 109) (hfl _ (by decide +kernel)) (hev 1 (by decide))).trans (by rw [ha1 1 (by decide)]))
    · exact vk_R.of (hts (.stringRef "SoldWeatherModel" 111 "gift ") (List.mem_of_getElem? (i := 1066) (by decide +kernel))) ((s_eqr (t := .string "SoldWeather$Reader" 102) (u := .string "SoldWeatherModel" 111) (hfl _ (by decide +kernel)) (hev 2 (by decide))).trans (by rw [ha1 2 (by decide)]))
  · refine ⟨fun i hi => ?_, fun i j hi hj hij => ?_⟩
    · have h9 := hS.1 i hi
      rw [ha1 i hi, show (fun k => s_ad adK adV b t0 (100 + k)) i = adV i from ha2 i hi]
      exact h9
    · rw [ha1 i hi, ha1 j hj] at hij
      exact hS.2 i j hi hj hij
  · intro q hq
    simp only [a_sv, List.mem_cons, List.not_mem_nil, or_false] at hq
    rcases hq with rfl | rfl
    · exact hz0
    · exact hz2
  · intro q hq k hk
    simp only [a_sv, List.mem_cons, List.not_mem_nil, or_false] at hq
    rcases hq with rfl | rfl
    · cases hk
    · rcases hfz with rfl | rfl
      · cases hk
      · cases hk; rfl

/-- all that is left: on every script our machine runs the law to its end, with 1, and within the room -/
def s_goal : Prop := ∀ (fz : Value) (L : Nat) (xs : Nat → Int32), (fz = .null ∨ fz = .retAddr 60) → L ≤ 256 → v_V fz (L, xs) 1000 189 0 (a_ent 4 [.retAddr 50]) [] [] (fun r h => r = some (.int 1) ∧ h.length ≤ 600000 ∧ a_hz h ≤ 7302250)

def R_law : String := "SoldWeatherLaw"
def lw_P (b : Addr) (xs : List Int32) (args : Array Value) (s : State) : Prop := args = #[.ref b] ∧ s.IntsAt b xs ∧ xs.length ≤ 256 ∧ (Jvm.Cond.and given_1 narrow_1).before args s = true
def lw_Q (_ : Array Value) (s : State) (o : Outcome) (t : State) : Prop := o = .returned (some (.int 1)) ∧ Framed s o t [] 600000 7302250
def lw_Z (below : List Frame) (a : Array Value) (s : State) : State → Prop := fun t => ∃ o, t.status = .running ∧ Ended t below o ∧ lw_Q a s o t
/-- the law's own end, with 1 on the stack, nothing written that was there before, its room as the claim has it -/
theorem lw_ret {p : Program} {l : Launch} {e : Env} {s : State} {m : MethodId} {below : List Frame} {meth : Method} {c : Code} {b : Nat} (hx : p.tables.exec = Jvm.exec) (hb : c.code = code) (hr : meth.sig.returnType = ret) (hlocks : meth.locks = false) {pc : Nat} {H : Heap} {ls : Array Slot} (hdg : decode code pc = .ok (.ireturn, 1)) : W p l e room_1 s m #[Value.ref b] below meth c H [] 600000 7302250 (lw_Z below #[Value.ref b] s) (F0 m pc ls [.int 1]) := by
  intro T hT X
  obtain ⟨fs, hret, hrun, hended, hW, hframe⟩ := X.leave (v := some (.int 1)) (hlocks := hlocks) (fun h => by rw [hr] at h; cases h)
  have hmeth' : T.vm.method? m = some meth := X.method'
  refine ⟨T.setFrames fs, ?_, .returned (some (.int 1)), hrun, hended, rfl, ⟨_, rfl⟩, hW, hframe⟩
  jvm_step X.here [X.here.top, hx, hb, hdg, hmeth', hr, ret, narrow_b1]
  (try refine ⟨rfl, ?_⟩); (try refine ⟨rfl, ?_⟩)
  first | (intro acts; rw [hret _ acts rfl rfl rfl]) | rw [hret _ _ rfl rfl rfl]
  exact Steps.refl _
/-- what holds at the law's entry: the machine, the code, the tables' words (any of lw_tbl by 'hts w (by decide +kernel)'), the script of L ints xs at the cell b, what the Statement gives of the start (any of its parts by flat_of_before) -/
def lw_At (p : Program) (s : State) (m : MethodId) (meth : Method) (c : Code) (b L : Nat) (xs : Nat → Int32) : Prop :=
  p.tables.exec = Jvm.exec ∧ c.code = code ∧ meth.sig.returnType = ret ∧ c.maxLocals = 4 ∧ s.vm.findClass R_law = some m.cls ∧ (∀ w ∈ lw_tbl, w.before #[Value.ref b] s = true) ∧ va_X b L xs s s.heap ∧ b < s.heap.size ∧ meth.locks = false ∧ (Jvm.Cond.and given_1 narrow_1).before #[Value.ref b] s = true

theorem s_end {below : List Frame} {b : Nat} {s t : State} {D : va_G} {dA : Nat → ClassId} {ad : Nat → Nat} {hf : List aC} {mc ms : Nat} (h : MQ below (a_Qc s.heap.size ad D dA a_cl (some (.int 1)) hf) #[Value.ref b] s mc ms (fun q => s.heap.size ≤ q) t) (h1 : mc ≤ 600000) (h2 : ms ≤ 7302250) : lw_Z below #[Value.ref b] s t := by
  obtain ⟨o, g1, g2, ⟨rfl, -, -⟩, L, ⟨g3, g4, g5⟩, g6⟩ := h
  exact ⟨_, g1, g2, rfl, g3, g4, g5.weaken (fun y hy hlt => absurd hlt (Nat.not_lt.mpr (g6 y hy))) h1 h2⟩
theorem whole_start (hgo : s_goal) {p : Program} {e : Env} {s : State} {m : MethodId} {below : List Frame} {meth : Method} {c : Code} (l : Launch) {b L : Nat} {xs : Nat → Int32} (hL : L ≤ 256) (hcw : (Cond.code x code maxLocals ret).before #[Value.ref b] s = true) (C0 : lw_At p s m meth c b L xs) (hnm : meth.name = x.name) : W p l e room_1 s m #[Value.ref b] below meth c s.heap [] 0 0 (lw_Z below #[Value.ref b] s) (entryFrame m ([Value.ref b] : List Value).toArray 4) := by
  obtain ⟨hx, hb, hr, hml, hown, hts, hX, hbl, hlocks, hgv⟩ := C0
  have hts2 := s_tb hcw hts
  obtain ⟨ad, D, dA, fz, h50, hfz, hw⟩ := s_world hts hts2 hgv hX hbl
  obtain ⟨n, r, hf, hg, rfl, hz1, hz2⟩ := hgo fz L xs hfz hL
  have hsnd := a_sound (P := a_P) (df := a_df) (tx := a_tx) (sv := a_sv fz) (sc := (L, xs)) (B := s.heap.size) (ad := ad) (D := D) (dA := dA) (E := "SoldWeather$Bidder") (l := l) (a_prog_ok fz) a_cls_ok a_good_ok n
  obtain ⟨hent, hentl⟩ := a_entry (B := s.heap.size) (ad := ad) (As := [.retAddr 50]) (ml := 4) (by decide) (by decide)
  have hav : ([Value.retAddr 50].map (a_cv s.heap.size ad)) = [Value.ref b] := by
    show [Value.ref (ad 50)] = _
    rw [h50]
  rw [hav] at hent
  have := hsnd 1000 189 0 (a_ent 4 [.retAddr 50]) [] [] _ hf hg x code maxLocals ret m_L_law rfl p e room_1 s m #[Value.ref b] below meth c s.heap [] _ 0 0 hx hb hml hentl hown hts2 hw hr hlocks hnm hent ⟨rfl, fun j y h => by simp at h⟩ va_S.rf (by decide) (by decide) (Nat.le_refl _) (Nat.le_refl _) (by show hf.length - 0 ≤ 600000; omega) (by show a_hz hf - 0 ≤ 7302250; omega)
  rw [lg_entry_eq]
  intro T hT X
  obtain ⟨t, a1, b1⟩ := this T hT X
  exact ⟨t, a1, s_end b1 (by omega) (by omega)⟩

set_option maxHeartbeats 4000000 in
theorem lw_walk (hgo : s_goal) (l : Launch) (hflags : l.flags = flags0) (b : Addr) (xs : List Int32) : MetFree l x (headSpec (Jvm.Cond.code x code maxLocals ret :: tables_1) room_1) (lw_P b xs) (fun _ _ _ _ _ => True) lw_Q := by
  refine MetFree.of_bodyS (code := code) (maxLocals := maxLocals) (ret := ret) (by decide) ?_ ?_
  · intro args s m h hn
    obtain ⟨meth, c, h1, h2, h3, h4, h5, h6, -, -⟩ := Cond.code_spec hn (atoms_spec (ws := Jvm.Cond.code x code maxLocals ret :: tables_1) h _ List.mem_cons_self)
    exact ⟨meth, c, h1, h2, h3, h4, h5, h6⟩
  · intro p e s m args below meth c s₁ B hml0 hP _
    obtain ⟨rfl, hx, hbd, hgv⟩ := hP
    obtain ⟨scr, harrAt, hlist, hof, hsmall⟩ := hx
    obtain ⟨hcb, hkn, -, -⟩ := State.arrayAt?_spec harrAt
    have hown : s.vm.findClass R_law = some m.cls := findClass_of_methodNamed B.named
    have hts0 : ∀ c ∈ (Jvm.Cond.code x code maxLocals ret :: tables_1), c.before #[Value.ref b] s = true := atoms_spec (ws := Jvm.Cond.code x code maxLocals ret :: tables_1) B.pre
    have hts : ∀ w ∈ lw_tbl, w.before #[Value.ref b] s = true := k2_hts_sels lw_privs (fun w hw => hts0 w (List.mem_cons_of_mem _ hw)) lw_privs_ok
    have hml : c.maxLocals = 4 := B.maxLocals_eq (hts0 _ List.mem_cons_self)
    have X₀ : Stand p l e room_1 s m #[Value.ref b] below meth c s₁ [] 0 0 := Stand.of_body B
    have hh0 : s₁.heap = s.heap := by rw [B.state]; rfl
    have hsz : scr.slots.size = xs.length := by rw [← Array.length_toList, hlist, List.length_map]
    have hval : ∀ j : Nat, j < xs.length → scr.slots[j]? = some (.int (xs.getD j 0)) := fun j hj => by
      rw [← Array.getElem?_toList, hlist]
      simp [hj]
    have hbl : b < s.heap.size := (Array.getElem?_eq_some_iff.mp hcb).1
    have hX : va_X b xs.length (fun j => xs.getD j 0) s s.heap := ⟨scr, hcb, hof, hkn, hsz, hval⟩
    have K : W p l e room_1 s m #[Value.ref b] below meth c s₁.heap [] 0 0 (lw_Z below #[Value.ref b] s) (entryFrame m ([Value.ref b] : List Value).toArray 4) := by
      rw [hh0]
      exact whole_start hgo l hbd (hts0 _ List.mem_cons_self) ⟨B.exec, B.bytes, B.returns, hml, hown, hts, hX, hbl, B.notSynchronized, hgv⟩ (name_of_methodNamed B.named B.method).1
    obtain ⟨t, a1, o, b1, b2, b3⟩ := K s₁ rfl X₀
    exact ⟨t, o, a1, b1, b2, b3⟩
theorem lw_pre_spec {args : Array Value} {s : State} (h : (Jvm.Cond.and given_1 narrow_1).before args s = true) (hr : rest_1_c.before args s = true) : ∃ (b : Addr) (xs : List Int32), lw_P b xs args s := by
  have hs := flat_of_before _ h
  have hq := flat_of_before _ hr
  have hc : (Cond.count 1).before args s = true := hs _ (by decide +kernel)
  have harr : (Cond.arrayOf (.arg 0) .int).before args s = true := hs _ (by decide +kernel)
  have hle : (Cond.le (.length (.arg 0)) (.int 256)).before args s = true := hs _ (by decide +kernel)
  have hlen : (Cond.isInt (.length (.arg 0))).before args s = true := hq _ (by decide +kernel)
  have hall : (Cond.all (.arg 0) (.isInt (.elem (.arg 0) (.index 0)))).before args s = true := hq _ (by decide +kernel)
  obtain ⟨b, xs, hb, hx⟩ := State.ints_of_pre rfl harr hlen hall
  have hsm : xs.length < 2 ^ 31 := hx.choose_spec.2.2.2
  have hev : (Term.length (.arg 0)).eval args s none [] s = some (.int xs.length.toInt32) := hx.length_eval hb
  have hv := Cond.le_ints hev (show (Term.int 256).eval args s none [] s = some (.int 256) from rfl)
  have hd : xs.length.toInt32 ≤ 256 := by
    simpa [Cond.before, Cond.holds, hv] using hle
  have hN : xs.length ≤ 256 := (Int32.ofNat_le_ofNat hsm (by decide)).mp (show Int32.ofNat xs.length ≤ Int32.ofNat 256 from hd)
  exact ⟨b, xs, Cond.one_arg hc (show args[0]? = some (.ref b) from hb), hx, hN, h⟩
theorem lw_comes (hgo : s_goal) (l : Launch) (hflags : l.flags = flags0) : Comes l x (Jvm.Cond.code x code maxLocals ret :: tables_1) room_1 (fun tb e args s => Calls_1 tb e args s ∧ rest_1 tb e args s ∧ Pre_1 tb e args s)
    (fun _ _ args s o t => lw_Q args s o t) := by
  intro p e ha hc hk s m args below hf hfit hheap happ hpre
  obtain ⟨b, xs, hP⟩ := lw_pre_spec hpre.2.2 hpre.2.1
  obtain ⟨k, o, h1, h2, h3, hQ⟩ := lw_walk hgo l hflags b xs p e ha hc hk s m args below hf ((Spec.applies_iff_loose hf).mp happ).1 hP trivial
  exact ⟨k, o, h1, h2, h3, hQ⟩
theorem lw_frame {s t : State} {o : Outcome} {args : Array Value} (h : Framed s o t [] 600000 7302250) :
    Framed s o t (fieldLocs frame_1_writes args s ++ arrayLocs frame_1_arrays args s ++ staticLocs frame_1_statics s) 600000 7302250 := h
theorem lw_limb (hgo : s_goal) (L : Cond) (hL : ∀ (args : Array Value) (s t : State), L.after args s (.returned (some (.int 1))) t = true) :
    ArmFor flags0 classFile x code maxLocals ret World_1 tables_1 room_1 Calls_1 rest_1 Pre_1
      (fun tb e a s o t => postC L tb e a s o t ∧ Framed s o t (fieldLocs frame_1_writes a s ++ arrayLocs frame_1_arrays a s ++ staticLocs frame_1_statics s) 600000 7302250) := by
  intro l hflags _ _ p e ha hc hk s m args below hf hfit hheap happ hpre
  obtain ⟨k, o, h1, h2, h3, rfl, hF⟩ := lw_comes hgo l hflags p e ha hc hk s m args below hf hfit hheap happ hpre
  exact ⟨k, _, h1, h2, h3, hL args s _, lw_frame hF⟩
theorem s_vc (hgo : s_goal) : Claimed_1_1 ∧ Claimed_1_2 := ⟨lw_limb hgo limb_1_1 (fun args s t => by simp [limb_1_1, Cond.after, Cond.holds, Cond.value]), lw_limb hgo limb_1_2 (fun args s t => Cond.after_iff.mpr (by
  first | (rw [show limb_1_2 = Cond.eq .result (.int 1) from rfl, Cond.eq_ints (x := 1) (y := 1) rfl rfl]; simp; done) | (simp [limb_1_2, Cond.value, Term.eval]; done)))⟩
