/-! 02.rel: how our machine's state lies in the machine's; rows of locals, constants, the stack, numbers -/
def a_cv (B : Nat) (ad : Nat → Nat) (v : Value) : Value := match v with
  | .ref a => .ref (B + a)
  | .retAddr k => .ref (ad k)
  | .int x => .int x
  | .long x => .long x
  | .float x => .float x
  | .double x => .double x
  | .null => .null
theorem a_cv_cat (B : Nat) (ad : Nat → Nat) (v : Value) : (a_cv B ad v).category = v.category := by cases v <;> rfl
/-- the locals -/
def a_lo (B : Nat) (ad : Nat → Nat) (ls : Array Slot) (L : aL) : Prop := lv_has ls L.length [] ∧ ∀ (j : Nat) (v : Value), L[j]? = some (some v) → ls[j]? = some (.val (a_cv B ad v))
def a_asl (B : Nat) (ad : Nat → Nat) (L : aL) : List (Nat × Value) := (List.range L.length).filterMap (fun j => match L[j]? with
  | some (some v) => some (j, a_cv B ad v)
  | _ => none)
theorem a_asl_mem {B : Nat} {ad : Nat → Nat} {L : aL} {q : Nat × Value} (h : q ∈ a_asl B ad L) : ∃ v, L[q.1]? = some (some v) ∧ q.2 = a_cv B ad v := by
  obtain ⟨j, -, hj⟩ := List.mem_filterMap.mp h
  split at hj
  · rename_i v hv
    cases hj
    exact ⟨v, hv, rfl⟩
  · cases hj
theorem a_asl_of {B : Nat} {ad : Nat → Nat} {L : aL} {j : Nat} {v : Value} (h : L[j]? = some (some v)) : (j, a_cv B ad v) ∈ a_asl B ad L := by
  refine List.mem_filterMap.mpr ⟨j, List.mem_range.mpr (List.getElem?_eq_some_iff.mp h).1, ?_⟩
  simp only [h]
theorem a_lo_has {B : Nat} {ad : Nat → Nat} {ls : Array Slot} {L : aL} (h : a_lo B ad ls L) : lv_has ls L.length (a_asl B ad L) := by
  refine ⟨h.1.1, h.1.2.1, fun q hq => ?_⟩
  obtain ⟨v, h1, h2⟩ := a_asl_mem hq
  rw [h2]
  exact h.2 _ _ h1
theorem a_ld_int {L : aL} {j : Nat} {x : Int32} (h : a_ld L j = .int x) : L[j]? = some (some (.int x)) := by
  unfold a_ld at h
  cases e : L[j]? with
  | none => simp [e] at h
  | some o => cases o with
    | none => simp [e] at h
    | some v => simp [e] at h; rw [h]
theorem a_ld_long {L : aL} {j : Nat} {x : Int64} (h : a_ld L j = .long x) : L[j]? = some (some (.long x)) := by
  unfold a_ld at h
  cases e : L[j]? with
  | none => simp [e] at h
  | some o => cases o with
    | none => simp [e] at h
    | some v => simp [e] at h; rw [h]
theorem a_ld_ref {L : aL} {j : Nat} {x : Nat} (h : a_ld L j = .ref x) : L[j]? = some (some (.ref x)) := by
  unfold a_ld at h
  cases e : L[j]? with
  | none => simp [e] at h
  | some o => cases o with
    | none => simp [e] at h
    | some v => simp [e] at h; rw [h]
theorem a_ld_ra {L : aL} {j : Nat} {x : Nat} (h : a_ld L j = .retAddr x) : L[j]? = some (some (.retAddr x)) := by
  unfold a_ld at h
  cases e : L[j]? with
  | none => simp [e] at h
  | some o => cases o with
    | none => simp [e] at h
    | some v => simp [e] at h; rw [h]
theorem a_ld_null {L : aL} {j : Nat} (h : a_ld L j = .null) : L[j]? = some (some .null) := by
  unfold a_ld at h
  cases e : L[j]? with
  | none => simp [e] at h
  | some o => cases o with
    | none => simp [e] at h
    | some v => simp [e] at h; rw [h]
/-- what a store leaves of the others -/
theorem a_lo_set {B : Nat} {ad : Nat → Nat} {ls : Array Slot} {L : aL} {j : Nat} {v : Value} (hg : a_pg L j = true)
    (h : lv_has ls L.length ((j, a_cv B ad v) :: (a_asl B ad L).filter (fun q => !(q.1 == j) && !(q.1 + 1 == j && q.2.category == 2)))) : a_lo B ad ls (L.set j (some v)) := by
  unfold a_pg at hg
  simp only [Bool.and_eq_true, decide_eq_true_eq, Bool.or_eq_true, beq_iff_eq] at hg
  refine ⟨by rw [List.length_set]; exact ⟨h.1, h.2.1, fun q hq => by cases hq⟩, fun i w hi => ?_⟩
  by_cases hij : j = i
  · subst hij
    rw [List.getElem?_set_self hg.1] at hi
    cases hi
    exact h.2.2 _ List.mem_cons_self
  · rw [List.getElem?_set_ne hij] at hi
    refine h.2.2 (i, a_cv B ad w) (List.mem_cons_of_mem _ (List.mem_filter.mpr ⟨a_asl_of hi, ?_⟩))
    have h1 : (i == j) = false := by simpa using fun e : i = j => hij e.symm
    simp only [h1, Bool.not_false, Bool.true_and, Bool.not_eq_true', Bool.and_eq_false_imp, beq_iff_eq]
    intro e
    have h2 : j ≠ 0 := by omega
    have h3 := hg.2.resolve_left h2
    have h4 : a_ld L (j - 1) = w := by unfold a_ld; rw [show j - 1 = i by omega, hi]; rfl
    rw [h4] at h3
    simp [a_cv_cat, h3]
theorem a_lo_set2 {B : Nat} {ad : Nat → Nat} {ls : Array Slot} {L : aL} {j : Nat} {v : Value} (hg : a_pg2 L j = true)
    (h : lv_has ls L.length ((j, a_cv B ad v) :: (a_asl B ad L).filter (fun q => !(q.1 == j) && (!(q.1 == j + 1) && !(q.1 + 1 == j && q.2.category == 2))))) : a_lo B ad ls ((L.set j (some v)).set (j + 1) none) := by
  unfold a_pg2 at hg
  simp only [Bool.and_eq_true, decide_eq_true_eq, Bool.or_eq_true, beq_iff_eq] at hg
  refine ⟨by rw [List.length_set, List.length_set]; exact ⟨h.1, h.2.1, fun q hq => by cases hq⟩, fun i w hi => ?_⟩
  by_cases hij1 : j + 1 = i
  · subst hij1
    rw [List.getElem?_set_self (by rw [List.length_set]; exact hg.1)] at hi
    cases hi
  rw [List.getElem?_set_ne hij1] at hi
  by_cases hij : j = i
  · subst hij
    rw [List.getElem?_set_self (by omega)] at hi
    cases hi
    exact h.2.2 _ List.mem_cons_self
  · rw [List.getElem?_set_ne hij] at hi
    refine h.2.2 (i, a_cv B ad w) (List.mem_cons_of_mem _ (List.mem_filter.mpr ⟨a_asl_of hi, ?_⟩))
    have h1 : (i == j) = false := by simpa using fun e : i = j => hij e.symm
    have h1b : (i == j + 1) = false := by simpa using fun e : i = j + 1 => hij1 e.symm
    simp only [h1, h1b, Bool.not_false, Bool.true_and, Bool.not_eq_true', Bool.and_eq_false_imp, beq_iff_eq]
    intro e
    have h2 : j ≠ 0 := by omega
    have h3 := hg.2.resolve_left h2
    have h4 : a_ld L (j - 1) = w := by unfold a_ld; rw [show j - 1 = i by omega, hi]; rfl
    rw [h4] at h3
    simp [a_cv_cat, h3]
theorem a_pg_lt {L : aL} {j : Nat} (h : a_pg L j = true) : j < L.length := by
  unfold a_pg at h
  simp only [Bool.and_eq_true, decide_eq_true_eq] at h
  exact h.1
theorem a_pg2_lt {L : aL} {j : Nat} (h : a_pg2 L j = true) : j + 1 < L.length := by
  unfold a_pg2 at h
  simp only [Bool.and_eq_true, decide_eq_true_eq] at h
  exact h.1
section AR
variable {p : Program} {l : Launch} {e : Env} {R : Room} {s : State} {m : MethodId} {args : Array Value} {below : List Frame} {meth : Method} {c : Code} {H : Heap} {locs : List Loc} {cells slots : Nat} {Q : State → Prop}
variable {cc : ByteArray} {pc : Nat} {ls : Array Slot} {B : Nat} {ad : Nat → Nat}
/-- locals, constants, the stack, numbers: a step of ours is a step of the machine -/
theorem a_s1_ok (hx : p.tables.exec = Jvm.exec) (hb : c.code = cc) {ins : Instr} {len : Nat} {cst : Int32} {aux : aX} (hdg : decode cc pc = .ok (ins, len)) (hk : a_k1 ins len cst = true)
    {i i' : Nat} {L L' : aL} {st st' : List Value} {h h' : List aC} (hlo : a_lo B ad ls L) (hs : a_s1 ins cst aux i L st h = some (true, i', L', st', h'))
    (kk : ∀ ls' : Array Slot, i' = i + 1 → h' = h → L'.length = L.length → a_lo B ad ls' L' → W p l e R s m args below meth c H locs cells slots Q (F0 m (pc + len) ls' (st'.map (a_cv B ad)))) :
    W p l e R s m args below meth c H locs cells slots Q (F0 m pc ls (st.map (a_cv B ad))) := by
  unfold a_s1 at hs
  split at hs
  case h_1 n =>
    simp only [a_k1, Bool.and_eq_true, beq_iff_eq, decide_eq_true_eq] at hk
    obtain ⟨rfl, hc⟩ := hk
    cases hs
    exact lv_iconst hx hb hdg hc (kk ls rfl rfl rfl hlo)
  case h_2 n =>
    simp only [a_k1, Bool.and_eq_true, beq_iff_eq, decide_eq_true_eq] at hk
    obtain ⟨rfl, hc⟩ := hk
    cases hs
    exact lv_bipush hx hb hdg hc (kk ls rfl rfl rfl hlo)
  case h_3 n =>
    simp only [a_k1, Bool.and_eq_true, beq_iff_eq, decide_eq_true_eq] at hk
    obtain ⟨rfl, hc⟩ := hk
    cases hs
    exact lv_sipush hx hb hdg hc (kk ls rfl rfl rfl hlo)
  case h_4 n =>
    simp only [a_k1, beq_iff_eq] at hk
    subst hk
    cases hs
    exact lv_lconst hx hb hdg rfl (kk ls rfl rfl rfl hlo)
  case h_5 =>
    simp only [a_k1, beq_iff_eq] at hk
    subst hk
    cases hs
    exact lv_null hx hb hdg (kk ls rfl rfl rfl hlo)
  case h_6 k =>
    simp only [a_k1, beq_iff_eq] at hk
    subst hk
    unfold a_li at hs
    split at hs
    · rename_i x hv
      cases hs
      exact lv_iload_n hx hb hdg rfl (hlo.2 _ _ (a_ld_int hv)) (kk ls rfl rfl rfl hlo)
    · cases hs
  case h_7 k =>
    simp only [a_k1, beq_iff_eq] at hk
    subst hk
    unfold a_li at hs
    split at hs
    · rename_i x hv
      cases hs
      exact lv_iload hx hb hdg (hlo.2 _ _ (a_ld_int hv)) (kk ls rfl rfl rfl hlo)
    · cases hs
  case h_8 k =>
    simp only [a_k1, beq_iff_eq] at hk
    subst hk
    unfold a_ll at hs
    split at hs
    · rename_i x hv
      cases hs
      exact lv_lload_n hx hb hdg rfl (hlo.2 _ _ (a_ld_long hv)) (kk ls rfl rfl rfl hlo)
    · cases hs
  case h_9 k =>
    simp only [a_k1, beq_iff_eq] at hk
    subst hk
    unfold a_la at hs
    split at hs
    · rename_i x hv
      cases hs
      exact lv_aload_n hx hb hdg rfl (hlo.2 _ _ (a_ld_ref hv)) (kk ls rfl rfl rfl hlo)
    · rename_i x hv
      cases hs
      exact lv_aload_n hx hb hdg rfl (hlo.2 _ _ (a_ld_ra hv)) (kk ls rfl rfl rfl hlo)
    · rename_i hv
      cases hs
      exact lv_aload_nN hx hb hdg rfl (hlo.2 _ _ (a_ld_null hv)) (kk ls rfl rfl rfl hlo)
    · cases hs
  case h_10 k =>
    simp only [a_k1, beq_iff_eq] at hk
    subst hk
    unfold a_la at hs
    split at hs
    · rename_i x hv
      cases hs
      exact lv_aload hx hb hdg (hlo.2 _ _ (a_ld_ref hv)) (kk ls rfl rfl rfl hlo)
    · rename_i x hv
      cases hs
      exact lv_aload hx hb hdg (hlo.2 _ _ (a_ld_ra hv)) (kk ls rfl rfl rfl hlo)
    · rename_i hv
      cases hs
      exact lv_aloadN hx hb hdg (hlo.2 _ _ (a_ld_null hv)) (kk ls rfl rfl rfl hlo)
    · cases hs
  case h_11 k =>
    simp only [a_k1, beq_iff_eq] at hk
    subst hk
    unfold a_si at hs
    split at hs
    · rename_i x r
      simp only [Option.some.injEq, Prod.mk.injEq] at hs
      obtain ⟨hg, rfl, rfl, rfl, rfl⟩ := hs
      exact lv_istore_n hx hb hdg rfl (a_lo_has hlo) (a_pg_lt hg) rfl (fun ls' hl => kk ls' rfl rfl (List.length_set ..) (a_lo_set hg hl))
    · cases hs
  case h_12 k =>
    simp only [a_k1, beq_iff_eq] at hk
    subst hk
    unfold a_si at hs
    split at hs
    · rename_i x r
      simp only [Option.some.injEq, Prod.mk.injEq] at hs
      obtain ⟨hg, rfl, rfl, rfl, rfl⟩ := hs
      exact lv_istore hx hb hdg (a_lo_has hlo) (a_pg_lt hg) rfl (fun ls' hl => kk ls' rfl rfl (List.length_set ..) (a_lo_set hg hl))
    · cases hs
  case h_13 k =>
    simp only [a_k1, beq_iff_eq] at hk
    subst hk
    unfold a_sl at hs
    split at hs
    · rename_i x r
      simp only [Option.some.injEq, Prod.mk.injEq] at hs
      obtain ⟨hg, rfl, rfl, rfl, rfl⟩ := hs
      exact lv_lstore_n hx hb hdg rfl (a_lo_has hlo) (a_pg2_lt hg) rfl (fun ls' hl => kk ls' rfl rfl (by rw [List.length_set, List.length_set]) (a_lo_set2 hg hl))
    · cases hs
  case h_14 k =>
    simp only [a_k1, beq_iff_eq] at hk
    subst hk
    unfold a_sa at hs
    split at hs
    · rename_i x r
      simp only [Option.some.injEq, Prod.mk.injEq] at hs
      obtain ⟨hg, rfl, rfl, rfl, rfl⟩ := hs
      exact lv_astore_n hx hb hdg rfl (a_lo_has hlo) (a_pg_lt hg) rfl (fun ls' hl => kk ls' rfl rfl (List.length_set ..) (a_lo_set hg hl))
    · rename_i r
      simp only [Option.some.injEq, Prod.mk.injEq] at hs
      obtain ⟨hg, rfl, rfl, rfl, rfl⟩ := hs
      exact lv_astore_nN hx hb hdg rfl (a_lo_has hlo) (a_pg_lt hg) rfl (fun ls' hl => kk ls' rfl rfl (List.length_set ..) (a_lo_set hg hl))
    · cases hs
  case h_15 k =>
    simp only [a_k1, beq_iff_eq] at hk
    subst hk
    unfold a_sa at hs
    split at hs
    · rename_i x r
      simp only [Option.some.injEq, Prod.mk.injEq] at hs
      obtain ⟨hg, rfl, rfl, rfl, rfl⟩ := hs
      exact lv_astore hx hb hdg (a_lo_has hlo) (a_pg_lt hg) rfl (fun ls' hl => kk ls' rfl rfl (List.length_set ..) (a_lo_set hg hl))
    · rename_i r
      simp only [Option.some.injEq, Prod.mk.injEq] at hs
      obtain ⟨hg, rfl, rfl, rfl, rfl⟩ := hs
      exact lv_astoreN hx hb hdg (a_lo_has hlo) (a_pg_lt hg) rfl (fun ls' hl => kk ls' rfl rfl (List.length_set ..) (a_lo_set hg hl))
    · cases hs
  case h_16 k n =>
    simp only [a_k1, Bool.and_eq_true, beq_iff_eq, decide_eq_true_eq] at hk
    obtain ⟨rfl, hc⟩ := hk
    split at hs
    · rename_i x hv
      simp only [Option.some.injEq, Prod.mk.injEq] at hs
      obtain ⟨hg, rfl, rfl, rfl, rfl⟩ := hs
      obtain ⟨q, hq⟩ := List.getElem?_of_mem (a_asl_of (B := B) (ad := ad) (a_ld_int hv))
      exact lv_iinc hx hb hdg (a_lo_has hlo) hq (by rw [hc]) (a_pg_lt hg) rfl (fun ls' hl => kk ls' rfl rfl (List.length_set ..) (a_lo_set hg hl))
    · cases hs
  case h_17 =>
    simp only [a_k1, beq_iff_eq] at hk
    subst hk
    split at hs
    · cases hs
      exact lv_iadd hx hb hdg (kk ls rfl rfl rfl hlo)
    · cases hs
  case h_18 =>
    simp only [a_k1, beq_iff_eq] at hk
    subst hk
    split at hs
    · cases hs
      exact lv_isub hx hb hdg (kk ls rfl rfl rfl hlo)
    · cases hs
  case h_19 =>
    simp only [a_k1, beq_iff_eq] at hk
    subst hk
    split at hs
    · cases hs
      exact lv_imul hx hb hdg (kk ls rfl rfl rfl hlo)
    · cases hs
  case h_20 =>
    simp only [a_k1, beq_iff_eq] at hk
    subst hk
    split at hs
    · cases hs
      exact lv_iand hx hb hdg (kk ls rfl rfl rfl hlo)
    · cases hs
  case h_21 =>
    simp only [a_k1, beq_iff_eq] at hk
    subst hk
    split at hs
    · cases hs
      exact lv_ior hx hb hdg (kk ls rfl rfl rfl hlo)
    · cases hs
  case h_22 =>
    simp only [a_k1, beq_iff_eq] at hk
    subst hk
    split at hs
    · cases hs
      exact lv_ixor hx hb hdg (kk ls rfl rfl rfl hlo)
    · cases hs
  case h_23 =>
    simp only [a_k1, beq_iff_eq] at hk
    subst hk
    split at hs
    · cases hs
      exact lv_ishl hx hb hdg (kk ls rfl rfl rfl hlo)
    · cases hs
  case h_24 =>
    simp only [a_k1, beq_iff_eq] at hk
    subst hk
    split at hs
    · cases hs
      exact lv_ishr hx hb hdg (kk ls rfl rfl rfl hlo)
    · cases hs
  case h_25 =>
    simp only [a_k1, beq_iff_eq] at hk
    subst hk
    split at hs
    · simp only [Option.some.injEq, Prod.mk.injEq, decide_eq_true_eq] at hs
      obtain ⟨hg, rfl, rfl, rfl, rfl⟩ := hs
      exact lv_idiv hx hb hdg hg (kk ls rfl rfl rfl hlo)
    · cases hs
  case h_26 =>
    simp only [a_k1, beq_iff_eq] at hk
    subst hk
    split at hs
    · simp only [Option.some.injEq, Prod.mk.injEq, decide_eq_true_eq] at hs
      obtain ⟨hg, rfl, rfl, rfl, rfl⟩ := hs
      exact lv_irem hx hb hdg hg (kk ls rfl rfl rfl hlo)
    · cases hs
  case h_27 =>
    simp only [a_k1, beq_iff_eq] at hk
    subst hk
    split at hs
    · cases hs
      exact lv_ineg hx hb hdg (kk ls rfl rfl rfl hlo)
    · cases hs
  case h_28 =>
    simp only [a_k1, beq_iff_eq] at hk
    subst hk
    split at hs
    · cases hs
      exact lv_lor hx hb hdg (kk ls rfl rfl rfl hlo)
    · cases hs
  case h_29 =>
    simp only [a_k1, beq_iff_eq] at hk
    subst hk
    split at hs
    · cases hs
      exact lv_lshl hx hb hdg rfl (kk ls rfl rfl rfl hlo)
    · cases hs
  case h_30 =>
    simp only [a_k1, beq_iff_eq] at hk
    subst hk
    split at hs
    · cases hs
      exact W.lcmp hx hb hdg (kk ls rfl rfl rfl hlo)
    · cases hs
  case h_31 =>
    simp only [a_k1, beq_iff_eq] at hk
    subst hk
    split at hs
    · simp only [Option.some.injEq, Prod.mk.injEq, beq_iff_eq] at hs
      obtain ⟨hg, rfl, rfl, rfl, rfl⟩ := hs
      exact lv_dup hx hb hdg (by rw [a_cv_cat]; exact hg) (kk ls rfl rfl rfl hlo)
    · cases hs
  case h_32 =>
    simp only [a_k1, beq_iff_eq] at hk
    subst hk
    split at hs
    · simp only [Option.some.injEq, Prod.mk.injEq, Bool.and_eq_true, beq_iff_eq] at hs
      obtain ⟨hg, rfl, rfl, rfl, rfl⟩ := hs
      exact lv_dup2_11 hx hb hdg (by rw [a_cv_cat]; exact hg.1) (by rw [a_cv_cat]; exact hg.2) (kk ls rfl rfl rfl hlo)
    · cases hs
  case h_33 =>
    simp only [a_k1, beq_iff_eq] at hk
    subst hk
    split at hs
    · simp only [Option.some.injEq, Prod.mk.injEq, beq_iff_eq] at hs
      obtain ⟨hg, rfl, rfl, rfl, rfl⟩ := hs
      exact lv_pop hx hb hdg (by rw [a_cv_cat]; exact hg) (kk ls rfl rfl rfl hlo)
    · cases hs
  case h_34 => cases hs
end AR
