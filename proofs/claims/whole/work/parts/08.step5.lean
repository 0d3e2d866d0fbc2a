/-! 08.step5: String constants and statics; returns -/
/-- what is known of a state at a method's entry, apart from the words -/
def a_wor (B : Nat) (ad : Nat → Nat) (D : va_G) (dA : Nat → ClassId) (cl : List vw_C) (E : String) (NC : List (Bool × String × String)) (SR : List (String × Nat × String × Nat)) (tx : List (List Int32)) (sv : List (String × String × String × Value)) (sc : Nat × (Nat → Int32)) (s : State) : Prop :=
  va_K D cl (a_tys dA E) s ∧ ((∀ q ∈ NC, a_cst q s) ∧ va_AO E s) ∧ (∀ q ∈ SR, vk_R q.1 q.2.1 q.2.2.1 (ad q.2.2.2) s) ∧ (va_X (ad 50) sc.1 sc.2 s s.heap ∧ ad 50 < s.heap.size ∧ ad 50 < B) ∧
  vk_S tx.length (tx.map List.length) tx ad (fun k => ad (100 + k)) (fun q => B ≤ q) s s.heap ∧ (∀ q ∈ sv, va_Z q.1 q.2.1 q.2.2.1 (a_cv B ad q.2.2.2) (fun q => B ≤ q) s s.heap) ∧ ∀ q ∈ sv, ∀ k, q.2.2.2 = .retAddr k → k = 60
theorem a_cst_warm {q : Bool × String × String} {s U : State} (hW : s.WarmedH U.vm) (h : a_cst q s) : a_cst q U := by
  obtain ⟨b, C, T⟩ := q
  cases b
  · exact va_Nc.moved hW.alike h
  · exact va_Nw.warmC hW h
theorem a_cst_same {q : Bool × String × String} {s U : State} (hv : U.vm = s.vm) (h : a_cst q s) : a_cst q U := by
  obtain ⟨b, C, T⟩ := q
  cases b
  · exact va_Nc.moved (by rw [hv]; exact Vm.Alike.refl s.vm) h
  · exact va_Nw.same rfl hv.symm h
theorem a_wor_to {B : Nat} {ad : Nat → Nat} {D : va_G} {dA : Nat → ClassId} {cl : List vw_C} {E : String} {NC : List (Bool × String × String)} {SR : List (String × Nat × String × Nat)} {tx : List (List Int32)} {sv : List (String × String × String × Value)} {sc : Nat × (Nat → Int32)} {s U : State} {H : Heap} {locs : List Loc}
    (h : a_wor B ad D dA cl E NC SR tx sv sc s) (hW : s.WarmedH U.vm) (hU : U.heap = H) (hS : va_S (fun q => B ≤ q) s.heap H locs) : a_wor B ad D dA cl E NC SR tx sv sc U := by
  obtain ⟨h1, h2, h3, ⟨⟨scr, x1, x2, x3, x4, x5⟩, h4b, h4c⟩, h5, h6, h7⟩ := h
  subst hU
  have hq : ∀ a : Nat, a < s.heap.size → ¬ B ≤ a → U.heap[a]? = s.heap[a]? := hS.2.1
  refine ⟨va_K.moved hW.alike h1, ⟨fun q hq => a_cst_warm hW (h2.1 q hq), h2.2.moved hW.alike⟩, fun q hq => (h3 q hq).warm hW, ⟨⟨scr, by rw [hq _ h4b (by omega)]; exact x1, State.isArrayOf_alike hW.alike x2, x3, x4, x5⟩, Nat.lt_of_lt_of_le h4b hS.1, h4c⟩, (h5.kept hq).moved hW.alike, fun q hq2 => ((h6 q hq2).kept hq).moved hW.alike, h7⟩
theorem a_wor_same {B : Nat} {ad : Nat → Nat} {D : va_G} {dA : Nat → ClassId} {cl : List vw_C} {E : String} {NC : List (Bool × String × String)} {SR : List (String × Nat × String × Nat)} {tx : List (List Int32)} {sv : List (String × String × String × Value)} {sc : Nat × (Nat → Int32)} {s U : State}
    (h : a_wor B ad D dA cl E NC SR tx sv sc s) (hv : U.vm = s.vm) (hU : U.heap = s.heap) : a_wor B ad D dA cl E NC SR tx sv sc U := by
  obtain ⟨h1, h2, h3, ⟨⟨scr, x1, x2, x3, x4, x5⟩, h4b, h4c⟩, h5, h6, h7⟩ := h
  have ha : s.vm.Alike U.vm := by rw [hv]; exact Vm.Alike.refl s.vm
  refine ⟨va_K.moved ha h1, ⟨fun q hq => a_cst_same hv (h2.1 q hq), h2.2.moved ha⟩, fun q hq => (h3 q hq).same hv, ⟨⟨scr, by rw [hU]; exact x1, State.isArrayOf_alike ha x2, x3, x4, x5⟩, by rw [hU]; exact h4b, h4c⟩, by rw [hU]; exact h5.moved ha, fun q hq => by rw [hU]; exact (h6 q hq).moved ha, h7⟩
section AH
variable {p : Program} {l : Launch} {e : Env} {R : Room} {s : State} {m : MethodId} {args : Array Value} {below : List Frame} {meth : Method} {c : Code} {H : Heap} {locs : List Loc} {cells slots : Nat} {Q : State → Prop}
variable {cc : ByteArray} {pc : Nat} {ls : Array Slot} {B : Nat} {ad : Nat → Nat} {TB : List Jvm.Cond} {h : List aC} {tx : List (List Int32)} {sv : List (String × String × String × Value)}
theorem a_lenD (tx : List (List Int32)) (k : Nat) : (tx.map List.length).getD k 0 = (tx.getD k []).length := by
  rw [List.getD_eq_getElem?_getD, List.getD_eq_getElem?_getD, List.getElem?_map]
  cases tx[k]? <;> rfl
theorem a_s5_ok (hx : p.tables.exec = Jvm.exec) (hb : c.code = cc) (hts : ∀ w ∈ TB, w.before args s = true) {own : String} (hown : s.vm.findClass own = some m.cls)
    (hE : vk_S tx.length (tx.map List.length) tx ad (fun k => ad (100 + k)) (fun q => B ≤ q) s s.heap) (hsv : ∀ q ∈ sv, va_Z q.1 q.2.1 q.2.2.1 (a_cv B ad q.2.2.2) (fun q => B ≤ q) s s.heap)
    {ins : Instr} {len : Nat} {aux : aX} (hdg : decode cc pc = .ok (ins, len)) (hk : a_k5 own TB sv ins len aux = true) (hS : va_S (fun q => B ≤ q) s.heap H locs)
    {i i' : Nat} {L L' : aL} {st st' : List Value} {h' : List aC} (hs : a_s5 tx sv ins aux i L st h = some (true, i', L', st', h'))
    (kk : i' = i + 1 → L' = L → h' = h → W p l e R s m args below meth c H locs cells slots Q (F0 m (pc + len) ls (st'.map (a_cv B ad)))) :
    W p l e R s m args below meth c H locs cells slots Q (F0 m pc ls (st.map (a_cv B ad))) := by
  unfold a_s5 at hs
  split at hs
  case h_1 ix =>
    simp only [a_k5, Bool.and_eq_true, beq_iff_eq] at hk
    obtain ⟨rfl, hk⟩ := hk
    split at hs
    · rename_i k r r2
      simp only [Option.some.injEq, Prod.mk.injEq, decide_eq_true_eq] at hs
      obtain ⟨hg, rfl, rfl, rfl, rfl⟩ := hs
      split at hk
      · rename_i p1 r3 heq
        simp only [decide_eq_true_eq] at hk
        exact vk_getf hx hb (hE.1 k hg).2.2.1 hS hown (hts _ (List.mem_of_getElem? hk)) (fun _ h9 => h9) hdg (kk rfl rfl rfl)
      · rename_i heq; cases heq
      · cases hk
    · rename_i k r r2
      simp only [Option.some.injEq, Prod.mk.injEq, decide_eq_true_eq] at hs
      obtain ⟨hg, rfl, rfl, rfl, rfl⟩ := hs
      split at hk
      · rename_i heq; cases heq
      · rename_i p1 r3 heq
        simp only [decide_eq_true_eq] at hk
        exact vk_getf hx hb (hE.1 k hg).2.1 hS hown (hts _ (List.mem_of_getElem? hk)) (fun _ h9 => h9) hdg (kk rfl rfl rfl)
      · cases hk
    · cases hs
  case h_2 =>
    simp only [a_k5, beq_iff_eq] at hk
    subst hk
    split at hs
    · rename_i q r
      simp only [Option.some.injEq, Prod.mk.injEq, Bool.and_eq_true, decide_eq_true_eq] at hs
      obtain ⟨hg, rfl, rfl, rfl, rfl⟩ := hs
      have h9 := (hE.1 (q - 100) hg.2).2.2.2
      simp only [show 100 + (q - 100) = q by omega] at h9
      exact va_tlen hx hb h9 hS (by rw [a_lenD]) hdg (kk rfl rfl rfl)
    · cases hs
  case h_3 =>
    simp only [a_k5, beq_iff_eq] at hk
    subst hk
    split at hs
    · rename_i j q r
      simp only [Option.some.injEq, Prod.mk.injEq, Bool.and_eq_true, decide_eq_true_eq] at hs
      obtain ⟨⟨hg, hin⟩, rfl, rfl, rfl, rfl⟩ := hs
      have h9 := (hE.1 (q - 100) hg.2).2.2.2
      simp only [show 100 + (q - 100) = q by omega] at h9
      exact va_tb hx hb h9 hS (by rw [a_lenD]; exact a_in_ok hin) rfl hdg (kk rfl rfl rfl)
    · cases hs
  case h_4 ix =>
    simp only [a_k5, Bool.and_eq_true, beq_iff_eq] at hk
    obtain ⟨rfl, hk⟩ := hk
    split at hs
    · rename_i j r2
      split at hs
      · rename_i C n d v hv
        cases hs
        split at hk
        · rename_i j' p1 r3 heq
          cases heq
          rw [hv] at hk
          simp only [decide_eq_true_eq] at hk
          exact va_gets hx hb (hsv _ (List.mem_of_getElem? hv)) hS hown (hts _ (List.mem_of_getElem? hk)) (fun _ h9 => h9) hdg (kk rfl rfl rfl)
        · cases hk
      · cases hs
    · cases hs
  case h_5 =>
    simp only [a_k5, beq_iff_eq] at hk
    subst hk
    split at hs
    · cases hs
      exact lv_i2c hx hb hdg rfl (kk rfl rfl rfl)
    · cases hs
  case h_6 => cases hs
/-- a return row: its length and the method's return type -/
def a_k6 (rt : Option FieldType) (ins : Instr) (len : Nat) (aux : aX) : Bool := len == 1 && match ins with
  | .ireturn => match aux with
    | [0] :: _ => decide (rt = some .int)
    | [1] :: _ => decide (rt = some .boolean)
    | [2] :: _ => decide (rt = some .byte)
    | [3] :: _ => decide (rt = some .char)
    | _ => false
  | .lreturn => decide (rt = some .long)
  | .areturn => match rt with
    | some (.object _) => true
    | some (.array _) => true
    | _ => false
  | .return_ => decide (rt = none)
  | _ => false
theorem a_fin_ok (hx : p.tables.exec = Jvm.exec) (hb : c.code = cc) {rt : Option FieldType} (hr : meth.sig.returnType = rt) (hlocks : meth.locks = false) {Qc : Array Value → State → Outcome → State → Prop} {free : Addr → Prop}
    {ins : Instr} {len : Nat} {aux : aX} (hdg : decode cc pc = .ok (ins, len)) (hk : a_k6 rt ins len aux = true) {st : List Value} {r : Option Value} (hs : a_fin ins aux st = some (true, r))
    (hq : ∀ t : State, t.heap = H → s.WarmedH t.vm → Qc args s (.returned (r.map (a_cv B ad))) t) (hf : ∀ q ∈ locs, free q.base) : W p l e R s m args below meth c H locs cells slots (MQ below Qc args s cells slots free) (F0 m pc ls (st.map (a_cv B ad))) := by
  subst hr
  simp only [a_k6, Bool.and_eq_true, beq_iff_eq] at hk
  obtain ⟨rfl, hk⟩ := hk
  unfold a_fin at hs
  split at hs
  · split at hs
    · rename_i x r2
      cases hs
      simp only [decide_eq_true_eq] at hk
      exact W.iret hx hb hk hq hf hdg hlocks
    · rename_i x r2
      simp only [Option.some.injEq, Prod.mk.injEq, Bool.or_eq_true, decide_eq_true_eq] at hs
      obtain ⟨h01, rfl⟩ := hs
      simp only [decide_eq_true_eq] at hk
      exact W.zret hx hb hk (by rcases h01 with rfl | rfl <;> decide) hq hf hdg hlocks
    · rename_i x r2
      simp only [Option.some.injEq, Prod.mk.injEq, decide_eq_true_eq] at hs
      obtain ⟨h01, rfl⟩ := hs
      simp only [decide_eq_true_eq] at hk
      exact W.zret hx hb hk (by show Value.int _ = _; rw [h01]) hq hf hdg hlocks
    · rename_i x r2
      simp only [Option.some.injEq, Prod.mk.injEq, decide_eq_true_eq] at hs
      obtain ⟨h01, rfl⟩ := hs
      simp only [decide_eq_true_eq] at hk
      exact W.zret hx hb hk (by show Value.int _ = _; rw [h01]) hq hf hdg hlocks
    · cases hs
  · split at hs
    · cases hs
      simp only [decide_eq_true_eq] at hk
      exact W.lret hx hb hk hq hf hdg hlocks
    · cases hs
  · have hrt : ∃ rt, meth.sig.returnType = some rt ∧ ((∃ n, rt = .object n) ∨ ∃ t, rt = .array t) := by
      cases h9 : meth.sig.returnType with
      | none => rw [h9] at hk; simp at hk
      | some t =>
        rw [h9] at hk
        cases t with
        | object n => exact ⟨_, rfl, Or.inl ⟨n, rfl⟩⟩
        | array n => exact ⟨_, rfl, Or.inr ⟨n, rfl⟩⟩
        | _ => simp at hk
    obtain ⟨t, h1, h2⟩ := hrt
    split at hs
    · cases hs
      exact W.aret hx hb h1 h2 (Or.inr ⟨_, rfl⟩) hq hf hdg hlocks
    · cases hs
      exact W.aret hx hb h1 h2 (Or.inr ⟨_, rfl⟩) hq hf hdg hlocks
    · cases hs
      exact W.aret hx hb h1 h2 (Or.inl rfl) hq hf hdg hlocks
    · cases hs
  · split at hs
    · cases hs
      simp only [decide_eq_true_eq] at hk
      exact W.vret hx hb hk hq hf hdg hlocks
    · cases hs
  · cases hs
end AH
