/-! 10.sound: what our machine computes, the machine does -/
def a_ct (ins : Instr) : Nat := match ins with
  | .iconst _ | .bipush _ | .sipush _ | .lconst _ | .aconst_null | .iload_n _ | .iload _ | .lload_n _ | .aload_n _ | .aload _ | .istore_n _ | .istore _ | .lstore_n _ | .astore_n _ | .astore _ | .iinc _ _ | .iadd | .isub | .imul | .iand | .ior | .ixor | .ishl | .ishr | .idiv | .irem | .ineg | .lor | .lshl | .lcmp | .dup | .dup2 | .pop => 1
  | .goto _ | .if_icmp _ _ | .ifCond _ _ | .ifnull _ | .ifnonnull _ | .tableswitch _ _ _ _ | .lookupswitch _ _ => 2
  | .getfield _ | .putfield _ | .iaload | .iastore | .baload | .bastore | .aaload | .aastore | .arraylength | .new _ | .newarray _ | .anewarray _ | .instanceof _ | .ldc _ | .ldc2_w _ => 3
  | .invokestatic _ | .invokespecial _ | .invokevirtual _ => 4
  | .getstatic _ | .i2c => 5
  | .ireturn | .lreturn | .areturn | .return_ => 6
  | _ => 0
def a_is9 (ins : Instr) (aux : aX) : Bool := match ins, aux with
  | .getfield _, [_, 9] :: _ => true
  | _, _ => false
def a_isc (aux : aX) : Bool := match aux with
  | (_ :: _ :: _) :: _ => true
  | _ => false
/-- a row that is never come to: an instruction that our machine doesn't have, or a call without a link -/
def a_dead (ins : Instr) (aux : aX) : Bool := a_ct ins == 0 || (a_ct ins == 4 && aux.isEmpty)
def a_pf (rows : List aI) (i : Nat) : Nat := match rows[i]? with
  | some r => r.1
  | none => 0
/-- a row of the table is what the bytes and the words say -/
def a_rowok (own : String) (isI : Bool) (P : List aM) (cl : List vw_C) (TB : List Jvm.Cond) (E : String) (NC : List (Bool × String × String)) (SR : List (String × Nat × String × Nat)) (sv : List (String × String × String × Value)) (bs : ByteArray) (rt : Option FieldType) (rows : List aI) (i : Nat) (row : aI) : Bool := match row with
  | (pc, ins, len, cst, aux) => decide (decode bs pc = .ok (ins, len)) && (a_dead ins aux || match a_ct ins with
    | 1 => a_k1 ins len cst && a_pf rows (i + 1) == pc + len
    | 2 => a_k2 ins len aux (a_pf rows) i
    | 3 => (bif a_is9 ins aux then a_k5 own TB sv ins len aux else a_k3 own isI cl TB E NC SR ins len cst aux) && a_pf rows (i + 1) == pc + len
    | 4 => (bif a_isc aux then a_kq own TB cl P ins len aux else a_k4 own TB ins len aux) && a_pf rows (i + 1) == pc + len
    | 5 => a_k5 own TB sv ins len aux && a_pf rows (i + 1) == pc + len
    | 6 => a_k6 rt ins len aux
    | _ => false)
theorem a_isc_ne {aux : aX} (h : a_isc aux = true) : aux.isEmpty = false := by
  unfold a_isc at h
  split at h
  · rfl
  · cases h
theorem a_s1_ct {ins : Instr} {cst : Int32} {aux : aX} {i : Nat} {L : aL} {st : List Value} {h : List aC} {q : aN} (hs : a_s1 ins cst aux i L st h = some q) : a_ct ins = 1 := by
  unfold a_s1 at hs
  split at hs <;> first | rfl | cases hs
theorem a_s2_ct {ins : Instr} {aux : aX} {i : Nat} {L : aL} {st : List Value} {h : List aC} {q : aN} (hs : a_s2 ins aux i L st h = some q) : a_ct ins = 2 := by
  unfold a_s2 at hs
  split at hs <;> first | rfl | cases hs
theorem a_s3_ct {df : List (List Value)} {sc : Nat × (Nat → Int32)} {ins : Instr} {cst : Int32} {aux : aX} {i : Nat} {L : aL} {st : List Value} {h : List aC} {q : aN} (hs : a_s3 df sc ins cst aux i L st h = some q) : a_ct ins = 3 ∧ a_is9 ins aux = false := by
  unfold a_s3 at hs
  split at hs
  · split at hs
    · exact ⟨rfl, rfl⟩
    · cases hs
  all_goals first | exact ⟨rfl, rfl⟩ | cases hs
theorem a_s4_ct {ins : Instr} {aux : aX} {i : Nat} {L : aL} {st : List Value} {h : List aC} {q : aN} (hs : a_s4 ins aux i L st h = some q) : a_ct ins = 4 ∧ a_isc aux = false ∧ aux.isEmpty = false := by
  unfold a_s4 at hs
  split at hs
  · split at hs <;> first | exact ⟨rfl, rfl, rfl⟩ | cases hs
  · split at hs <;> first | exact ⟨rfl, rfl, rfl⟩ | cases hs
  · cases hs
theorem a_s5_ct {tx : List (List Int32)} {sv : List (String × String × String × Value)} {ins : Instr} {aux : aX} {i : Nat} {L : aL} {st : List Value} {h : List aC} {q : aN} (hs : a_s5 tx sv ins aux i L st h = some q) : a_ct ins = 5 ∨ (a_ct ins = 3 ∧ (a_is9 ins aux = true ∨ ins = .arraylength ∨ ins = .baload)) := by
  unfold a_s5 at hs
  split at hs
  · split at hs
    · exact Or.inr ⟨rfl, Or.inl rfl⟩
    · exact Or.inr ⟨rfl, Or.inl rfl⟩
    · cases hs
  · exact Or.inr ⟨rfl, Or.inr (Or.inl rfl)⟩
  · exact Or.inr ⟨rfl, Or.inr (Or.inr rfl)⟩
  · exact Or.inl rfl
  · exact Or.inl rfl
  · cases hs
theorem a_fin_ct {ins : Instr} {aux : aX} {st : List Value} {q : Bool × Option Value} (hs : a_fin ins aux st = some q) : a_ct ins = 6 := by
  unfold a_fin at hs
  split at hs <;> first | rfl | cases hs
theorem a_cal_ct {nt : Nat} {ins : Instr} {aux : aX} {st : List Value} {h : List aC} {q : Nat × List Value × List Value} (hs : a_cal nt ins aux st h = some q) : a_ct ins = 4 ∧ a_isc aux = true := by
  unfold a_cal at hs
  split at hs
  · split at hs <;> first | exact ⟨rfl, rfl⟩ | cases hs
  · split at hs <;> first | exact ⟨rfl, rfl⟩ | cases hs
  · split at hs <;> first | exact ⟨rfl, rfl⟩ | cases hs
  · cases hs
/-- a heap does not become smaller -/
def a_le (h h' : List aC) : Prop := h.length ≤ h'.length ∧ a_hz h ≤ a_hz h'
theorem a_le_rf (h : List aC) : a_le h h := ⟨Nat.le_refl _, Nat.le_refl _⟩
theorem a_le_tr {a b c : List aC} (h1 : a_le a b) (h2 : a_le b c) : a_le a c := ⟨Nat.le_trans h1.1 h2.1, Nat.le_trans h1.2 h2.2⟩
theorem a_le_set {h : List aC} {j : Nat} {x y : aC} (hj : h[j]? = some x) (hxy : a_sz y = a_sz x) : a_le h (h.set j y) := ⟨by rw [List.length_set]; exact Nat.le_refl _, by rw [a_hz_set hj hxy]; exact Nat.le_refl _⟩
theorem a_le_app (h : List aC) (x : aC) : a_le h (h ++ [x]) := ⟨by simp, by rw [a_hz_app]; omega⟩
theorem a_s1_gr {ins : Instr} {cst : Int32} {aux : aX} {i i' : Nat} {L L' : aL} {st st' : List Value} {h h' : List aC} {g : Bool} (hs : a_s1 ins cst aux i L st h = some (g, i', L', st', h')) : h' = h := by
  unfold a_s1 a_li a_ll a_la a_si a_sl a_sa at hs
  split at hs <;> (repeat' (split at hs)) <;> first | (cases hs; done) | (cases hs; rfl) | (simp only [Option.some.injEq, Prod.mk.injEq] at hs; exact hs.2.2.2.2.symm)
theorem a_s2_gr {ins : Instr} {aux : aX} {i i' : Nat} {L L' : aL} {st st' : List Value} {h h' : List aC} {g : Bool} (hs : a_s2 ins aux i L st h = some (g, i', L', st', h')) : h' = h ∧ L' = L := by
  unfold a_s2 at hs
  split at hs <;> (repeat' (split at hs)) <;> first | (cases hs; done) | (cases hs; exact ⟨rfl, rfl⟩)
theorem a_s3_gr {df : List (List Value)} {sc : Nat × (Nat → Int32)} {ins : Instr} {cst : Int32} {aux : aX} {i i' : Nat} {L L' : aL} {st st' : List Value} {h h' : List aC} {g : Bool} (hs : a_s3 df sc ins cst aux i L st h = some (g, i', L', st', h')) : a_le h h' := by
  unfold a_s3 at hs
  split at hs <;> (repeat' (split at hs)) <;> first
    | (cases hs; done)
    | (simp only [Option.some.injEq, Prod.mk.injEq] at hs
       obtain ⟨-, -, -, -, rfl⟩ := hs
       first | exact a_le_rf _ | exact a_le_app _ _ | (exact a_le_set (by assumption) rfl) | (exact a_le_set (by assumption) (by simp [a_sz])))
theorem a_s4_gr {ins : Instr} {aux : aX} {i i' : Nat} {L L' : aL} {st st' : List Value} {h h' : List aC} {g : Bool} (hs : a_s4 ins aux i L st h = some (g, i', L', st', h')) : a_le h h' := by
  unfold a_s4 at hs
  split at hs <;> (repeat' (split at hs)) <;> first
    | (cases hs; done)
    | (simp only [Option.some.injEq, Prod.mk.injEq] at hs
       obtain ⟨-, -, -, -, rfl⟩ := hs
       first | exact a_le_rf _ | (rename_i h1; exact a_le_set h1 rfl))
theorem a_s5_gr {tx : List (List Int32)} {sv : List (String × String × String × Value)} {ins : Instr} {aux : aX} {i i' : Nat} {L L' : aL} {st st' : List Value} {h h' : List aC} {g : Bool} (hs : a_s5 tx sv ins aux i L st h = some (g, i', L', st', h')) : h' = h := by
  unfold a_s5 at hs
  split at hs <;> (repeat' (split at hs)) <;> first | (cases hs; done) | (cases hs; rfl) | (simp only [Option.some.injEq, Prod.mk.injEq] at hs; exact hs.2.2.2.2.symm)
theorem a_bif {α : Type} {g : Bool} {x : Option α} {y : α} (h : (bif g then x else none) = some y) : g = true ∧ x = some y := by
  cases g
  · cases h
  · exact ⟨rfl, h⟩
theorem a_go_gr (P : List aM) (df : List (List Value)) (tx : List (List Int32)) (sv : List (String × String × String × Value)) (sc : Nat × (Nat → Int32)) : ∀ (n d k i : Nat) (L : aL) (st : List Value) (h hf : List aC) (r : Option Value), a_go P df tx sv sc n d k i L st h = some (r, hf) → a_le h hf := by
  intro n
  induction n with
  | zero => intro d k i L st h hf r hg; simp [a_go] at hg
  | succ n ih =>
    intro d k i L st h hf r hg
    simp only [a_go] at hg
    split at hg
    · cases hg
    · split at hg
      · cases hg
      · split at hg
        · obtain ⟨-, hg⟩ := a_bif hg
          cases hg
          exact a_le_rf _
        · split at hg
          · split at hg
            · cases hg
            · split at hg
              · cases hg
              · obtain ⟨-, hg⟩ := a_bif hg
                split at hg
                · rename_i hg1
                  exact a_le_tr (ih _ _ _ _ _ _ _ _ hg1) (ih _ _ _ _ _ _ _ _ hg)
                · cases hg
          · split at hg
            · rename_i hs
              obtain ⟨-, hg⟩ := a_bif hg
              have := a_s1_gr hs
              subst this
              exact ih _ _ _ _ _ _ _ _ hg
            · split at hg
              · rename_i hs
                obtain ⟨-, hg⟩ := a_bif hg
                have := (a_s2_gr hs).1
                subst this
                exact ih _ _ _ _ _ _ _ _ hg
              · split at hg
                · rename_i hs
                  obtain ⟨-, hg⟩ := a_bif hg
                  exact a_le_tr (a_s3_gr hs) (ih _ _ _ _ _ _ _ _ hg)
                · split at hg
                  · rename_i hs
                    obtain ⟨-, hg⟩ := a_bif hg
                    exact a_le_tr (a_s4_gr hs) (ih _ _ _ _ _ _ _ _ hg)
                  · split at hg
                    · rename_i hs
                      obtain ⟨-, hg⟩ := a_bif hg
                      have := a_s5_gr hs
                      subst this
                      exact ih _ _ _ _ _ _ _ _ hg
                    · cases hg
theorem a_args_mem : ∀ (vs : List Value) (i j : Nat) (v : Value), (∀ w ∈ vs, w.category = 1) → vs[j]? = some v → (i + j, v) ∈ lv_args i vs := by
  intro vs
  induction vs with
  | nil => intro i j v _ h; simp at h
  | cons x vs ih =>
    intro i j v hc h
    have hx := hc x List.mem_cons_self
    simp only [lv_args, hx]
    cases j with
    | zero =>
      simp at h
      subst h
      exact List.mem_cons_self
    | succ j =>
      simp at h
      have := ih (i + 1) j v (fun w hw => hc w (List.mem_cons_of_mem _ hw)) h
      rw [show i + (j + 1) = i + 1 + j by omega]
      exact List.mem_cons_of_mem _ this
theorem a_sl_len : ∀ (vs : List Value), (∀ w ∈ vs, w.category = 1) → (lg_sl vs).length = vs.length := by
  intro vs
  induction vs with
  | nil => intro _; rfl
  | cons x vs ih =>
    intro hc
    have hx := hc x List.mem_cons_self
    have := ih (fun w hw => hc w (List.mem_cons_of_mem _ hw))
    unfold lg_sl at this ⊢
    rw [List.flatMap_cons, List.length_append, this]
    simp [hx]
    omega
theorem a_entry {B : Nat} {ad : Nat → Nat} {As : List Value} {ml : Nat} (hl : As.length ≤ ml) (hc : As.all (fun v => v.category == 1) = true) : a_lo B ad ((lg_sl (As.map (a_cv B ad)) ++ List.replicate (ml - (lg_sl (As.map (a_cv B ad))).length) Slot.unset).toArray) (a_ent ml As) ∧ (a_ent ml As).length = ml := by
  have hc1 : ∀ w ∈ As.map (a_cv B ad), w.category = 1 := by
    intro w hw
    obtain ⟨v, hv, rfl⟩ := List.mem_map.mp hw
    rw [a_cv_cat]
    simpa using List.all_eq_true.mp hc v hv
  have hlen := a_sl_len _ hc1
  rw [List.length_map] at hlen
  have hL : (a_ent ml As).length = ml := by simp [a_ent]; omega
  have h0 := lv_entry (As.map (a_cv B ad)) (n := ml) (by rw [hlen]; exact hl)
  refine ⟨⟨?_, fun j v hj => ?_⟩, hL⟩
  · rw [hL]
    exact ⟨h0.1, h0.2.1, fun q hq => by cases hq⟩
  · have hjA : As[j]? = some v := by
      unfold a_ent at hj
      by_cases hjl : j < As.length
      · rw [List.getElem?_append_left (by simpa using hjl), List.getElem?_map] at hj
        cases h9 : As[j]? with
        | none => rw [h9] at hj; cases hj
        | some w => rw [h9] at hj; cases hj; rfl
      · rw [List.getElem?_append_right (by simpa using Nat.le_of_not_lt hjl)] at hj
        rw [List.getElem?_replicate] at hj
        split at hj <;> cases hj
    have := a_args_mem (As.map (a_cv B ad)) 0 j (a_cv B ad v) hc1 (by rw [List.getElem?_map, hjA]; rfl)
    rw [Nat.zero_add] at this
    exact h0.2.2 _ this
