/-! 20.vlog: reasoning about runs of our machine -/
theorem a_go_mono (P : List aM) (df : List (List Value)) (tx : List (List Int32)) (sv : List (String × String × String × Value)) (sc : Nat × (Nat → Int32)) : ∀ (n n' d d' k i : Nat) (L : aL) (st : List Value) (h : List aC) (q : Option Value × List aC), a_go P df tx sv sc n d k i L st h = some q → n ≤ n' → d ≤ d' → a_go P df tx sv sc n' d' k i L st h = some q := by
  intro n
  induction n with
  | zero => intro n' d d' k i L st h q hg; simp [a_go] at hg
  | succ n ih =>
    intro n' d d' k i L st h q hg hn hd
    obtain ⟨n', rfl⟩ : ∃ z, n' = z + 1 := ⟨n' - 1, by omega⟩
    simp only [a_go] at hg ⊢
    split at hg
    · cases hg
    · rename_i hP
      try rw [hP]
      try simp only at hg ⊢
      split at hg
      · cases hg
      · rename_i hrow
        try rw [hrow]
        try simp only at hg ⊢
        split at hg
        · rename_i hs
          try rw [hs]
          exact hg
        · rename_i hs
          try rw [hs]
          try simp only at hg ⊢
          split at hg
          · rename_i hs2
            try rw [hs2]
            try simp only at hg ⊢
            split at hg
            · cases hg
            · rename_i d0
              obtain ⟨d', rfl⟩ : ∃ z, d' = z + 1 := ⟨d' - 1, by omega⟩
              try simp only at hg ⊢
              split at hg
              · cases hg
              · rename_i hP2
                try rw [hP2]
                try simp only at hg ⊢
                obtain ⟨hb, hg⟩ := a_bif hg
                rw [hb]
                simp only [cond_true]
                split at hg
                · rename_i hg1
                  rw [ih n' _ d' _ _ _ _ _ _ hg1 (by omega) (by omega)]
                  exact ih n' _ (d' + 1) _ _ _ _ _ _ hg (by omega) (by omega)
                · cases hg
          · rename_i hs2
            try rw [hs2]
            try simp only at hg ⊢
            split at hg
            · rename_i hs3
              try rw [hs3]
              try simp only at hg ⊢
              obtain ⟨hb, hg⟩ := a_bif hg
              rw [hb]
              exact ih n' _ d' _ _ _ _ _ _ hg (by omega) hd
            · rename_i hs3
              try rw [hs3]
              try simp only at hg ⊢
              split at hg
              · rename_i hs4
                try rw [hs4]
                try simp only at hg ⊢
                obtain ⟨hb, hg⟩ := a_bif hg
                rw [hb]
                exact ih n' _ d' _ _ _ _ _ _ hg (by omega) hd
              · rename_i hs4
                try rw [hs4]
                try simp only at hg ⊢
                split at hg
                · rename_i hs5
                  try rw [hs5]
                  try simp only at hg ⊢
                  obtain ⟨hb, hg⟩ := a_bif hg
                  rw [hb]
                  exact ih n' _ d' _ _ _ _ _ _ hg (by omega) hd
                · rename_i hs5
                  try rw [hs5]
                  try simp only at hg ⊢
                  split at hg
                  · rename_i hs6
                    try rw [hs6]
                    try simp only at hg ⊢
                    obtain ⟨hb, hg⟩ := a_bif hg
                    rw [hb]
                    exact ih n' _ d' _ _ _ _ _ _ hg (by omega) hd
                  · rename_i hs6
                    try rw [hs6]
                    try simp only at hg ⊢
                    split at hg
                    · rename_i hs7
                      try rw [hs7]
                      try simp only at hg ⊢
                      obtain ⟨hb, hg⟩ := a_bif hg
                      rw [hb]
                      exact ih n' _ d' _ _ _ _ _ _ hg (by omega) hd
                    · cases hg
/-- locals: what is known in the first is so in the second; nothing of two words is new -/
def a_wk : aL → aL → Prop
  | [], [] => True
  | none :: l, o :: l' => (∀ v, o = some v → v.category = 1) ∧ a_wk l l'
  | some v :: l, o :: l' => o = some v ∧ a_wk l l'
  | _, _ => False
theorem a_wk_len : ∀ {L L' : aL}, a_wk L L' → L.length = L'.length := by
  intro L
  induction L with
  | nil => intro L' h; cases L' with
    | nil => rfl
    | cons => exact h.elim
  | cons o L ih => intro L' h; cases L' with
    | nil => cases o <;> exact h.elim
    | cons o' L' => cases o with
      | none => simp [ih h.2]
      | some v => simp [ih h.2]
theorem a_wk_get : ∀ {L L' : aL} {j : Nat} {v : Value}, a_wk L L' → L[j]? = some (some v) → L'[j]? = some (some v) := by
  intro L
  induction L with
  | nil => intro L' j v _ h; simp at h
  | cons o L ih => intro L' j v h hj; cases L' with
    | nil => cases o <;> exact h.elim
    | cons o' L' =>
      cases j with
      | zero =>
        simp at hj
        subst hj
        have := h.1
        subst this
        rfl
      | succ j =>
        simp at hj ⊢
        cases o with
        | none => exact ih h.2 hj
        | some w => exact ih h.2 hj
theorem a_wk_cat : ∀ {L L' : aL} (j : Nat), a_wk L L' → (a_ld L j).category = 1 → (a_ld L' j).category = 1 := by
  intro L
  induction L with
  | nil => intro L' j h hc; cases L' with
    | nil => exact hc
    | cons => exact h.elim
  | cons o L ih => intro L' j h hc; cases L' with
    | nil => cases o <;> exact h.elim
    | cons o' L' =>
      cases j with
      | zero => cases o with
        | none => cases o' with
          | none => rfl
          | some w => exact h.1 w rfl
        | some v =>
          have := h.1
          subst this
          exact hc
      | succ j => cases o with
        | none => exact ih j h.2 hc
        | some v => exact ih j h.2 hc
theorem a_wk_set : ∀ {L L' : aL} (j : Nat) (v : Value), a_wk L L' → a_wk (L.set j (some v)) (L'.set j (some v)) := by
  intro L
  induction L with
  | nil => intro L' j v h; cases L' with
    | nil => exact h
    | cons => exact h.elim
  | cons o L ih => intro L' j v h; cases L' with
    | nil => cases o <;> exact h.elim
    | cons o' L' =>
      cases j with
      | zero => cases o with
        | none => exact ⟨rfl, h.2⟩
        | some w => exact ⟨rfl, h.2⟩
      | succ j => cases o with
        | none => exact ⟨h.1, ih j v h.2⟩
        | some w => exact ⟨h.1, ih j v h.2⟩
theorem a_wk_setN : ∀ {L L' : aL} (j : Nat), a_wk L L' → a_wk (L.set j none) (L'.set j none) := by
  intro L
  induction L with
  | nil => intro L' j h; cases L' with
    | nil => exact h
    | cons => exact h.elim
  | cons o L ih => intro L' j h; cases L' with
    | nil => cases o <;> exact h.elim
    | cons o' L' =>
      cases j with
      | zero => cases o with
        | none => exact ⟨fun v hv => (by cases hv), h.2⟩
        | some w => exact ⟨fun v hv => (by cases hv), h.2⟩
      | succ j => cases o with
        | none => exact ⟨h.1, ih j h.2⟩
        | some w => exact ⟨h.1, ih j h.2⟩
theorem a_wk_ld {L L' : aL} {j : Nat} {v : Value} (h : a_wk L L') (hv : a_ld L j = v) (hn : v ≠ .float 0) : a_ld L' j = v := by
  unfold a_ld at hv ⊢
  cases e : L[j]? with
  | none => rw [e] at hv; exact absurd hv.symm hn
  | some o => cases o with
    | none => rw [e] at hv; exact absurd hv.symm hn
    | some w =>
      rw [e] at hv
      rw [a_wk_get h e]
      exact hv
theorem a_wk_pg {L L' : aL} {j : Nat} (h : a_wk L L') (hg : a_pg L j = true) : a_pg L' j = true := by
  unfold a_pg at hg ⊢
  simp only [Bool.and_eq_true, decide_eq_true_eq, Bool.or_eq_true, beq_iff_eq] at hg ⊢
  exact ⟨by rw [← a_wk_len h]; exact hg.1, hg.2.imp id (fun q => a_wk_cat _ h q)⟩
theorem a_wk_pg2 {L L' : aL} {j : Nat} (h : a_wk L L') (hg : a_pg2 L j = true) : a_pg2 L' j = true := by
  unfold a_pg2 at hg ⊢
  simp only [Bool.and_eq_true, decide_eq_true_eq, Bool.or_eq_true, beq_iff_eq] at hg ⊢
  exact ⟨by rw [← a_wk_len h]; exact hg.1, hg.2.imp id (fun q => a_wk_cat _ h q)⟩
/-- a step with more known locals -/
def a_wkq (q q' : Option aN) : Prop := ∀ (i : Nat) (L : aL) (st : List Value) (h : List aC), q = some (true, i, L, st, h) → ∃ L', q' = some (true, i, L', st, h) ∧ a_wk L L'
theorem a_wk_li {L L' : aL} {j i : Nat} {st : List Value} {h : List aC} (hw : a_wk L L') : a_wkq (a_li L j i st h) (a_li L' j i st h) := by
  intro i1 L1 st1 h1 hq
  unfold a_li at hq ⊢
  split at hq
  · rename_i x hv
    cases hq
    rw [a_wk_ld hw hv (by simp)]
    exact ⟨_, rfl, hw⟩
  · cases hq
theorem a_wk_ll {L L' : aL} {j i : Nat} {st : List Value} {h : List aC} (hw : a_wk L L') : a_wkq (a_ll L j i st h) (a_ll L' j i st h) := by
  intro i1 L1 st1 h1 hq
  unfold a_ll at hq ⊢
  split at hq
  · rename_i x hv
    cases hq
    rw [a_wk_ld hw hv (by simp)]
    exact ⟨_, rfl, hw⟩
  · cases hq
theorem a_wk_la {L L' : aL} {j i : Nat} {st : List Value} {h : List aC} (hw : a_wk L L') : a_wkq (a_la L j i st h) (a_la L' j i st h) := by
  intro i1 L1 st1 h1 hq
  unfold a_la at hq ⊢
  split at hq
  · rename_i x hv
    cases hq
    rw [a_wk_ld hw hv (by simp)]
    exact ⟨_, rfl, hw⟩
  · rename_i x hv
    cases hq
    rw [a_wk_ld hw hv (by simp)]
    exact ⟨_, rfl, hw⟩
  · rename_i hv
    cases hq
    rw [a_wk_ld hw hv (by simp)]
    exact ⟨_, rfl, hw⟩
  · cases hq
theorem a_wk_si {L L' : aL} {j i : Nat} {st : List Value} {h : List aC} (hw : a_wk L L') : a_wkq (a_si L j i st h) (a_si L' j i st h) := by
  intro i1 L1 st1 h1 hq
  unfold a_si at hq ⊢
  split at hq
  · simp only [Option.some.injEq, Prod.mk.injEq] at hq
    obtain ⟨hg, rfl, rfl, rfl, rfl⟩ := hq
    exact ⟨_, by rw [a_wk_pg hw hg], a_wk_set _ _ hw⟩
  · cases hq
theorem a_wk_sl {L L' : aL} {j i : Nat} {st : List Value} {h : List aC} (hw : a_wk L L') : a_wkq (a_sl L j i st h) (a_sl L' j i st h) := by
  intro i1 L1 st1 h1 hq
  unfold a_sl at hq ⊢
  split at hq
  · simp only [Option.some.injEq, Prod.mk.injEq] at hq
    obtain ⟨hg, rfl, rfl, rfl, rfl⟩ := hq
    exact ⟨_, by rw [a_wk_pg2 hw hg], a_wk_setN _ (a_wk_set _ _ hw)⟩
  · cases hq
theorem a_wk_sa {L L' : aL} {j i : Nat} {st : List Value} {h : List aC} (hw : a_wk L L') : a_wkq (a_sa L j i st h) (a_sa L' j i st h) := by
  intro i1 L1 st1 h1 hq
  unfold a_sa at hq ⊢
  split at hq
  · simp only [Option.some.injEq, Prod.mk.injEq] at hq
    obtain ⟨hg, rfl, rfl, rfl, rfl⟩ := hq
    exact ⟨_, by rw [a_wk_pg hw hg], a_wk_set _ _ hw⟩
  · simp only [Option.some.injEq, Prod.mk.injEq] at hq
    obtain ⟨hg, rfl, rfl, rfl, rfl⟩ := hq
    exact ⟨_, by rw [a_wk_pg hw hg], a_wk_set _ _ hw⟩
  · cases hq
theorem a_wk_s1 {ins : Instr} {cst : Int32} {aux : aX} {L L' : aL} {i : Nat} {st : List Value} {h : List aC} (hw : a_wk L L') : a_wkq (a_s1 ins cst aux i L st h) (a_s1 ins cst aux i L' st h) := by
  unfold a_s1
  split
  case h_6 => exact a_wk_li hw
  case h_7 => exact a_wk_li hw
  case h_8 => exact a_wk_ll hw
  case h_9 => exact a_wk_la hw
  case h_10 => exact a_wk_la hw
  case h_11 => exact a_wk_si hw
  case h_12 => exact a_wk_si hw
  case h_13 => exact a_wk_sl hw
  case h_14 => exact a_wk_sa hw
  case h_15 => exact a_wk_sa hw
  case h_16 =>
    intro i1 L1 st1 h1 hq
    split at hq
    · rename_i x hv
      simp only [Option.some.injEq, Prod.mk.injEq] at hq
      obtain ⟨hg, rfl, rfl, rfl, rfl⟩ := hq
      rw [a_wk_ld hw hv (by simp)]
      exact ⟨_, by rw [a_wk_pg hw hg], a_wk_set _ _ hw⟩
    · cases hq
  all_goals
    intro i1 L1 st1 h1 hq
    first
      | (cases hq; done)
      | (cases hq; exact ⟨_, rfl, hw⟩)
      | (split at hq <;> first | (cases hq; done) | (cases hq; exact ⟨_, rfl, hw⟩) | (simp only [Option.some.injEq, Prod.mk.injEq] at hq; obtain ⟨hg, rfl, rfl, rfl, rfl⟩ := hq; exact ⟨_, by rw [hg], hw⟩))
/-- a step that does not look at the locals -/
theorem a_wk_map {q : aL → Option aN} (hq : ∀ L, q L = (q []).map (fun z => (z.1, z.2.1, L, z.2.2.2.1, z.2.2.2.2))) {L L' : aL} (hw : a_wk L L') : a_wkq (q L) (q L') := by
  intro i1 L1 st1 h1 he
  rw [hq] at he
  rw [hq L']
  cases e : q [] with
  | none => rw [e] at he; cases he
  | some z =>
    rw [e] at he
    obtain ⟨z1, z2, z3, z4, z5⟩ := z
    simp only [Option.map_some, Option.some.injEq, Prod.mk.injEq] at he
    obtain ⟨rfl, rfl, rfl, rfl, rfl⟩ := he
    exact ⟨L', rfl, hw⟩
theorem a_s2_L (ins : Instr) (aux : aX) (i : Nat) (st : List Value) (h : List aC) (L : aL) : a_s2 ins aux i L st h = (a_s2 ins aux i [] st h).map (fun z => (z.1, z.2.1, L, z.2.2.2.1, z.2.2.2.2)) := by
  unfold a_s2
  split <;> (repeat' split) <;> rfl
theorem a_s3_L (df : List (List Value)) (sc : Nat × (Nat → Int32)) (ins : Instr) (cst : Int32) (aux : aX) (i : Nat) (st : List Value) (h : List aC) (L : aL) : a_s3 df sc ins cst aux i L st h = (a_s3 df sc ins cst aux i [] st h).map (fun z => (z.1, z.2.1, L, z.2.2.2.1, z.2.2.2.2)) := by
  unfold a_s3
  split <;> (repeat' split) <;> rfl
theorem a_s4_L (ins : Instr) (aux : aX) (i : Nat) (st : List Value) (h : List aC) (L : aL) : a_s4 ins aux i L st h = (a_s4 ins aux i [] st h).map (fun z => (z.1, z.2.1, L, z.2.2.2.1, z.2.2.2.2)) := by
  unfold a_s4
  split <;> (repeat' split) <;> rfl
theorem a_s5_L (tx : List (List Int32)) (sv : List (String × String × String × Value)) (ins : Instr) (aux : aX) (i : Nat) (st : List Value) (h : List aC) (L : aL) : a_s5 tx sv ins aux i L st h = (a_s5 tx sv ins aux i [] st h).map (fun z => (z.1, z.2.1, L, z.2.2.2.1, z.2.2.2.2)) := by
  unfold a_s5
  split <;> (repeat' split) <;> rfl
theorem a_s1_ex {ins : Instr} {cst : Int32} {aux : aX} {L L' : aL} {i : Nat} {st : List Value} {h : List aC} (hw : a_ct ins ≠ 1) : a_s1 ins cst aux i L' st h = none := by
  cases e : a_s1 ins cst aux i L' st h with
  | none => rfl
  | some q => exact absurd (a_s1_ct e) hw
theorem a_map_none {q : aL → Option aN} (hq : ∀ L, q L = (q []).map (fun z => (z.1, z.2.1, L, z.2.2.2.1, z.2.2.2.2))) {L L' : aL} (h : q L = none) : q L' = none := by
  rw [hq] at h ⊢
  cases e : q [] with
  | none => rfl
  | some z => rw [e] at h; cases h
theorem a_go_wk (P : List aM) (df : List (List Value)) (tx : List (List Int32)) (sv : List (String × String × String × Value)) (sc : Nat × (Nat → Int32)) : ∀ (n d k i : Nat) (L L' : aL) (st : List Value) (h : List aC) (q : Option Value × List aC), a_wk L L' → a_go P df tx sv sc n d k i L st h = some q → a_go P df tx sv sc n d k i L' st h = some q := by
  intro n
  induction n with
  | zero => intro d k i L L' st h q hw hg; simp [a_go] at hg
  | succ n ih =>
    intro d k i L L' st h q hw hg
    simp only [a_go] at hg ⊢
    cases hP : P[k]? with
    | none => rw [hP] at hg; cases hg
    | some mm =>
      obtain ⟨my, mb, mml, mrt, mrows⟩ := mm
      rw [hP] at hg
      simp only at hg ⊢
      cases hrow : mrows[i]? with
      | none => rw [hrow] at hg; cases hg
      | some row =>
        obtain ⟨pc, ins, len, cst, aux⟩ := row
        rw [hrow] at hg
        simp only at hg ⊢
        cases hf : a_fin ins aux st with
        | some r => rw [hf] at hg; exact hg
        | none =>
          rw [hf] at hg
          simp only at hg ⊢
          cases hc : a_cal tx.length ins aux st h with
          | some r =>
            obtain ⟨k', As, rest⟩ := r
            rw [hc] at hg
            simp only at hg ⊢
            cases d with
            | zero => cases hg
            | succ d =>
              simp only at hg ⊢
              cases hP2 : P[k']? with
              | none => rw [hP2] at hg; cases hg
              | some m2 =>
                obtain ⟨y2, b2, ml2, rt2, rows2⟩ := m2
                rw [hP2] at hg
                simp only at hg ⊢
                obtain ⟨hb, hg⟩ := a_bif hg
                rw [hb]
                simp only [cond_true]
                cases hg1 : a_go P df tx sv sc n d k' 0 (a_ent ml2 As) [] h with
                | none => rw [hg1] at hg; cases hg
                | some z =>
                  obtain ⟨rv, h1⟩ := z
                  rw [hg1] at hg
                  exact ih _ _ _ _ _ _ _ _ hw hg
          | none =>
            rw [hc] at hg
            simp only at hg ⊢
            cases h1 : a_s1 ins cst aux i L st h with
            | some z =>
              obtain ⟨g, i', L1, st1, h1'⟩ := z
              rw [h1] at hg
              simp only at hg
              obtain ⟨hb, hg⟩ := a_bif hg
              subst hb
              obtain ⟨L2, e2, hw2⟩ := a_wk_s1 (L' := L') hw _ _ _ _ h1
              rw [e2]
              exact ih _ _ _ _ _ _ _ _ hw2 hg
            | none =>
              rw [h1] at hg
              simp only at hg
              cases h2 : a_s2 ins aux i L st h with
              | some z =>
                obtain ⟨g, i', L1, st1, h1'⟩ := z
                rw [h2] at hg
                simp only at hg
                obtain ⟨hb, hg⟩ := a_bif hg
                subst hb
                rw [a_s1_ex (L := L) (by rw [a_s2_ct h2]; decide)]
                obtain ⟨L2, e2, hw2⟩ := a_wk_map (q := fun L => a_s2 ins aux i L st h) (a_s2_L ins aux i st h) hw _ _ _ _ h2
                simp only at e2 ⊢
                rw [e2]
                exact ih _ _ _ _ _ _ _ _ hw2 hg
              | none =>
                rw [h2] at hg
                simp only at hg
                have h2' := a_map_none (q := fun L => a_s2 ins aux i L st h) (a_s2_L ins aux i st h) (L' := L') h2
                cases h3 : a_s3 df sc ins cst aux i L st h with
                | some z =>
                  obtain ⟨g, i', L1, st1, h1'⟩ := z
                  rw [h3] at hg
                  simp only at hg
                  obtain ⟨hb, hg⟩ := a_bif hg
                  subst hb
                  rw [a_s1_ex (L := L) (by rw [(a_s3_ct h3).1]; decide)]
                  obtain ⟨L2, e2, hw2⟩ := a_wk_map (q := fun L => a_s3 df sc ins cst aux i L st h) (a_s3_L df sc ins cst aux i st h) hw _ _ _ _ h3
                  simp only at e2 h2' ⊢
                  rw [h2', e2]
                  exact ih _ _ _ _ _ _ _ _ hw2 hg
                | none =>
                  rw [h3] at hg
                  simp only at hg
                  have h3' := a_map_none (q := fun L => a_s3 df sc ins cst aux i L st h) (a_s3_L df sc ins cst aux i st h) (L' := L') h3
                  cases h4 : a_s4 ins aux i L st h with
                  | some z =>
                    obtain ⟨g, i', L1, st1, h1'⟩ := z
                    rw [h4] at hg
                    simp only at hg
                    obtain ⟨hb, hg⟩ := a_bif hg
                    subst hb
                    rw [a_s1_ex (L := L) (by rw [(a_s4_ct h4).1]; decide)]
                    obtain ⟨L2, e2, hw2⟩ := a_wk_map (q := fun L => a_s4 ins aux i L st h) (a_s4_L ins aux i st h) hw _ _ _ _ h4
                    simp only at e2 h2' h3' ⊢
                    rw [h2', h3', e2]
                    exact ih _ _ _ _ _ _ _ _ hw2 hg
                  | none =>
                    rw [h4] at hg
                    simp only at hg
                    have h4' := a_map_none (q := fun L => a_s4 ins aux i L st h) (a_s4_L ins aux i st h) (L' := L') h4
                    cases h5 : a_s5 tx sv ins aux i L st h with
                    | none => rw [h5] at hg; cases hg
                    | some z =>
                      obtain ⟨g, i', L1, st1, h1'⟩ := z
                      rw [h5] at hg
                      simp only at hg
                      obtain ⟨hb, hg⟩ := a_bif hg
                      subst hb
                      rw [a_s1_ex (L := L) (by rcases a_s5_ct h5 with q | ⟨q, -⟩ <;> rw [q] <;> decide)]
                      obtain ⟨L2, e2, hw2⟩ := a_wk_map (q := fun L => a_s5 tx sv ins aux i L st h) (a_s5_L tx sv ins aux i st h) hw _ _ _ _ h5
                      simp only at e2 h2' h3' h4' ⊢
                      rw [h2', h3', h4', e2]
                      exact ih _ _ _ _ _ _ _ _ hw2 hg
/-- the run from here comes to an end with Q -/
def v_V (fz : Value) (sc : Nat × (Nat → Int32)) (d k i : Nat) (L : aL) (st : List Value) (h : List aC) (Q : Option Value → List aC → Prop) : Prop := ∃ (n : Nat) (r : Option Value) (h' : List aC), a_go a_P a_df a_tx (a_sv fz) sc n d k i L st h = some (r, h') ∧ Q r h'
section VL
variable {fz : Value} {sc : Nat × (Nat → Int32)} {d k i : Nat} {L : aL} {st : List Value} {h : List aC} {Q : Option Value → List aC → Prop}
theorem v_deep {d' : Nat} (hd : d ≤ d') (hv : v_V fz sc d k i L st h Q) : v_V fz sc d' k i L st h Q := by
  obtain ⟨n, r, h', h1, h2⟩ := hv
  exact ⟨n, r, h', a_go_mono _ _ _ _ _ n n d d' k i L st h _ h1 (Nat.le_refl _) hd, h2⟩
theorem v_post {Q' : Option Value → List aC → Prop} (hv : v_V fz sc d k i L st h Q) (hq : ∀ r h', Q r h' → Q' r h') : v_V fz sc d k i L st h Q' := by
  obtain ⟨n, r, h', h1, h2⟩ := hv
  exact ⟨n, r, h', h1, hq r h' h2⟩
theorem v_weak {L' : aL} (hw : a_wk L' L) (hv : v_V fz sc d k i L' st h Q) : v_V fz sc d k i L st h Q := by
  obtain ⟨n, r, h', h1, h2⟩ := hv
  exact ⟨n, r, h', a_go_wk _ _ _ _ _ n d k i L' L st h _ hw h1, h2⟩
/-- c steps at once -/
theorem v_blk (c : Nat) {i' : Nat} {L' : aL} {st' : List Value} {h' : List aC} (hg : ∀ n, a_go a_P a_df a_tx (a_sv fz) sc (n + c) d k i L st h = a_go a_P a_df a_tx (a_sv fz) sc n d k i' L' st' h') (hv : v_V fz sc d k i' L' st' h' Q) : v_V fz sc d k i L st h Q := by
  obtain ⟨n, r, h2, h1, hq⟩ := hv
  exact ⟨n + c, r, h2, (hg n).trans h1, hq⟩
/-- c steps at once, the last one guarded -/
theorem v_grd (c : Nat) {g : Bool} {i' : Nat} {L' : aL} {st' : List Value} {h' : List aC} (hg : ∀ n, a_go a_P a_df a_tx (a_sv fz) sc (n + c) d k i L st h = bif g then a_go a_P a_df a_tx (a_sv fz) sc n d k i' L' st' h' else none) (ht : g = true) (hv : v_V fz sc d k i' L' st' h' Q) : v_V fz sc d k i L st h Q := by
  obtain ⟨n, r, h2, h1, hq⟩ := hv
  refine ⟨n + c, r, h2, ?_, hq⟩
  rw [hg, ht]
  exact h1
/-- c steps, the last a return -/
theorem v_ret (c : Nat) {r : Option Value} {h' : List aC} (hg : ∀ n, a_go a_P a_df a_tx (a_sv fz) sc (n + c) d k i L st h = some (r, h')) (hq : Q r h') : v_V fz sc d k i L st h Q := ⟨c, r, h', by simpa using hg 0, hq⟩
theorem v_retg (c : Nat) {g : Bool} {r : Option Value} {h' : List aC} (hg : ∀ n, a_go a_P a_df a_tx (a_sv fz) sc (n + c) d k i L st h = bif g then some (r, h') else none) (ht : g = true) (hq : Q r h') : v_V fz sc d k i L st h Q := ⟨c, r, h', by have := hg 0; rw [ht] at this; simpa using this, hq⟩
/-- c steps, the last a call -/
theorem v_call (c : Nat) {k' i' : Nat} {E L' : aL} {rest : List Value} {h1 : List aC} (hg : ∀ n, a_go a_P a_df a_tx (a_sv fz) sc (n + c) (d + 1) k i L st h = match a_go a_P a_df a_tx (a_sv fz) sc n d k' 0 E [] h1 with
    | some (rv, h') => a_go a_P a_df a_tx (a_sv fz) sc n (d + 1) k i' L' (rv.toList ++ rest) h'
    | none => none) (hv : v_V fz sc d k' 0 E [] h1 (fun rv h' => v_V fz sc (d + 1) k i' L' (rv.toList ++ rest) h' Q)) : v_V fz sc (d + 1) k i L st h Q := by
  obtain ⟨n1, rv, h', e1, n2, r, h2, e2, hq⟩ := hv
  refine ⟨max n1 n2 + c, r, h2, ?_, hq⟩
  rw [hg, a_go_mono _ _ _ _ _ n1 (max n1 n2) d d _ _ _ _ _ _ e1 (Nat.le_max_left _ _) (Nat.le_refl _)]
  exact a_go_mono _ _ _ _ _ n2 (max n1 n2) _ _ _ _ _ _ _ _ e2 (Nat.le_max_right _ _) (Nat.le_refl _)
theorem v_br {b : Bool} {i1 i2 : Nat} (h1 : b = true → v_V fz sc d k i1 L st h Q) (h2 : b = false → v_V fz sc d k i2 L st h Q) : v_V fz sc d k (bif b then i1 else i2) L st h Q := by
  cases b
  · exact h2 rfl
  · exact h1 rfl
end VL
