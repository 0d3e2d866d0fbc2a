/-! 31.mpre: rules for the theorems on mirrored functions; the two methods of String -/
theorem a_bt {α : Type} {b : Bool} {x y z : α} (hb : b = true) (h : (bif b then x else y) = z) : x = z := by
  rw [hb] at h
  exact h
theorem a_be {α : Type} {b : Bool} {x y z : α} (hb : b = false) (h : (bif b then x else y) = z) : y = z := by
  rw [hb] at h
  exact h
section MP
variable {fz : Value} {sc : Nat × (Nat → Int32)} {d k : Nat} {L : aL} {st : List Value} {h : List aC} {Q : Option Value → List aC → Prop}
theorem v_it {b : Bool} {i1 i2 : Nat} (hb : b = true) (hv : v_V fz sc d k i1 L st h Q) : v_V fz sc d k (bif b then i1 else i2) L st h Q := by
  rw [hb]
  exact hv
theorem v_ie {b : Bool} {i1 i2 : Nat} (hb : b = false) (hv : v_V fz sc d k i2 L st h Q) : v_V fz sc d k (bif b then i1 else i2) L st h Q := by
  rw [hb]
  exact hv
theorem v_cs {i ml n kk ml2 w ix len pc : Nat} {cst : Int32} {y y2 : MethodName} {bs bs2 : ByteArray} {rt rt2 : Option FieldType} {rows rows2 : List aI} {tl : aX} {E : aL} {rest : List Value} (hP : a_P[k]? = some (y, bs, ml, rt, rows)) (hrow : rows[i]? = some (pc, .invokevirtual ix, len, cst, [5, kk, n] :: tl)) (hst : st.drop n = .retAddr w :: rest) (hw : w < 8) (hP2 : a_P[kk]? = some (y2, bs2, ml2, rt2, rows2)) (hck : (decide ((rest.map fun v => v.category).sum ≤ 8) && decide ((Value.retAddr w :: (st.take n).reverse).length ≤ ml2) && (Value.retAddr w :: (st.take n).reverse).all (fun v => v.category == 1)) = true) (hE : a_ent ml2 (Value.retAddr w :: (st.take n).reverse) = E)
    (hv : v_V fz sc d kk 0 E [] h (fun rv h' => v_V fz sc (d + 1) k (i + 1) L (rv.toList ++ rest) h' Q)) : v_V fz sc (d + 1) k i L st h Q := by
  have hc : a_cal a_tx.length (.invokevirtual ix) ([5, kk, n] :: tl) st h = some (kk, .retAddr w :: (st.take n).reverse, rest) := by
    simp only [a_cal, hst]
    rw [if_pos (show w < a_tx.length from hw)]
  refine v_call 1 (k' := kk) (i' := i + 1) (E := E) (L' := L) (rest := rest) (h1 := h) (fun q => ?_) hv
  simp only [a_go, hP, hrow, a_fin, hc, hP2]
  rw [hck, hE]
  rfl
theorem v_ii {i s len pc : Nat} {z : Int} {cst x x' : Int32} {y : MethodName} {bs : ByteArray} {ml : Nat} {rt : Option FieldType} {rows : List aI} {tl : aX} {L' : aL} (hP : a_P[k]? = some (y, bs, ml, rt, rows)) (hrow : rows[i]? = some (pc, .iinc s z, len, cst, tl)) (hL : a_ld L s = .int x) (hg : a_pg L s = true) (hy : x + cst = x') (hL' : L.set s (some (.int x')) = L') (hv : v_V fz sc d k (i + 1) L' st h Q) : v_V fz sc d k i L st h Q := by
  refine v_blk 1 (fun n => ?_) hv
  simp only [a_go, hP, hrow, a_fin, a_cal, a_s1, hL]
  rw [hg, hy, hL']
  rfl
theorem t_len_lt {w : Nat} {x : Int32} (hc : t_len w = some x) : w < 8 := by
  unfold t_len at hc
  split at hc
  · assumption
  · cases hc
theorem t_chr_lt {w : Nat} {j x : Int32} (hc : t_chr w j = some x) : w < 8 := by
  unfold t_chr at hc
  split at hc
  · assumption
  · cases hc
theorem m_bd_ok {α β : Type} {o : Option (α × mS)} {f : α → mS → Option β} {q : β} (hf : m_bd o f = some q) : ∃ (r : α) (A : mS), o = some (r, A) ∧ f r A = some q := by
  cases o with
  | none => cases hf
  | some z => exact ⟨z.1, z.2, rfl, hf⟩
theorem m_st_ok {β : Type} {x : mS} {f : mS → Option β} {q : β} (hf : m_st x f = some q) : ∃ A : mS, x = A ∧ f A = some q := ⟨x, rfl, hf⟩
theorem m_li_ok {β : Type} {x : Int32} {f : Int32 → Option β} {q : β} (hf : m_li x f = some q) : ∃ y : Int32, x = y ∧ f y = some q := ⟨x, rfl, hf⟩
theorem m_rt {α : Type} {a r : α} {A A' : mS} (h : some (a, A) = some (r, A')) : r = a ∧ A' = A := ⟨(congrArg Prod.fst (Option.some.inj h)).symm, (congrArg Prod.snd (Option.some.inj h)).symm⟩
theorem m_bs_ok {β : Type} {o : Option Int32} {f : Int32 → Option β} {q : β} (hf : m_bs o f = some q) : ∃ r : Int32, o = some r ∧ f r = some q := by
  cases o with
  | none => cases hf
  | some z => exact ⟨z, rfl, hf⟩

set_option maxRecDepth 100000 in
theorem t_len_ok {w : Nat} {x : Int32} (hfz : fz = .null ∨ fz = .retAddr 60) (hd : 5 ≤ d) (hc : t_len w = some x) : v_V fz sc d 182 0 [some (.retAddr w)] [] h (fun rv h' => rv = some (.int x) ∧ h' = h) := by
  obtain ⟨d, rfl⟩ : ∃ z, d = z + 5 := ⟨d - 5, by omega⟩
  have hw : w < 8 := by
    unfold t_len at hc
    split at hc
    · assumption
    · cases hc
  rcases (show w = 0 ∨ w = 1 ∨ w = 2 ∨ w = 3 ∨ w = 4 ∨ w = 5 ∨ w = 6 ∨ w = 7 by omega) with rfl | rfl | rfl | rfl | rfl | rfl | rfl | rfl
  · have hx : x = 5 := Option.some.inj (hc.symm.trans (by decide +kernel))
    subst hx
    exact ⟨60, _, _, rfl, rfl, rfl⟩
  · have hx : x = 5 := Option.some.inj (hc.symm.trans (by decide +kernel))
    subst hx
    exact ⟨60, _, _, rfl, rfl, rfl⟩
  · have hx : x = 5 := Option.some.inj (hc.symm.trans (by decide +kernel))
    subst hx
    exact ⟨60, _, _, rfl, rfl, rfl⟩
  · have hx : x = 6 := Option.some.inj (hc.symm.trans (by decide +kernel))
    subst hx
    exact ⟨60, _, _, rfl, rfl, rfl⟩
  · have hx : x = 1 := Option.some.inj (hc.symm.trans (by decide +kernel))
    subst hx
    exact ⟨60, _, _, rfl, rfl, rfl⟩
  · have hx : x = 1 := Option.some.inj (hc.symm.trans (by decide +kernel))
    subst hx
    exact ⟨60, _, _, rfl, rfl, rfl⟩
  · have hx : x = 5 := Option.some.inj (hc.symm.trans (by decide +kernel))
    subst hx
    exact ⟨60, _, _, rfl, rfl, rfl⟩
  · have hx : x = 3 := Option.some.inj (hc.symm.trans (by decide +kernel))
    subst hx
    exact ⟨60, _, _, rfl, rfl, rfl⟩

set_option maxRecDepth 100000 in
theorem t_chr_ok {w : Nat} {j x : Int32} (hfz : fz = .null ∨ fz = .retAddr 60) (hd : 5 ≤ d) (hc : t_chr w j = some x) : v_V fz sc d 183 0 [some (.retAddr w), some (.int j)] [] h (fun rv h' => rv = some (.int x) ∧ h' = h) := by
  obtain ⟨d, rfl⟩ : ∃ z, d = z + 5 := ⟨d - 5, by omega⟩
  have hw : w < 8 := by
    unfold t_chr at hc
    split at hc
    · assumption
    · cases hc
  rcases hfz with rfl | rfl
  · rcases (show w = 0 ∨ w = 1 ∨ w = 2 ∨ w = 3 ∨ w = 4 ∨ w = 5 ∨ w = 6 ∨ w = 7 by omega) with rfl | rfl | rfl | rfl | rfl | rfl | rfl | rfl
    · have hin : vp_in j 5 := a_in_ok (by unfold t_chr at hc; rw [if_pos (by decide)] at hc; exact (a_bif hc).1)
      obtain ⟨q, hq, rfl⟩ := vp_in_of hin (by decide)
      rcases (show q = 0 ∨ q = 1 ∨ q = 2 ∨ q = 3 ∨ q = 4 by omega) with rfl | rfl | rfl | rfl | rfl
      · have hx : x = 104 := Option.some.inj (hc.symm.trans (by decide +kernel))
        subst hx
        exact ⟨90, _, _, rfl, rfl, rfl⟩
      · have hx : x = 97 := Option.some.inj (hc.symm.trans (by decide +kernel))
        subst hx
        exact ⟨90, _, _, rfl, rfl, rfl⟩
      · have hx : x = 114 := Option.some.inj (hc.symm.trans (by decide +kernel))
        subst hx
        exact ⟨90, _, _, rfl, rfl, rfl⟩
      · have hx : x = 109 := Option.some.inj (hc.symm.trans (by decide +kernel))
        subst hx
        exact ⟨90, _, _, rfl, rfl, rfl⟩
      · have hx : x = 32 := Option.some.inj (hc.symm.trans (by decide +kernel))
        subst hx
        exact ⟨90, _, _, rfl, rfl, rfl⟩
    · have hin : vp_in j 5 := a_in_ok (by unfold t_chr at hc; rw [if_pos (by decide)] at hc; exact (a_bif hc).1)
      obtain ⟨q, hq, rfl⟩ := vp_in_of hin (by decide)
      rcases (show q = 0 ∨ q = 1 ∨ q = 2 ∨ q = 3 ∨ q = 4 by omega) with rfl | rfl | rfl | rfl | rfl
      · have hx : x = 114 := Option.some.inj (hc.symm.trans (by decide +kernel))
        subst hx
        exact ⟨90, _, _, rfl, rfl, rfl⟩
      · have hx : x = 117 := Option.some.inj (hc.symm.trans (by decide +kernel))
        subst hx
        exact ⟨90, _, _, rfl, rfl, rfl⟩
      · have hx : x = 108 := Option.some.inj (hc.symm.trans (by decide +kernel))
        subst hx
        exact ⟨90, _, _, rfl, rfl, rfl⟩
      · have hx : x = 101 := Option.some.inj (hc.symm.trans (by decide +kernel))
        subst hx
        exact ⟨90, _, _, rfl, rfl, rfl⟩
      · have hx : x = 32 := Option.some.inj (hc.symm.trans (by decide +kernel))
        subst hx
        exact ⟨90, _, _, rfl, rfl, rfl⟩
    · have hin : vp_in j 5 := a_in_ok (by unfold t_chr at hc; rw [if_pos (by decide)] at hc; exact (a_bif hc).1)
      obtain ⟨q, hq, rfl⟩ := vp_in_of hin (by decide)
      rcases (show q = 0 ∨ q = 1 ∨ q = 2 ∨ q = 3 ∨ q = 4 by omega) with rfl | rfl | rfl | rfl | rfl
      · have hx : x = 103 := Option.some.inj (hc.symm.trans (by decide +kernel))
        subst hx
        exact ⟨90, _, _, rfl, rfl, rfl⟩
      · have hx : x = 105 := Option.some.inj (hc.symm.trans (by decide +kernel))
        subst hx
        exact ⟨90, _, _, rfl, rfl, rfl⟩
      · have hx : x = 102 := Option.some.inj (hc.symm.trans (by decide +kernel))
        subst hx
        exact ⟨90, _, _, rfl, rfl, rfl⟩
      · have hx : x = 116 := Option.some.inj (hc.symm.trans (by decide +kernel))
        subst hx
        exact ⟨90, _, _, rfl, rfl, rfl⟩
      · have hx : x = 32 := Option.some.inj (hc.symm.trans (by decide +kernel))
        subst hx
        exact ⟨90, _, _, rfl, rfl, rfl⟩
    · have hin : vp_in j 6 := a_in_ok (by unfold t_chr at hc; rw [if_pos (by decide)] at hc; exact (a_bif hc).1)
      obtain ⟨q, hq, rfl⟩ := vp_in_of hin (by decide)
      rcases (show q = 0 ∨ q = 1 ∨ q = 2 ∨ q = 3 ∨ q = 4 ∨ q = 5 by omega) with rfl | rfl | rfl | rfl | rfl | rfl
      · have hx : x = 119 := Option.some.inj (hc.symm.trans (by decide +kernel))
        subst hx
        exact ⟨90, _, _, rfl, rfl, rfl⟩
      · have hx : x = 111 := Option.some.inj (hc.symm.trans (by decide +kernel))
        subst hx
        exact ⟨90, _, _, rfl, rfl, rfl⟩
      · have hx : x = 114 := Option.some.inj (hc.symm.trans (by decide +kernel))
        subst hx
        exact ⟨90, _, _, rfl, rfl, rfl⟩
      · have hx : x = 116 := Option.some.inj (hc.symm.trans (by decide +kernel))
        subst hx
        exact ⟨90, _, _, rfl, rfl, rfl⟩
      · have hx : x = 104 := Option.some.inj (hc.symm.trans (by decide +kernel))
        subst hx
        exact ⟨90, _, _, rfl, rfl, rfl⟩
      · have hx : x = 32 := Option.some.inj (hc.symm.trans (by decide +kernel))
        subst hx
        exact ⟨90, _, _, rfl, rfl, rfl⟩
    · have hin : vp_in j 1 := a_in_ok (by unfold t_chr at hc; rw [if_pos (by decide)] at hc; exact (a_bif hc).1)
      obtain ⟨q, hq, rfl⟩ := vp_in_of hin (by decide)
      rcases (show q = 0 by omega) with rfl
      · have hx : x = 32 := Option.some.inj (hc.symm.trans (by decide +kernel))
        subst hx
        exact ⟨90, _, _, rfl, rfl, rfl⟩
    · have hin : vp_in j 1 := a_in_ok (by unfold t_chr at hc; rw [if_pos (by decide)] at hc; exact (a_bif hc).1)
      obtain ⟨q, hq, rfl⟩ := vp_in_of hin (by decide)
      rcases (show q = 0 by omega) with rfl
      · have hx : x = 41 := Option.some.inj (hc.symm.trans (by decide +kernel))
        subst hx
        exact ⟨90, _, _, rfl, rfl, rfl⟩
    · have hin : vp_in j 5 := a_in_ok (by unfold t_chr at hc; rw [if_pos (by decide)] at hc; exact (a_bif hc).1)
      obtain ⟨q, hq, rfl⟩ := vp_in_of hin (by decide)
      rcases (show q = 0 ∨ q = 1 ∨ q = 2 ∨ q = 3 ∨ q = 4 by omega) with rfl | rfl | rfl | rfl | rfl
      · have hx : x = 119 := Option.some.inj (hc.symm.trans (by decide +kernel))
        subst hx
        exact ⟨90, _, _, rfl, rfl, rfl⟩
      · have hx : x = 121 := Option.some.inj (hc.symm.trans (by decide +kernel))
        subst hx
        exact ⟨90, _, _, rfl, rfl, rfl⟩
      · have hx : x = 100 := Option.some.inj (hc.symm.trans (by decide +kernel))
        subst hx
        exact ⟨90, _, _, rfl, rfl, rfl⟩
      · have hx : x = 112 := Option.some.inj (hc.symm.trans (by decide +kernel))
        subst hx
        exact ⟨90, _, _, rfl, rfl, rfl⟩
      · have hx : x = 107 := Option.some.inj (hc.symm.trans (by decide +kernel))
        subst hx
        exact ⟨90, _, _, rfl, rfl, rfl⟩
    · have hin : vp_in j 3 := a_in_ok (by unfold t_chr at hc; rw [if_pos (by decide)] at hc; exact (a_bif hc).1)
      obtain ⟨q, hq, rfl⟩ := vp_in_of hin (by decide)
      rcases (show q = 0 ∨ q = 1 ∨ q = 2 by omega) with rfl | rfl | rfl
      · have hx : x = 60 := Option.some.inj (hc.symm.trans (by decide +kernel))
        subst hx
        exact ⟨90, _, _, rfl, rfl, rfl⟩
      · have hx : x = 61 := Option.some.inj (hc.symm.trans (by decide +kernel))
        subst hx
        exact ⟨90, _, _, rfl, rfl, rfl⟩
      · have hx : x = 62 := Option.some.inj (hc.symm.trans (by decide +kernel))
        subst hx
        exact ⟨90, _, _, rfl, rfl, rfl⟩
  · rcases (show w = 0 ∨ w = 1 ∨ w = 2 ∨ w = 3 ∨ w = 4 ∨ w = 5 ∨ w = 6 ∨ w = 7 by omega) with rfl | rfl | rfl | rfl | rfl | rfl | rfl | rfl
    · have hin : vp_in j 5 := a_in_ok (by unfold t_chr at hc; rw [if_pos (by decide)] at hc; exact (a_bif hc).1)
      obtain ⟨q, hq, rfl⟩ := vp_in_of hin (by decide)
      rcases (show q = 0 ∨ q = 1 ∨ q = 2 ∨ q = 3 ∨ q = 4 by omega) with rfl | rfl | rfl | rfl | rfl
      · have hx : x = 104 := Option.some.inj (hc.symm.trans (by decide +kernel))
        subst hx
        exact ⟨90, _, _, rfl, rfl, rfl⟩
      · have hx : x = 97 := Option.some.inj (hc.symm.trans (by decide +kernel))
        subst hx
        exact ⟨90, _, _, rfl, rfl, rfl⟩
      · have hx : x = 114 := Option.some.inj (hc.symm.trans (by decide +kernel))
        subst hx
        exact ⟨90, _, _, rfl, rfl, rfl⟩
      · have hx : x = 109 := Option.some.inj (hc.symm.trans (by decide +kernel))
        subst hx
        exact ⟨90, _, _, rfl, rfl, rfl⟩
      · have hx : x = 32 := Option.some.inj (hc.symm.trans (by decide +kernel))
        subst hx
        exact ⟨90, _, _, rfl, rfl, rfl⟩
    · have hin : vp_in j 5 := a_in_ok (by unfold t_chr at hc; rw [if_pos (by decide)] at hc; exact (a_bif hc).1)
      obtain ⟨q, hq, rfl⟩ := vp_in_of hin (by decide)
      rcases (show q = 0 ∨ q = 1 ∨ q = 2 ∨ q = 3 ∨ q = 4 by omega) with rfl | rfl | rfl | rfl | rfl
      · have hx : x = 114 := Option.some.inj (hc.symm.trans (by decide +kernel))
        subst hx
        exact ⟨90, _, _, rfl, rfl, rfl⟩
      · have hx : x = 117 := Option.some.inj (hc.symm.trans (by decide +kernel))
        subst hx
        exact ⟨90, _, _, rfl, rfl, rfl⟩
      · have hx : x = 108 := Option.some.inj (hc.symm.trans (by decide +kernel))
        subst hx
        exact ⟨90, _, _, rfl, rfl, rfl⟩
      · have hx : x = 101 := Option.some.inj (hc.symm.trans (by decide +kernel))
        subst hx
        exact ⟨90, _, _, rfl, rfl, rfl⟩
      · have hx : x = 32 := Option.some.inj (hc.symm.trans (by decide +kernel))
        subst hx
        exact ⟨90, _, _, rfl, rfl, rfl⟩
    · have hin : vp_in j 5 := a_in_ok (by unfold t_chr at hc; rw [if_pos (by decide)] at hc; exact (a_bif hc).1)
      obtain ⟨q, hq, rfl⟩ := vp_in_of hin (by decide)
      rcases (show q = 0 ∨ q = 1 ∨ q = 2 ∨ q = 3 ∨ q = 4 by omega) with rfl | rfl | rfl | rfl | rfl
      · have hx : x = 103 := Option.some.inj (hc.symm.trans (by decide +kernel))
        subst hx
        exact ⟨90, _, _, rfl, rfl, rfl⟩
      · have hx : x = 105 := Option.some.inj (hc.symm.trans (by decide +kernel))
        subst hx
        exact ⟨90, _, _, rfl, rfl, rfl⟩
      · have hx : x = 102 := Option.some.inj (hc.symm.trans (by decide +kernel))
        subst hx
        exact ⟨90, _, _, rfl, rfl, rfl⟩
      · have hx : x = 116 := Option.some.inj (hc.symm.trans (by decide +kernel))
        subst hx
        exact ⟨90, _, _, rfl, rfl, rfl⟩
      · have hx : x = 32 := Option.some.inj (hc.symm.trans (by decide +kernel))
        subst hx
        exact ⟨90, _, _, rfl, rfl, rfl⟩
    · have hin : vp_in j 6 := a_in_ok (by unfold t_chr at hc; rw [if_pos (by decide)] at hc; exact (a_bif hc).1)
      obtain ⟨q, hq, rfl⟩ := vp_in_of hin (by decide)
      rcases (show q = 0 ∨ q = 1 ∨ q = 2 ∨ q = 3 ∨ q = 4 ∨ q = 5 by omega) with rfl | rfl | rfl | rfl | rfl | rfl
      · have hx : x = 119 := Option.some.inj (hc.symm.trans (by decide +kernel))
        subst hx
        exact ⟨90, _, _, rfl, rfl, rfl⟩
      · have hx : x = 111 := Option.some.inj (hc.symm.trans (by decide +kernel))
        subst hx
        exact ⟨90, _, _, rfl, rfl, rfl⟩
      · have hx : x = 114 := Option.some.inj (hc.symm.trans (by decide +kernel))
        subst hx
        exact ⟨90, _, _, rfl, rfl, rfl⟩
      · have hx : x = 116 := Option.some.inj (hc.symm.trans (by decide +kernel))
        subst hx
        exact ⟨90, _, _, rfl, rfl, rfl⟩
      · have hx : x = 104 := Option.some.inj (hc.symm.trans (by decide +kernel))
        subst hx
        exact ⟨90, _, _, rfl, rfl, rfl⟩
      · have hx : x = 32 := Option.some.inj (hc.symm.trans (by decide +kernel))
        subst hx
        exact ⟨90, _, _, rfl, rfl, rfl⟩
    · have hin : vp_in j 1 := a_in_ok (by unfold t_chr at hc; rw [if_pos (by decide)] at hc; exact (a_bif hc).1)
      obtain ⟨q, hq, rfl⟩ := vp_in_of hin (by decide)
      rcases (show q = 0 by omega) with rfl
      · have hx : x = 32 := Option.some.inj (hc.symm.trans (by decide +kernel))
        subst hx
        exact ⟨90, _, _, rfl, rfl, rfl⟩
    · have hin : vp_in j 1 := a_in_ok (by unfold t_chr at hc; rw [if_pos (by decide)] at hc; exact (a_bif hc).1)
      obtain ⟨q, hq, rfl⟩ := vp_in_of hin (by decide)
      rcases (show q = 0 by omega) with rfl
      · have hx : x = 41 := Option.some.inj (hc.symm.trans (by decide +kernel))
        subst hx
        exact ⟨90, _, _, rfl, rfl, rfl⟩
    · have hin : vp_in j 5 := a_in_ok (by unfold t_chr at hc; rw [if_pos (by decide)] at hc; exact (a_bif hc).1)
      obtain ⟨q, hq, rfl⟩ := vp_in_of hin (by decide)
      rcases (show q = 0 ∨ q = 1 ∨ q = 2 ∨ q = 3 ∨ q = 4 by omega) with rfl | rfl | rfl | rfl | rfl
      · have hx : x = 119 := Option.some.inj (hc.symm.trans (by decide +kernel))
        subst hx
        exact ⟨90, _, _, rfl, rfl, rfl⟩
      · have hx : x = 121 := Option.some.inj (hc.symm.trans (by decide +kernel))
        subst hx
        exact ⟨90, _, _, rfl, rfl, rfl⟩
      · have hx : x = 100 := Option.some.inj (hc.symm.trans (by decide +kernel))
        subst hx
        exact ⟨90, _, _, rfl, rfl, rfl⟩
      · have hx : x = 112 := Option.some.inj (hc.symm.trans (by decide +kernel))
        subst hx
        exact ⟨90, _, _, rfl, rfl, rfl⟩
      · have hx : x = 107 := Option.some.inj (hc.symm.trans (by decide +kernel))
        subst hx
        exact ⟨90, _, _, rfl, rfl, rfl⟩
    · have hin : vp_in j 3 := a_in_ok (by unfold t_chr at hc; rw [if_pos (by decide)] at hc; exact (a_bif hc).1)
      obtain ⟨q, hq, rfl⟩ := vp_in_of hin (by decide)
      rcases (show q = 0 ∨ q = 1 ∨ q = 2 by omega) with rfl | rfl | rfl
      · have hx : x = 60 := Option.some.inj (hc.symm.trans (by decide +kernel))
        subst hx
        exact ⟨90, _, _, rfl, rfl, rfl⟩
      · have hx : x = 61 := Option.some.inj (hc.symm.trans (by decide +kernel))
        subst hx
        exact ⟨90, _, _, rfl, rfl, rfl⟩
      · have hx : x = 62 := Option.some.inj (hc.symm.trans (by decide +kernel))
        subst hx
        exact ⟨90, _, _, rfl, rfl, rfl⟩
end MP
