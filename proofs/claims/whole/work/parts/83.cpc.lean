/-! 83.cpc: the class's clauses and valleys -/
def CL (C : mS) (T : Nat → Int32) (n i : Nat) (V : List cl) (ru gi : Nat) : Prop := HC C T n ∧ (C 91 9 = Int32.ofNat i ∧ C 91 10 = tp T n i ∧ C 91 3 = Int32.ofNat (c_cod V).length ∧ sg (C 6) 0 (c_cod V)) ∧ C 91 4 = Int32.ofNat V.length ∧ sg (C 7) 0 (c_en V 0) ∧ sg (C 8) 0 (V.map c_am) ∧ C 91 5 = Int32.ofNat ru ∧ C 91 6 = Int32.ofNat gi
theorem lsw3 (x : Int32) : a_lsw 8 [(103, 41), (104, 35), (114, 38)] [6, 2, 4] x = if x = 103 then 6 else if x = 104 then 2 else if x = 114 then 4 else 8 := by
  simp only [a_lsw, ne_i (x := x) (show (103 : Int32).toInt = 103 from rfl), ne_i (x := x) (show (104 : Int32).toInt = 104 from rfl), ne_i (x := x) (show (114 : Int32).toInt = 114 from rfl)]
theorem c_en_app (c : cl) : ∀ (V : List cl) (k : Nat), c_en (V ++ [c]) k = c_en V k ++ [Int32.ofNat (k + (c_cod V).length + c.1.length)] := by
  intro V
  induction V with
  | nil => intro k; simp [c_en, c_cod]
  | cons b V ih =>
    intro k
    simp only [List.cons_append, c_en]
    rw [ih (k + b.1.length), show (c_cod (b :: V)).length = b.1.length + (c_cod V).length by simp [c_cod], show k + b.1.length + (c_cod V).length + c.1.length = k + (b.1.length + (c_cod V).length) + c.1.length by omega]
theorem c_en_len : ∀ (V : List cl) (k : Nat), (c_en V k).length = V.length := by
  intro V
  induction V with
  | nil => intro k; rfl
  | cons b V ih => intro k; simp [c_en, ih]
theorem wd0 : wd 0 = [104, 97, 114, 109, 32] ∧ wd 1 = [114, 117, 108, 101, 32] ∧ wd 2 = [103, 105, 102, 116, 32] ∧ wd 3 = [119, 111, 114, 116, 104, 32] := by decide +kernel
section CPC
variable {N : Nat} {P : Nat → Option Nat} {vl : Option Nat} {R : List aC} {C : mS} {T : Nat → Int32} {n i : Nat} {V : List cl} {ru gi : Nat}
theorem c_rn {C0 : mS} {L : List Int32} (h0 : HC C0 T n) (h : PC C0 C T n i L) (hi : i ≤ n) : (48 ≤ (tp T n i).toInt ∧ (tp T n i).toInt ≤ 50 → ∃ C', k_47 N P vl R C = some (Int32.ofNat (dv (tp T n i)), C') ∧ PC C0 C' T n (i + 1) L) ∧ (¬ (48 ≤ (tp T n i).toInt ∧ (tp T n i).toInt ≤ 50) → k_47 N P vl R C = some (-1, C)) := by
  have hn := h0.1
  have k48 : (48 : Int32).toInt = 48 := rfl
  have k50 : (50 : Int32).toInt = 50 := rfl
  obtain ⟨C1, e1, p1⟩ := c_stp (N := N) (P := P) (vl := vl) (R := R) h0 h (by omega)
  unfold k_47
  simp only [e_bd, e_bdn, e_st, e_li, e_bs, e_opn, e_ops, e_ob, e_vo, e_ia, e_eq, e_ne, e_lt, e_ge, e_gt, e_le, cond_true, cond_false, Bool.cond_decide, h.2.2.1, z_lt, z_le, k48, k50, e1]
  constructor
  · intro c
    rw [if_neg (by omega), if_pos c.2, dv_i (show dg (tp T n i) = true by unfold dg; rw [decide_eq_true_iff]; omega)]
    exact ⟨C1, rfl, p1⟩
  · intro c
    split
    · rfl
    · rw [if_neg (by omega)]
/-- keepClause, behind an expression -/
theorem c_kp {C0 : mS} {ts : List tk} {j v : Nat} {hm : Bool} (h : CL C0 T n i V ru gi) (hV : V.length < 10) (hp : PC C0 C T n j (c_cod V ++ ts.map t_c)) : ∃ C', k_49 N P vl R (c_am (ts, hm, v)) C = some (1, C') ∧ CL C' T n j (V ++ [(ts, hm, v)]) ru gi ∧ fr [6, 7, 8, 91] C0 C' := by
  obtain ⟨h0, -, h4, h7, h8, h5, h6⟩ := h
  obtain ⟨hg, p9, p10, p3, ps⟩ := hp
  have g4 : C 91 4 = Int32.ofNat V.length := (hg.2 4 (by decide)).trans h4
  have g7 : C 7 = C0 7 := fr_at hg.1 (by decide)
  have g8 : C 8 = C0 8 := fr_at hg.1 (by decide)
  unfold k_49
  simp only [e_bd, e_bdn, e_st, e_li, e_bs, e_opn, e_ops, e_ob, e_vo, e_ia, e_eq, e_ne, e_lt, e_ge, e_gt, e_le, cond_true, cond_false, Bool.cond_decide, g4, show Int32.ofNat V.length < 10 by rw [show (10 : Int32) = Int32.ofNat 10 from rfl, o_lt (by omega) (by omega)]; omega, if_true, show a_in (Int32.ofNat (V.length)) 10 = true by rw [o_in (by omega)]; simp; omega, o_cl (show V.length < 2147483648 by omega), va_up_ne _ _ (show (91 : Nat) ≠ 8 by decide), va_up_ne _ _ (show (7 : Nat) ≠ 8 by decide), va_up_ne _ _ (show (91 : Nat) ≠ 7 by decide), p3, show Int32.ofNat (V.length) + 1 = Int32.ofNat (V.length + 1) from o_add (q := 1)]
  have hcod : c_cod (V ++ [(ts, hm, v)]) = c_cod V ++ ts.map t_c := by simp [c_cod]
  refine ⟨_, rfl, ⟨⟨h0.1, ?_, ?_⟩, ⟨?_, ?_, ?_, ?_⟩, ?_, ?_, ?_, ?_, ?_⟩, fr_up (fr_up (fr_up (fr_mono hg.1 (by simp)) (by simp)) (by simp)) (by simp)⟩
  · rw [va_up_self, upd_ne _ _ (by decide)]; exact (hg.2 8 (by decide)).trans h0.2.1
  · intro k hk
    rw [va_up_ne _ _ (by decide), va_up_ne _ _ (by decide), va_up_ne _ _ (by decide), fr_at hg.1 (by decide)]
    exact h0.2.2 k hk
  · rw [va_up_self, upd_ne _ _ (by decide)]; exact p9
  · rw [va_up_self, upd_ne _ _ (by decide)]; exact p10
  · rw [va_up_self, upd_ne _ _ (by decide), hcod]; exact p3
  · rw [va_up_ne _ _ (by decide), va_up_ne _ _ (by decide), va_up_ne _ _ (by decide), hcod]; exact ps
  · rw [va_up_self, upd_self]; simp
  · rw [va_up_ne _ _ (by decide), va_up_self, c_en_app, g7]
    have := sg_snoc (x := Int32.ofNat (c_cod V ++ ts.map t_c).length) h7
    rw [c_en_len, Nat.zero_add] at this
    rw [show 0 + (c_cod V).length + ts.length = (c_cod V ++ ts.map t_c).length by simp]
    exact this
  · rw [va_up_ne _ _ (by decide), va_up_ne _ _ (by decide), va_up_self, List.map_append, g8]
    have := sg_snoc (x := c_am (ts, hm, v)) h8
    rw [List.length_map, Nat.zero_add] at this
    exact this
  · rw [va_up_self, upd_ne _ _ (by decide)]; exact (hg.2 5 (by decide)).trans h5
  · rw [va_up_self, upd_ne _ _ (by decide)]; exact (hg.2 6 (by decide)).trans h6
theorem CL_PC (h : CL C T n i V ru gi) : PC C C T n i (c_cod V) := ⟨⟨fr_rfl, fun _ _ => rfl⟩, h.2.1⟩
theorem cg4 {C0 : mS} (h : CG C0 C) : fr [6, 7, 8, 91] C0 C := fr_mono h.1 (by simp)
/-- clause -/
theorem c_cl (hN : 200 ≤ N) (h : CL C T n i V ru gi) (hl : (c_cod V).length ≤ i) (hi : i ≤ n) (hV : V.length < 10) : (∀ j kd v ts, sCl T n i = (j, some (kd, v, ts)) → ∃ C', k_44 N P vl R C = some (1, C') ∧ CL C' T n j (sAp (kd, v, ts) V ru gi).1 (sAp (kd, v, ts) V ru gi).2.1 (sAp (kd, v, ts) V ru gi).2.2 ∧ fr [6, 7, 8, 91] C C') ∧ (∀ j, sCl T n i = (j, none) → ∃ C', k_44 N P vl R C = some (0, C') ∧ C' 91 9 = Int32.ofNat j ∧ fr [6, 7, 8, 91] C C') := by
  have h0 := h.1
  have hn := h0.1
  have hp := CL_PC h
  have hF : FC C T n 0 (k_fac N P vl R 8) (sFac T n 5) := c_fac (x := 2) hN h0 5 (by omega)
  have h10 := h.2.1.2.1
  have much : ∀ (w kd : Nat) (x : Int32) (hm : Bool), w < 4 → kd ≤ 1 → tp T n i = x → x ≠ 114 → x ≠ 103 → (hm = true ↔ kd = 1) → (x = 119 ↔ kd = 0) → k_45 N P vl R x C = some (w, C) → (∀ j kd' v ts, sMuch T n (wd w) kd i = (j, some (kd', v, ts)) → ∃ C', k_44 N P vl R C = some (1, C') ∧ CL C' T n j (sAp (kd', v, ts) V ru gi).1 (sAp (kd', v, ts) V ru gi).2.1 (sAp (kd', v, ts) V ru gi).2.2 ∧ fr [6, 7, 8, 91] C C') ∧ (∀ j, sMuch T n (wd w) kd i = (j, none) → ∃ C', k_44 N P vl R C = some (0, C') ∧ C' 91 9 = Int32.ofNat j ∧ fr [6, 7, 8, 91] C C') := by
    intro w kd x hm hw hkd hx h114 h103 hhm h119 e45
    have h1 := c_wd (N := N) (P := P) (vl := vl) (R := R) (w := w) hN (by omega) h0 hp hi
    have hk := sWd_ok (T := T) (wd w) i (wd_c w hw) hi
    unfold sMuch k_44
    rw [h10, hx]
    simp only [e45, e_bd, e_bdn, e_st, e_li, e_bs, e_opn, e_ops, e_ob, e_vo, e_ia, e_eq, e_ne, e_lt, e_ge, e_gt, e_le, cond_true, cond_false, Bool.cond_decide]
    cases hs : sWd T n (wd w) i with
    | mk j b => cases b with
      | false =>
        obtain ⟨C1, e1, p1⟩ := h1.2 j hs
        refine ⟨fun j' kd v ts hh => (by cases hh), fun j' hh => ?_⟩
        cases hh
        exact ⟨C1, by simp only [e1, e_bd, e_bdn, e_st, e_li, e_bs, e_opn, e_ops, e_ob, e_vo, e_ia, e_eq, e_ne, e_lt, e_ge, e_gt, e_le, cond_true, cond_false, Bool.cond_decide, not_true, if_false], p1.2, cg4 p1.1⟩
      | true =>
        obtain ⟨C1, e1, p1⟩ := h1.1 j hs
        have hj := hk.1 j hs
        have h2 := c_num (N := N) (P := P) (vl := vl) (R := R) h0 p1 hj.2
        have h3 := sNum_ok (T := T) hj.2
        simp only [e1, e_bd, e_bdn, e_st, e_li, e_bs, e_opn, e_ops, e_ob, e_vo, e_ia, e_eq, e_ne, e_lt, e_ge, e_gt, e_le, cond_true, cond_false, Bool.cond_decide, show ¬ (1 : Int32) = 0 by decide, not_false_eq_true, if_true, h114]
        cases hm2 : sNum T n j with
        | mk k ov => cases ov with
          | none =>
            obtain ⟨C2, e2, p2⟩ := h2.2 k hm2
            refine ⟨fun j' kd v ts hh => (by cases hh), fun j' hh => ?_⟩
            cases hh
            exact ⟨C2, by simp only [e2, e_bd, e_bdn, e_st, e_li, e_bs, e_opn, e_ops, e_ob, e_vo, e_ia, e_eq, e_ne, e_lt, e_ge, e_gt, e_le, cond_true, cond_false, Bool.cond_decide, k_44_18, show ¬ (0 : Int32) ≤ -1 by decide, if_false], p2.2, cg4 p2.1⟩
          | some v =>
            obtain ⟨C2, e2, p2⟩ := h2.1 k v hm2
            have h4 := h3.1 k v hm2
            have h5 := c_wd (N := N) (P := P) (vl := vl) (R := R) (w := 4) hN (by omega) h0 p2 h4.2.1
            rw [wd4] at h5
            simp only [e2, e_bd, e_bdn, e_st, e_li, e_bs, e_opn, e_ops, e_ob, e_vo, e_ia, e_eq, e_ne, e_lt, e_ge, e_gt, e_le, cond_true, cond_false, Bool.cond_decide, k_44_18, show (0 : Int32) ≤ Int32.ofNat v by rw [show (0 : Int32) = Int32.ofNat 0 from rfl, o_le (by omega) (by omega)]; omega, if_true, h114, h103, not_false_eq_true]
            by_cases c : tp T n k = 32
            · rw [if_pos c]
              have hlt := tp_lt c (by decide)
              obtain ⟨C3, e3, p3⟩ := h5.1 (k + 1) (by unfold sWd sWd; rw [if_pos c])
              have h6 := c_E (P := P) (vl := vl) (R := R) hN h0 hF (GR_F (T := T) (n := n) 5) p3 (show (c_cod V).length ≤ k + 1 by omega) (show k + 1 ≤ n by omega)
              simp only [e3, e_bd, e_bdn, e_st, e_li, e_bs, e_opn, e_ops, e_ob, e_vo, e_ia, e_eq, e_ne, e_lt, e_ge, e_gt, e_le, cond_true, cond_false, Bool.cond_decide, show ¬ (1 : Int32) = 0 by decide, if_false]
              rw [show (0 : Int32) = Int32.ofNat 0 from rfl] at *
              cases he : sE T n (sFac T n 5) (k + 1) with
              | mk m ot => cases ot with
                | none =>
                  obtain ⟨C4, e4, p4⟩ := h6.2 m he
                  refine ⟨fun j' kd v ts hh => (by cases hh), fun j' hh => ?_⟩
                  cases hh
                  refine ⟨C4, ?_, p4.2, cg4 p4.1⟩
                  rw [e4]
                  rfl
                | some us =>
                  obtain ⟨C4, e4, p4⟩ := h6.1 m us he
                  obtain ⟨C5, e5, l5, f5⟩ := c_kp (N := N) (P := P) (vl := vl) (R := R) (v := v) (hm := hm) h hV p4
                  refine ⟨fun j' kd' v' ts hh => ?_, fun j' hh => (by cases hh)⟩
                  cases hh
                  refine ⟨C5, ?_, ?_, f5⟩
                  · rw [e4]
                    simp only [e_bd, e_bdn, e_st, e_li, e_bs, e_opn, e_ops, e_ob, e_vo, e_ia, e_eq, e_ne, e_lt, e_ge, e_gt, e_le, cond_true, cond_false, Bool.cond_decide, show ¬ (1 : Int32) = Int32.ofNat 0 by decide, if_false]
                    have ham : (if ¬ x = 119 then k_44_55 N P vl R (-Int32.ofNat v) C4 else k_44_55 N P vl R (Int32.ofNat v) C4) = k_44_55 N P vl R (c_am (us, hm, v)) C4 := by
                      by_cases q : kd = 0
                      · have hmf : hm = false := by cases hm; rfl; exact absurd (hhm.mp rfl) (by omega)
                        rw [if_neg (by simp [h119.mpr q]), hmf]; rfl
                      · have hmt : hm = true := hhm.mpr (by omega)
                        rw [if_pos (fun q2 => q (h119.mp q2)), hmt]; rfl
                    rw [ham]
                    unfold k_44_55
                    simp only [e5, e_bd, e_bdn, e_st, e_li, e_bs, e_opn, e_ops, e_ob, e_vo, e_ia, e_eq, e_ne, e_lt, e_ge, e_gt, e_le, cond_true, cond_false, Bool.cond_decide, show ¬ (1 : Int32) = 0 by decide, if_false]
                  · have hsap : sAp (kd, v, us) V ru gi = (V ++ [(us, hm, v)], ru, gi) := by
                      unfold sAp
                      by_cases q : kd = 0
                      · have hmf : hm = false := by cases hm; rfl; exact absurd (hhm.mp rfl) (by omega)
                        rw [if_pos q, hmf]
                      · have hmt : hm = true := hhm.mpr (by omega)
                        rw [if_neg q, if_pos (show kd = 1 by omega), hmt]
                    rw [hsap]
                    exact l5
            · rw [if_neg c]
              obtain ⟨C3, e3, p3⟩ := h5.2 k (by unfold sWd; rw [if_neg c])
              refine ⟨fun j' kd v ts hh => (by cases hh), fun j' hh => ?_⟩
              cases hh
              exact ⟨C3, by simp only [e3, e_bd, e_bdn, e_st, e_li, e_bs, e_opn, e_ops, e_ob, e_vo, e_ia, e_eq, e_ne, e_lt, e_ge, e_gt, e_le, cond_true, cond_false, Bool.cond_decide, if_true], p3.2, cg4 p3.1⟩
  unfold sCl
  by_cases c1 : tp T n i = 103
  · rw [if_pos c1]
    have h1 := c_wd (N := N) (P := P) (vl := vl) (R := R) (w := 2) hN (by omega) h0 hp hi
    have hk := sWd_ok (T := T) (wd 2) i (wd_c 2 (by omega)) hi
    unfold sGift k_44 k_45
    rw [h10, c1]
    simp only [lsw3, e_bd, e_bdn, e_st, e_li, e_bs, e_opn, e_ops, e_ob, e_vo, e_ia, e_eq, e_ne, e_lt, e_ge, e_gt, e_le, cond_true, cond_false, Bool.cond_decide, if_true]
    cases hs : sWd T n (wd 2) i with
    | mk j b => cases b with
      | false =>
        obtain ⟨C1, e1, p1⟩ := h1.2 j hs
        refine ⟨fun j' kd v ts hh => (by cases hh), fun j' hh => ?_⟩
        cases hh
        exact ⟨C1, by simp only [e1, e_bd, e_bdn, e_st, e_li, e_bs, e_opn, e_ops, e_ob, e_vo, e_ia, e_eq, e_ne, e_lt, e_ge, e_gt, e_le, cond_true, cond_false, Bool.cond_decide, not_true, if_false], p1.2, cg4 p1.1⟩
      | true =>
        obtain ⟨C1, e1, p1⟩ := h1.1 j hs
        have hj := hk.1 j hs
        have h2 := c_num (N := N) (P := P) (vl := vl) (R := R) h0 p1 hj.2
        have h3 := sNum_ok (T := T) hj.2
        simp only [e1, e_bd, e_bdn, e_st, e_li, e_bs, e_opn, e_ops, e_ob, e_vo, e_ia, e_eq, e_ne, e_lt, e_ge, e_gt, e_le, cond_true, cond_false, Bool.cond_decide, show ¬ (1 : Int32) = 0 by decide, not_false_eq_true, if_true, show ¬ (103 : Int32) = 114 by decide]
        cases hm2 : sNum T n j with
        | mk k ov => cases ov with
          | none =>
            obtain ⟨C2, e2, p2⟩ := h2.2 k hm2
            refine ⟨fun j' kd v ts hh => (by cases hh), fun j' hh => ?_⟩
            cases hh
            exact ⟨C2, by simp only [e2, e_bd, e_bdn, e_st, e_li, e_bs, e_opn, e_ops, e_ob, e_vo, e_ia, e_eq, e_ne, e_lt, e_ge, e_gt, e_le, cond_true, cond_false, Bool.cond_decide, k_44_18, show ¬ (0 : Int32) ≤ -1 by decide, if_false], p2.2, cg4 p2.1⟩
          | some v =>
            obtain ⟨C2, e2, p2⟩ := h2.1 k v hm2
            have h4 := h3.1 k v hm2
            refine ⟨fun j' kd v' ts hh => ?_, fun j' hh => (by cases hh)⟩
            cases hh
            refine ⟨va_up C2 91 (upd (C2 91) 6 (Int32.ofNat v)), by simp only [e2, e_bd, e_bdn, e_st, e_li, e_bs, e_opn, e_ops, e_ob, e_vo, e_ia, e_eq, e_ne, e_lt, e_ge, e_gt, e_le, cond_true, cond_false, Bool.cond_decide, k_44_18, show (0 : Int32) ≤ Int32.ofNat v by rw [show (0 : Int32) = Int32.ofNat 0 from rfl, o_le (by omega) (by omega)]; omega, if_true, show ¬ (103 : Int32) = 114 by decide, not_false_eq_true, not_true, if_false], ?_, fr_up (cg4 p2.1) (by simp)⟩
            show CL _ T n k V ru v
            refine ⟨⟨hn, ?_, ?_⟩, ⟨?_, ?_, ?_, ?_⟩, ?_, ?_, ?_, ?_, ?_⟩
            · rw [va_up_self, upd_ne _ _ (by decide)]; exact (p2.1.2 8 (by decide)).trans h0.2.1
            · intro q hq; rw [va_up_ne _ _ (by decide), fr_at p2.1.1 (by decide)]; exact h0.2.2 q hq
            · rw [va_up_self, upd_ne _ _ (by decide)]; exact p2.2.1
            · rw [va_up_self, upd_ne _ _ (by decide)]; exact p2.2.2.1
            · rw [va_up_self, upd_ne _ _ (by decide)]; exact p2.2.2.2.1
            · rw [va_up_ne _ _ (by decide)]; exact p2.2.2.2.2
            · rw [va_up_self, upd_ne _ _ (by decide)]; exact (p2.1.2 4 (by decide)).trans h.2.2.1
            · rw [va_up_ne _ _ (by decide), fr_at p2.1.1 (by decide)]; exact h.2.2.2.1
            · rw [va_up_ne _ _ (by decide), fr_at p2.1.1 (by decide)]; exact h.2.2.2.2.1
            · rw [va_up_self, upd_ne _ _ (by decide)]; exact (p2.1.2 5 (by decide)).trans h.2.2.2.2.2.1
            · rw [va_up_self, upd_self]
  · rw [if_neg c1]
    by_cases c2 : tp T n i = 104
    · rw [if_pos c2]
      refine much 0 1 104 true (by omega) (by omega) c2 (by decide) (by decide) (by simp) (by simp) ?_
      unfold k_45
      rw [show a_lsw 8 [(103, 41), (104, 35), (114, 38)] [6, 2, 4] 104 = 2 by decide]
      rfl
    · rw [if_neg c2]
      by_cases c3 : tp T n i = 114
      · rw [if_pos c3]
        have h1 := c_wd (N := N) (P := P) (vl := vl) (R := R) (w := 1) hN (by omega) h0 hp hi
        have hk := sWd_ok (T := T) (wd 1) i (wd_c 1 (by omega)) hi
        unfold sRule k_44 k_45
        rw [h10, c3, show a_lsw 8 [(103, 41), (104, 35), (114, 38)] [6, 2, 4] 114 = 4 by decide]
        simp only [e_bd, e_bdn, e_st, e_li, e_bs, e_opn, e_ops, e_ob, e_vo, e_ia, e_eq, e_ne, e_lt, e_ge, e_gt, e_le, cond_true, cond_false, Bool.cond_decide, show ¬ (4 : Nat) = 6 by decide, show ¬ (4 : Nat) = 2 by decide, if_false, if_true]
        cases hs : sWd T n (wd 1) i with
        | mk j b => cases b with
          | false =>
            obtain ⟨C1, e1, p1⟩ := h1.2 j hs
            refine ⟨fun j' kd v ts hh => (by cases hh), fun j' hh => ?_⟩
            cases hh
            exact ⟨C1, by simp only [e1, e_bd, e_bdn, e_st, e_li, e_bs, e_opn, e_ops, e_ob, e_vo, e_ia, e_eq, e_ne, e_lt, e_ge, e_gt, e_le, cond_true, cond_false, Bool.cond_decide, not_true, if_false], p1.2, cg4 p1.1⟩
          | true =>
            obtain ⟨C1, e1, p1⟩ := h1.1 j hs
            have hj := hk.1 j hs
            have h2 := c_rn (N := N) (P := P) (vl := vl) (R := R) h0 p1 hj.2
            simp only [e1, e_bd, e_bdn, e_st, e_li, e_bs, e_opn, e_ops, e_ob, e_vo, e_ia, e_eq, e_ne, e_lt, e_ge, e_gt, e_le, cond_true, cond_false, Bool.cond_decide, show ¬ (1 : Int32) = 0 by decide, not_false_eq_true, if_true, not_true, if_false]
            by_cases c : 48 ≤ (tp T n j).toInt ∧ (tp T n j).toInt ≤ 50
            · rw [if_pos c]
              obtain ⟨C2, e2, p2⟩ := h2.1 c
              have hdv : dv (tp T n j) < 10 := (dg_dv (show dg (tp T n j) = true by unfold dg; rw [decide_eq_true_iff]; omega)).1
              refine ⟨fun j' kd v' ts hh => ?_, fun j' hh => (by cases hh)⟩
              cases hh
              refine ⟨va_up C2 91 (upd (C2 91) 5 (Int32.ofNat (dv (tp T n j)))), by simp only [e2, e_bd, e_bdn, e_st, e_li, e_bs, e_opn, e_ops, e_ob, e_vo, e_ia, e_eq, e_ne, e_lt, e_ge, e_gt, e_le, cond_true, cond_false, Bool.cond_decide, k_44_18, show (0 : Int32) ≤ Int32.ofNat (dv (tp T n j)) by rw [show (0 : Int32) = Int32.ofNat 0 from rfl, o_le (by omega) (by omega)]; omega, if_true, not_true, if_false], ?_, fr_up (cg4 p2.1) (by simp)⟩
              show CL _ T n (j + 1) V (dv (tp T n j)) gi
              refine ⟨⟨hn, ?_, ?_⟩, ⟨?_, ?_, ?_, ?_⟩, ?_, ?_, ?_, ?_, ?_⟩
              · rw [va_up_self, upd_ne _ _ (by decide)]; exact (p2.1.2 8 (by decide)).trans h0.2.1
              · intro q hq; rw [va_up_ne _ _ (by decide), fr_at p2.1.1 (by decide)]; exact h0.2.2 q hq
              · rw [va_up_self, upd_ne _ _ (by decide)]; exact p2.2.1
              · rw [va_up_self, upd_ne _ _ (by decide)]; exact p2.2.2.1
              · rw [va_up_self, upd_ne _ _ (by decide)]; exact p2.2.2.2.1
              · rw [va_up_ne _ _ (by decide)]; exact p2.2.2.2.2
              · rw [va_up_self, upd_ne _ _ (by decide)]; exact (p2.1.2 4 (by decide)).trans h.2.2.1
              · rw [va_up_ne _ _ (by decide), fr_at p2.1.1 (by decide)]; exact h.2.2.2.1
              · rw [va_up_ne _ _ (by decide), fr_at p2.1.1 (by decide)]; exact h.2.2.2.2.1
              · rw [va_up_self, upd_self]
              · rw [va_up_self, upd_ne _ _ (by decide)]; exact (p2.1.2 6 (by decide)).trans h.2.2.2.2.2.2
            · rw [if_neg c]
              refine ⟨fun j' kd v ts hh => (by cases hh), fun j' hh => ?_⟩
              cases hh
              exact ⟨C1, by simp only [h2.2 c, e_bd, e_bdn, e_st, e_li, e_bs, e_opn, e_ops, e_ob, e_vo, e_ia, e_eq, e_ne, e_lt, e_ge, e_gt, e_le, cond_true, cond_false, Bool.cond_decide, k_44_18, show ¬ (0 : Int32) ≤ -1 by decide, if_false], p1.2.1, cg4 p1.1⟩
      · rw [if_neg c3]
        have e45 : k_45 N P vl R (tp T n i) C = some (3, C) := by
          unfold k_45
          simp only [lsw3, c1, c2, c3, if_false]
          rfl
        by_cases c4 : tp T n i = 119
        · rw [if_pos c4]
          exact much 3 0 (tp T n i) false (by omega) (by omega) rfl c3 c1 (by simp) (by simp [c4]) e45
        · rw [if_neg c4]
          have h1 := c_wd (N := N) (P := P) (vl := vl) (R := R) (w := 3) hN (by omega) h0 hp hi
          obtain ⟨C1, e1, p1⟩ := h1.2 i (by rw [wd0.2.2.2]; unfold sWd; rw [if_neg c4])
          refine ⟨fun j' kd v ts hh => (by cases hh), fun j' hh => ?_⟩
          cases hh
          refine ⟨C1, ?_, p1.2, cg4 p1.1⟩
          unfold k_44
          rw [h10, e45]
          simp only [e_bd, e_bdn, e_st, e_li, e_bs, e_opn, e_ops, e_ob, e_vo, e_ia, e_eq, e_ne, e_lt, e_ge, e_gt, e_le, cond_true, cond_false, Bool.cond_decide, e1, not_true, if_false]
theorem sAp_c {kd v : Nat} {ts : List tk} (hk : kd ≤ 3) (h2 : 2 ≤ kd → ts = []) : (c_cod (sAp (kd, v, ts) V ru gi).1).length = (c_cod V).length + ts.length ∧ (sAp (kd, v, ts) V ru gi).1.length ≤ V.length + 1 := by
  rcases (show kd = 0 ∨ kd = 1 ∨ kd = 2 ∨ kd = 3 by omega) with rfl | rfl | rfl | rfl
  · simp [sAp, c_cod]
  · simp [sAp, c_cod]
  · rw [h2 (by omega)]; simp [sAp]
  · rw [h2 (by omega)]; simp [sAp]
/-- faultOf, from a clause on -/
theorem c_va (hN : 200 ≤ N) (hT : ∀ j, j < n → T j ≠ -1) {q : Nat} : ∀ (m i : Nat) (V : List cl) (ru gi : Nat) (C : mS), V.length + m + 1 ≤ 10 → CL C T n i V ru gi → (c_cod V).length ≤ i → i ≤ n → m ≤ 9 →
    (∀ j V' ru' gi', sVal T n m i V ru gi = (j, some (V', ru', gi')) → ∃ C', k_40_26 N P vl R (m + 1 + q) (Int32.ofNat (9 - m)) C = some (-1, C') ∧ CL C' T n j V' ru' gi' ∧ fr [6, 7, 8, 91] C C') ∧
    (∀ j, sVal T n m i V ru gi = (j, none) → ∃ C', k_40_26 N P vl R (m + 1 + q) (Int32.ofNat (9 - m)) C = some (Int32.ofNat j, C') ∧ fr [6, 7, 8, 91] C C') := by
  have hend : ∀ j, j ≤ n → ((tp T n j = -1) ↔ j = n) := by
    intro j hj
    unfold tp
    by_cases c : j < n
    · rw [if_pos c]; exact ⟨fun e => absurd e (hT j c), fun e => by omega⟩
    · rw [if_neg c]; exact ⟨fun _ => by omega, fun _ => rfl⟩
  intro m
  induction m with
  | zero =>
    intro i V ru gi C hV h hl hi hm
    have hn := h.1.1
    have h1 := c_cl (P := P) (vl := vl) (R := R) hN h hl hi (by omega)
    have h2 := CX_cl (T := T) hi
    rw [show 0 + 1 + q = q + 1 by omega]
    show (∀ j V' ru' gi', _ → ∃ C', k_40_26b _ _ _ _ _ _ _ = _ ∧ _) ∧ (∀ j, _ → ∃ C', k_40_26b _ _ _ _ _ _ _ = _ ∧ _)
    unfold sVal k_40_26b
    simp only [e_bd, e_bdn, e_st, e_li, e_bs, e_opn, e_ops, e_ob, e_vo, e_ia, e_eq, e_ne, e_lt, e_ge, e_gt, e_le, cond_true, cond_false, Bool.cond_decide, show ¬ (10 : Int32) ≤ Int32.ofNat (9 - 0) by decide, if_false]
    cases hs : sCl T n i with
    | mk j ox => cases ox with
      | none =>
        obtain ⟨C1, e1, p1, f1⟩ := h1.2 j hs
        refine ⟨fun j' V' ru' gi' hh => (by cases hh), fun j' hh => ?_⟩
        cases hh
        exact ⟨C1, by simp only [e1, e_bd, e_bdn, e_st, e_li, e_bs, e_opn, e_ops, e_ob, e_vo, e_ia, e_eq, e_ne, e_lt, e_ge, e_gt, e_le, cond_true, cond_false, Bool.cond_decide, not_true, if_false, p1], f1⟩
      | some x =>
        obtain ⟨kd, v, ts⟩ := x
        obtain ⟨C1, e1, l1, f1⟩ := h1.1 j kd v ts hs
        obtain ⟨b1, b2, b3, b4, -⟩ := h2.1 j kd v ts hs
        simp only [e1, e_bd, e_bdn, e_st, e_li, e_bs, e_opn, e_ops, e_ob, e_vo, e_ia, e_eq, e_ne, e_lt, e_ge, e_gt, e_le, cond_true, cond_false, Bool.cond_decide, show ¬ (1 : Int32) = 0 by decide, not_false_eq_true, if_true, l1.2.1.2.1, hend j b3]
        by_cases c : j = n
        · simp only [c, not_true, if_false, if_true]
          refine ⟨fun j' V' ru' gi' hh => ?_, fun j' hh => (by cases hh)⟩
          have hh' := Prod.mk.inj hh
          obtain ⟨rfl, hh2⟩ := hh'
          have hh3 := Option.some.inj hh2
          rw [hh3] at l1
          subst c
          exact ⟨C1, rfl, l1, f1⟩
        · simp only [c, not_false_eq_true, if_true, if_false]
          refine ⟨fun j' V' ru' gi' hh => (by cases hh), fun j' hh => ?_⟩
          cases hh
          refine ⟨C1, ?_, f1⟩
          rw [l1.2.1.1]
          split
          · rfl
          · rw [if_neg (by decide)]
  | succ m ih =>
    intro i V ru gi C hV h hl hi hm
    have hn := h.1.1
    have h1 := c_cl (P := P) (vl := vl) (R := R) hN h hl hi (by omega)
    have h2 := CX_cl (T := T) hi
    rw [show m + 1 + 1 + q = (m + 1 + q) + 1 by omega]
    show (∀ j V' ru' gi', _ → ∃ C', k_40_26b _ _ _ _ _ _ _ = _ ∧ _) ∧ (∀ j, _ → ∃ C', k_40_26b _ _ _ _ _ _ _ = _ ∧ _)
    unfold sVal k_40_26b
    simp only [e_bd, e_bdn, e_st, e_li, e_bs, e_opn, e_ops, e_ob, e_vo, e_ia, e_eq, e_ne, e_lt, e_ge, e_gt, e_le, cond_true, cond_false, Bool.cond_decide, show ¬ (10 : Int32) ≤ Int32.ofNat (9 - (m + 1)) by rw [show (10 : Int32) = Int32.ofNat 10 from rfl, o_le (by omega) (by omega)]; omega, if_false]
    cases hs : sCl T n i with
    | mk j ox => cases ox with
      | none =>
        obtain ⟨C1, e1, p1, f1⟩ := h1.2 j hs
        refine ⟨fun j' V' ru' gi' hh => (by cases hh), fun j' hh => ?_⟩
        cases hh
        exact ⟨C1, by simp only [e1, e_bd, e_bdn, e_st, e_li, e_bs, e_opn, e_ops, e_ob, e_vo, e_ia, e_eq, e_ne, e_lt, e_ge, e_gt, e_le, cond_true, cond_false, Bool.cond_decide, not_true, if_false, p1], f1⟩
      | some x =>
        obtain ⟨kd, v, ts⟩ := x
        obtain ⟨C1, e1, l1, f1⟩ := h1.1 j kd v ts hs
        obtain ⟨b1, b2, b3, b4, b5, b6, b7⟩ := h2.1 j kd v ts hs
        obtain ⟨s1, s2⟩ := sAp_c (V := V) (ru := ru) (gi := gi) (v := v) b1 b7
        simp only [e1, e_bd, e_bdn, e_st, e_li, e_bs, e_opn, e_ops, e_ob, e_vo, e_ia, e_eq, e_ne, e_lt, e_ge, e_gt, e_le, cond_true, cond_false, Bool.cond_decide, show ¬ (1 : Int32) = 0 by decide, not_false_eq_true, if_true, l1.2.1.2.1, hend j b3]
        by_cases c : j = n
        · simp only [c, not_true, if_false, if_true]
          refine ⟨fun j' V' ru' gi' hh => ?_, fun j' hh => (by cases hh)⟩
          have hh' := Prod.mk.inj hh
          obtain ⟨rfl, hh2⟩ := hh'
          have hh3 := Option.some.inj hh2
          rw [hh3] at l1
          subst c
          exact ⟨C1, rfl, l1, f1⟩
        · simp only [c, not_false_eq_true, if_true, if_false]
          by_cases c2 : tp T n j = 59
          · have hlt := tp_lt c2 (by decide)
            obtain ⟨C2, e2, p2⟩ := c_stp (N := N) (P := P) (vl := vl) (R := R) l1.1 (CL_PC l1) (by omega)
            have l2 : CL C2 T n (j + 1) (sAp (kd, v, ts) V ru gi).1 (sAp (kd, v, ts) V ru gi).2.1 (sAp (kd, v, ts) V ru gi).2.2 := by
              obtain ⟨g0, -, g4, g7, g8, g5, g6⟩ := l1
              refine ⟨⟨g0.1, (p2.1.2 8 (by decide)).trans g0.2.1, fun k hk => by rw [fr_at p2.1.1 (by decide)]; exact g0.2.2 k hk⟩, p2.2, (p2.1.2 4 (by decide)).trans g4, by rw [fr_at p2.1.1 (by decide)]; exact g7, by rw [fr_at p2.1.1 (by decide)]; exact g8, (p2.1.2 5 (by decide)).trans g5, (p2.1.2 6 (by decide)).trans g6⟩
            have h3 := ih (j + 1) _ _ _ C2 (by omega) l2 (by omega) (by omega) (by omega)
            simp only [c2, not_true, if_false, if_true, e2, e_bd, e_bdn, e_st, e_li, e_bs, e_opn, e_ops, e_ob, e_vo, e_ia, e_eq, e_ne, e_lt, e_ge, e_gt, e_le, cond_true, cond_false, Bool.cond_decide, show ¬ Int32.ofNat (9 - (m + 1)) = 9 by rw [show (9 : Int32) = Int32.ofNat 9 from rfl, o_eq (by omega) (by omega)]; omega, not_false_eq_true, show Int32.ofNat (9 - (m + 1)) + 1 = Int32.ofNat (9 - (m + 1) + 1) from o_add (q := 1), show 9 - (m + 1) + 1 = 9 - m by omega]
            refine ⟨fun j' V' ru' gi' hh => ?_, fun j' hh => ?_⟩
            · obtain ⟨C3, e3, l3, f3'⟩ := h3.1 j' V' ru' gi' hh
              exact ⟨C3, e3, l3, fr_tr f1 (fr_tr (cg4 p2.1) f3')⟩
            · obtain ⟨C3, e3, f3'⟩ := h3.2 j' hh
              exact ⟨C3, e3, fr_tr f1 (fr_tr (cg4 p2.1) f3')⟩
          · simp only [c2, not_false_eq_true, if_true, if_false]
            refine ⟨fun j' V' ru' gi' hh => (by cases hh), fun j' hh => ?_⟩
            cases hh
            exact ⟨C1, by rw [l1.2.1.1], f1⟩
end CPC
