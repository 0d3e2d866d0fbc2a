/-! 80.mpv: the model's clauses and valleys -/
theorem lsw4 (x : Int32) : a_lsw 19 [(103, 74), (104, 55), (114, 67), (119, 44)] [16, 8, 13, 3] x = if x = 103 then 16 else if x = 104 then 8 else if x = 114 then 13 else if x = 119 then 3 else 19 := by
  simp only [a_lsw, ne_i (x := x) (show (103 : Int32).toInt = 103 from rfl), ne_i (x := x) (show (104 : Int32).toInt = 104 from rfl), ne_i (x := x) (show (114 : Int32).toInt = 114 from rfl), ne_i (x := x) (show (119 : Int32).toInt = 119 from rfl)]
section MPV
variable {N : Nat} {A0 A : mS} {T : Nat → Int32} {n act i : Nat} {L : List Int32}
/-- the row, as a rule or a gift sets it -/
def mSet (A0 : mS) (act kd v : Nat) : mS := if kd = 2 then va_up A0 0 (upd (A0 0) (232 + act) (Int32.ofNat v)) else if kd = 3 then va_up A0 0 (upd (A0 0) (237 + act) (Int32.ofNat v)) else A0
def mApp (kd v : Nat) (ts : List tk) : List Int32 := if kd = 0 then ts.map t_m ++ [-10 - Int32.ofNat v] else if kd = 1 then ts.map t_m ++ [-200 - Int32.ofNat v] else []
theorem m_ru (hN : 200 ≤ N) (h0 : HM A0 T n act) (h : PM A0 A act i 0 L) (hi : i ≤ n) : (∀ j kd v ts, sRule T n i = (j, some (kd, v, ts)) → ∃ A', g_128 N A = some (0, A') ∧ PM (mSet A0 act kd v) A' act j 0 (L ++ mApp kd v ts)) ∧ (∀ j, sRule T n i = (j, none) → ∃ A', g_128 N A = some (0, A') ∧ PF A0 A' act j) := by
  have ha := h0.1
  have hn := h0.2.1
  have k48 : (48 : Int32).toInt = 48 := rfl
  have k50 : (50 : Int32).toInt = 50 := rfl
  have h1 := m_wd hN (show 1 < 4 by omega) h0 h hi
  have hk := sWd_ok (T := T) (wd 1) i (wd_c 1 (by omega)) hi
  have wr : ∀ (A : mS) (j : Nat), PG A0 A act → A 99 6 = Int32.ofNat j → ∃ A', g_128_13 N A = some (0, A') ∧ PF A0 A' act j := by
    intro A j hg h6
    have hw := PF_wr hg h6
    unfold g_128_13 g_128_16
    simp only [t01, e_bd, e_bdn, e_st, e_li, e_bs, e_opn, e_ops, e_ob, e_vo, e_ia, e_eq, e_ne, e_lt, e_ge, e_gt, e_le, cond_true, cond_false, Bool.cond_decide]
    generalize va_up A 99 (upd (A 99) 8 1) = A1 at hw
    rw [if_pos (by rw [hw.2.2]; decide)]
    exact ⟨A1, rfl, hw⟩
  unfold sRule g_128
  cases hs : sWd T n (wd 1) i with
  | mk j b => cases b with
    | false =>
      obtain ⟨A1, e1, p1⟩ := h1.2 j hs
      refine ⟨fun j' kd v ts hh => (by cases hh), fun j' hh => ?_⟩
      cases hh
      obtain ⟨A2, e2, p2⟩ := wr A1 j p1.1 p1.2.1
      exact ⟨A2, by simp only [e1, e_bd, e_bdn, e_st, e_li, e_bs, e_opn, e_ops, e_ob, e_vo, e_ia, e_eq, e_ne, e_lt, e_ge, e_gt, e_le, cond_true, cond_false, Bool.cond_decide, p1.2.2, show ¬ (1 : Int32) = 0 by decide, not_false_eq_true, if_true, e2], p2⟩
    | true =>
      obtain ⟨A1, e1, p1⟩ := h1.1 j hs
      have hj := hk.1 j hs
      have e := m_hr (N := N) h0 p1.1 p1.2.1 hj.2
      simp only [e1, e_bd, e_bdn, e_st, e_li, e_bs, e_opn, e_ops, e_ob, e_vo, e_ia, e_eq, e_ne, e_lt, e_ge, e_gt, e_le, cond_true, cond_false, Bool.cond_decide, p1.2.2.1, not_true, if_false, e, m_in, z_le, k48, k50]
      by_cases c : 48 ≤ (tp T n j).toInt ∧ (tp T n j).toInt ≤ 50
      · rw [if_pos c, decide_eq_true c, if_pos (show ¬ b_i true = 0 by decide)]
        refine ⟨fun j' kd v ts hh => ?_, fun j' hh => (by cases hh)⟩
        cases hh
        have hdg : dg (tp T n j) = true := by unfold dg; rw [decide_eq_true_iff]; omega
        obtain ⟨hd1, hd2⟩ := dg_dv hdg
        have hx : tp T n j - 48 = Int32.ofNat (dv (tp T n j)) := by
          have hd5 : tp T n j = Int32.ofNat (48 + dv (tp T n j)) := hd2
          generalize dv (tp T n j) = w at hd5
          rw [hd5, show (48 : Int32) = Int32.ofNat 48 from rfl, o_sub (by omega)]
          congr 1
          omega
        have h5' : A1 99 5 = Int32.ofNat act := (p1.1.2.1 5 (by decide)).trans h0.2.2.1
        have p2 := PM_set (j := 232 + act) (x := Int32.ofNat (dv (tp T n j))) (.inl rfl) ha p1
        have p3 := PM_up6 (i' := j + 1) p2
        refine ⟨va_up (va_up A1 0 (upd (A1 0) (232 + act) (Int32.ofNat (dv (tp T n j))))) 99 (upd ((va_up A1 0 (upd (A1 0) (232 + act) (Int32.ofNat (dv (tp T n j))))) 99) 6 (Int32.ofNat (j + 1))), ?_, ?_⟩
        rotate_left
        · show PM (mSet A0 act 2 (dv (tp T n j))) _ act (j + 1) 0 (L ++ [])
          rw [List.append_nil]
          exact p3
        · unfold g_128_16
          simp only [t00, e_bd, e_bdn, e_st, e_li, e_bs, e_opn, e_ops, e_ob, e_vo, e_ia, e_eq, e_ne, e_lt, e_ge, e_gt, e_le, cond_true, cond_false, Bool.cond_decide, up_id p1.2.2.1, p1.2.2.1, not_true, if_false, e, h5', show (232 : Int32) + Int32.ofNat act = Int32.ofNat (232 + act) from o_add (p := 232), show a_in (Int32.ofNat (232 + act)) 947 = true by rw [o_in (by omega)]; simp; omega, o_cl (show 232 + act < 2147483648 by omega), hx, va_up_ne _ _ (show (99 : Nat) ≠ 0 by decide), p1.2.1, show Int32.ofNat (j) + 1 = Int32.ofNat (j + 1) from o_add (q := 1)]
          rfl
      · rw [if_neg c, decide_eq_false c, if_neg (show ¬ ¬ b_i false = 0 by decide)]
        refine ⟨fun j' kd v ts hh => (by cases hh), fun j' hh => ?_⟩
        cases hh
        exact wr A1 j p1.1 p1.2.1
theorem m_gf (hN : 200 ≤ N) (h0 : HM A0 T n act) (h : PM A0 A act i 0 L) (hi : i ≤ n) : (∀ j kd v ts, sGift T n i = (j, some (kd, v, ts)) → ∃ A', g_129 N A = some (0, A') ∧ PM (mSet A0 act kd v) A' act j 0 (L ++ mApp kd v ts)) ∧ (∀ j, sGift T n i = (j, none) → ∃ A', g_129 N A = some (0, A') ∧ PF A0 A' act j) := by
  have ha := h0.1
  have h1 := m_wd hN (show 2 < 4 by omega) h0 h hi
  have hk := sWd_ok (T := T) (wd 2) i (wd_c 2 (by omega)) hi
  unfold sGift g_129
  cases hs : sWd T n (wd 2) i with
  | mk j b => cases b with
    | false =>
      obtain ⟨A1, e1, p1⟩ := h1.2 j hs
      refine ⟨fun j' kd v ts hh => (by cases hh), fun j' hh => ?_⟩
      cases hh
      exact ⟨A1, by simp only [e1, e_bd, e_bdn, e_st, e_li, e_bs, e_opn, e_ops, e_ob, e_vo, e_ia, e_eq, e_ne, e_lt, e_ge, e_gt, e_le, cond_true, cond_false, Bool.cond_decide, id_fi (N := N) (by omega) p1.2.2, p1.2.2, show ¬ (1 : Int32) = 0 by decide, not_false_eq_true, if_true], p1⟩
    | true =>
      obtain ⟨A1, e1, p1⟩ := h1.1 j hs
      have hj := hk.1 j hs
      have h2 := m_fi (N := N) (by omega) h0 p1 hj.2
      simp only [e1, e_bd, e_bdn, e_st, e_li, e_bs, e_opn, e_ops, e_ob, e_vo, e_ia, e_eq, e_ne, e_lt, e_ge, e_gt, e_le, cond_true, cond_false, Bool.cond_decide]
      cases hm : sNum T n j with
      | mk k ov => cases ov with
        | none =>
          obtain ⟨A2, e2, p2⟩ := h2.2 k hm
          refine ⟨fun j' kd v ts hh => (by cases hh), fun j' hh => ?_⟩
          cases hh
          exact ⟨A2, by simp only [e2, e_bd, e_bdn, e_st, e_li, e_bs, e_opn, e_ops, e_ob, e_vo, e_ia, e_eq, e_ne, e_lt, e_ge, e_gt, e_le, cond_true, cond_false, Bool.cond_decide, p2.2.2, show ¬ (1 : Int32) = 0 by decide, not_false_eq_true, if_true], p2⟩
        | some v =>
          obtain ⟨A2, e2, p2⟩ := h2.1 k v hm
          refine ⟨fun j' kd v ts hh => ?_, fun j' hh => (by cases hh)⟩
          cases hh
          have h5' : A2 99 5 = Int32.ofNat act := (p2.1.2.1 5 (by decide)).trans h0.2.2.1
          have p3 := PM_set (j := 237 + act) (x := Int32.ofNat v) (.inr rfl) ha p2
          refine ⟨va_up A2 0 (upd (A2 0) (237 + act) (Int32.ofNat v)), ?_, ?_⟩
          rotate_left
          · show PM (mSet A0 act 3 v) _ act k 0 (L ++ [])
            rw [List.append_nil]
            exact p3
          · simp only [e2, e_bd, e_bdn, e_st, e_li, e_bs, e_opn, e_ops, e_ob, e_vo, e_ia, e_eq, e_ne, e_lt, e_ge, e_gt, e_le, cond_true, cond_false, Bool.cond_decide, p2.2.2.1, not_true, if_false, h5', show (237 : Int32) + Int32.ofNat act = Int32.ofNat (237 + act) from o_add (p := 237), show a_in (Int32.ofNat (237 + act)) 947 = true by rw [o_in (by omega)]; simp; omega, o_cl (show 237 + act < 2147483648 by omega)]
/-- clauseHere -/
theorem m_cl (hN : 200 ≤ N) (h0 : HM A0 T n act) (h : PM A0 A act i 0 L) (hl : L.length ≤ i) (hi : i ≤ n) : (∀ j kd v ts, sCl T n i = (j, some (kd, v, ts)) → ∃ A', g_130 N A = some (0, A') ∧ PM (mSet A0 act kd v) A' act j 0 (L ++ mApp kd v ts)) ∧ (∀ j, sCl T n i = (j, none) → ∃ A', g_130 N A = some (0, A') ∧ PF A0 A' act j) := by
  have e := m_hr (N := N) h0 h.1 h.2.1 hi
  unfold sCl g_130
  simp only [e, e_bd, e_bdn, e_st, e_li, e_bs, e_opn, e_ops, e_ob, e_vo, e_ia, e_eq, e_ne, e_lt, e_ge, e_gt, e_le, cond_true, cond_false, Bool.cond_decide, lsw4]
  by_cases c1 : tp T n i = 103
  · simp only [c1, if_true]
    have h1 := m_gf hN h0 h hi
    refine ⟨fun j kd v ts hh => ?_, fun j hh => ?_⟩
    · obtain ⟨A', e', p'⟩ := h1.1 j kd v ts hh
      exact ⟨A', by simp only [e', e_bd, e_bdn, e_st, e_li, e_bs, e_opn, e_ops, e_ob, e_vo, e_ia, e_eq, e_ne, e_lt, e_ge, e_gt, e_le, cond_true, cond_false, Bool.cond_decide], p'⟩
    · obtain ⟨A', e', p'⟩ := h1.2 j hh
      exact ⟨A', by simp only [e', e_bd, e_bdn, e_st, e_li, e_bs, e_opn, e_ops, e_ob, e_vo, e_ia, e_eq, e_ne, e_lt, e_ge, e_gt, e_le, cond_true, cond_false, Bool.cond_decide], p'⟩
  · simp only [c1, if_false]
    by_cases c2 : tp T n i = 104
    · simp only [c2, if_true, show ¬ (8 : Nat) = 16 by decide, if_false]
      have h1 := m_mu (kd := 1) (x1 := -200) hN (show 0 < 4 by omega) h0 h hl hi
      refine ⟨fun j kd v ts hh => ?_, fun j hh => ?_⟩
      · obtain ⟨rfl, A', e', p'⟩ := h1.1 j kd v ts hh
        refine ⟨A', by simp only [e', e_bd, e_bdn, e_st, e_li, e_bs, e_opn, e_ops, e_ob, e_vo, e_ia, e_eq, e_ne, e_lt, e_ge, e_gt, e_le, cond_true, cond_false, Bool.cond_decide], ?_⟩
        show PM A0 A' act j 0 (L ++ (ts.map t_m ++ [-200 - Int32.ofNat v]))
        rw [← List.append_assoc]
        exact p'
      · obtain ⟨A', e', p'⟩ := h1.2 j hh
        exact ⟨A', by simp only [e', e_bd, e_bdn, e_st, e_li, e_bs, e_opn, e_ops, e_ob, e_vo, e_ia, e_eq, e_ne, e_lt, e_ge, e_gt, e_le, cond_true, cond_false, Bool.cond_decide], p'⟩
    · simp only [c2, if_false]
      by_cases c3 : tp T n i = 114
      · simp only [c3, if_true, show ¬ (13 : Nat) = 16 by decide, show ¬ (13 : Nat) = 8 by decide, if_false]
        have h1 := m_ru hN h0 h hi
        refine ⟨fun j kd v ts hh => ?_, fun j hh => ?_⟩
        · obtain ⟨A', e', p'⟩ := h1.1 j kd v ts hh
          exact ⟨A', by simp only [e', e_bd, e_bdn, e_st, e_li, e_bs, e_opn, e_ops, e_ob, e_vo, e_ia, e_eq, e_ne, e_lt, e_ge, e_gt, e_le, cond_true, cond_false, Bool.cond_decide], p'⟩
        · obtain ⟨A', e', p'⟩ := h1.2 j hh
          exact ⟨A', by simp only [e', e_bd, e_bdn, e_st, e_li, e_bs, e_opn, e_ops, e_ob, e_vo, e_ia, e_eq, e_ne, e_lt, e_ge, e_gt, e_le, cond_true, cond_false, Bool.cond_decide], p'⟩
      · simp only [c3, if_false]
        by_cases c4 : tp T n i = 119
        · simp only [c4, if_true, show ¬ (3 : Nat) = 16 by decide, show ¬ (3 : Nat) = 8 by decide, show ¬ (3 : Nat) = 13 by decide, if_false]
          have h1 := m_mu (kd := 0) (x1 := -10) hN (show 3 < 4 by omega) h0 h hl hi
          refine ⟨fun j kd v ts hh => ?_, fun j hh => ?_⟩
          · obtain ⟨rfl, A', e', p'⟩ := h1.1 j kd v ts hh
            refine ⟨A', by simp only [e', e_bd, e_bdn, e_st, e_li, e_bs, e_opn, e_ops, e_ob, e_vo, e_ia, e_eq, e_ne, e_lt, e_ge, e_gt, e_le, cond_true, cond_false, Bool.cond_decide], ?_⟩
            show PM A0 A' act j 0 (L ++ (ts.map t_m ++ [-10 - Int32.ofNat v]))
            rw [← List.append_assoc]
            exact p'
          · obtain ⟨A', e', p'⟩ := h1.2 j hh
            exact ⟨A', by simp only [e', e_bd, e_bdn, e_st, e_li, e_bs, e_opn, e_ops, e_ob, e_vo, e_ia, e_eq, e_ne, e_lt, e_ge, e_gt, e_le, cond_true, cond_false, Bool.cond_decide], p'⟩
        · simp only [c4, if_true, show ¬ (19 : Nat) = 16 by decide, show ¬ (19 : Nat) = 8 by decide, show ¬ (19 : Nat) = 13 by decide, show ¬ (19 : Nat) = 3 by decide, if_false]
          exact ⟨fun j kd v ts hh => (by cases hh), fun j hh => by cases hh; exact ⟨_, rfl, PF_wr h.1 h.2.1⟩⟩
def VB (B0 A : mS) (act : Nat) : Prop := fr [0, 99] B0 A ∧ f9 [6, 8, 9] B0 A ∧ ∀ j, ¬ SL act j → j ≠ 232 + act → j ≠ 237 + act → A 0 j = B0 0 j
theorem VB_pg {B0 : mS} (h : VB B0 A0 act) (hg : PG A0 A act) : VB B0 A act := ⟨fr_tr h.1 hg.1, f9_tr h.2.1 hg.2.1, fun j h1 h2 h3 => (hg.2.2 j h1).trans (h.2.2 j h1 h2 h3)⟩
theorem VB_set {B0 : mS} {kd v : Nat} (h : VB B0 A0 act) : VB B0 (mSet A0 act kd v) act := by
  unfold mSet
  split
  · exact ⟨fr_up h.1 (by simp), fun f hf => by rw [va_up_ne _ _ (by decide)]; exact h.2.1 f hf, fun j h1 h2 h3 => by rw [va_up_self, upd_ne _ _ h2]; exact h.2.2 j h1 h2 h3⟩
  · split
    · exact ⟨fr_up h.1 (by simp), fun f hf => by rw [va_up_ne _ _ (by decide)]; exact h.2.1 f hf, fun j h1 h2 h3 => by rw [va_up_self, upd_ne _ _ h3]; exact h.2.2 j h1 h2 h3⟩
    · exact h
theorem HM_set {kd v : Nat} (h : HM A0 T n act) : HM (mSet A0 act kd v) T n act := by
  obtain ⟨ha, hn, h5, h7, ht⟩ := h
  unfold mSet
  split
  · exact ⟨ha, hn, by rw [va_up_ne _ _ (by decide)]; exact h5, by rw [va_up_ne _ _ (by decide)]; exact h7, fun j hj => by rw [va_up_self, upd_ne _ _ (by omega)]; exact ht j hj⟩
  · split
    · exact ⟨ha, hn, by rw [va_up_ne _ _ (by decide)]; exact h5, by rw [va_up_ne _ _ (by decide)]; exact h7, fun j hj => by rw [va_up_self, upd_ne _ _ (by omega)]; exact ht j hj⟩
    · exact ⟨ha, hn, h5, h7, ht⟩
theorem sAp_m {kd v : Nat} {ts : List tk} {V : List cl} {ru gi : Nat} (hk : kd ≤ 3) : c_sts (sAp (kd, v, ts) V ru gi).1 = c_sts V ++ mApp kd v ts := by
  rcases (show kd = 0 ∨ kd = 1 ∨ kd = 2 ∨ kd = 3 by omega) with rfl | rfl | rfl | rfl
  · simp [sAp, mApp, c_sts, c_st]
  · simp [sAp, mApp, c_sts, c_st]
  · simp [sAp, mApp]
  · simp [sAp, mApp]
theorem m_va (hN : 200 ≤ N) {B0 : mS} {q : Nat} : ∀ (m i : Nat) (V : List cl) (ru gi : Nat) (A0 A : mS), m ≤ 9 → HM A0 T n act → PM A0 A act i 0 (c_sts V) → (c_sts V).length ≤ i → i ≤ n → A0 0 (232 + act) = Int32.ofNat ru → A0 0 (237 + act) = Int32.ofNat gi → VB B0 A0 act →
    (∀ j V' ru' gi', sVal T n m i V ru gi = (j, some (V', ru', gi')) → ∃ A', (m_bd (g_130 N A) fun _ A4 => g_131_62 N (m + 1 + q) (Int32.ofNat (10 - m)) A4) = some (Int32.ofNat act, va_up A' 0 (upd (upd (A' 0) 12 (A' 0 12 + 1)) 17 (Int32.ofNat act))) ∧ VB B0 A' act ∧ A' 0 (232 + act) = Int32.ofNat ru' ∧ A' 0 (237 + act) = Int32.ofNat gi' ∧ A' 0 (242 + act) = Int32.ofNat (c_sts V').length ∧ sg (A' 0) (247 + 140 * act) (c_sts V') ∧ (c_sts V').length ≤ 120) ∧
    (∀ j, sVal T n m i V ru gi = (j, none) → ∃ A', (m_bd (g_130 N A) fun _ A4 => g_131_62 N (m + 1 + q) (Int32.ofNat (10 - m)) A4) = some (-10 - Int32.ofNat j, A') ∧ VB B0 A' act) := by
  intro m
  induction m with
  | zero =>
    intro i V ru gi A0 A hm h0 h hl hi hru hgi hv
    have hn := h0.2.1
    have ha := h0.1
    have h1 := m_cl hN h0 h hl hi
    have h2 := CX_cl (T := T) hi
    unfold sVal
    rw [show 0 + 1 + q = q + 1 by omega]
    cases hs : sCl T n i with
    | mk j ox => cases ox with
      | none =>
        obtain ⟨A1, e1, p1⟩ := h1.2 j hs
        refine ⟨fun j' V' ru' gi' hh => (by cases hh), fun j' hh => ?_⟩
        cases hh
        refine ⟨A1, ?_, VB_pg hv p1.1⟩
        rw [e1]
        show g_131_62b _ _ _ _ = _
        unfold g_131_62b g_131_82
        simp only [e_bd, e_bdn, e_st, e_li, e_bs, e_opn, e_ops, e_ob, e_vo, e_ia, e_eq, e_ne, e_lt, e_ge, e_gt, e_le, cond_true, cond_false, Bool.cond_decide, p1.2.2, show ¬ (1 : Int32) = 0 by decide, not_false_eq_true, if_true, p1.2.1]
      | some x =>
        obtain ⟨kd, v, ts⟩ := x
        obtain ⟨A1, e1, p1⟩ := h1.1 j kd v ts hs
        obtain ⟨b1, b2, b3, b4, -⟩ := h2.1 j kd v ts hs
        have h0' := HM_set (kd := kd) (v := v) h0
        have h5' : A1 99 5 = Int32.ofNat act := (p1.1.2.1 5 (by decide)).trans h0'.2.2.1
        have h7' : A1 99 7 = Int32.ofNat n := (p1.1.2.1 7 (by decide)).trans h0'.2.2.2.1
        have est : (m_bd (g_130 N A) fun _ A4 => g_131_62 N (q + 1) (Int32.ofNat (10 - 0)) A4) = g_131_82 N A1 := by
          rw [e1]
          show g_131_62b _ _ _ _ = _
          unfold g_131_62b
          simp only [e_bd, e_bdn, e_st, e_li, e_bs, e_opn, e_ops, e_ob, e_vo, e_ia, e_eq, e_ne, e_lt, e_ge, e_gt, e_le, cond_true, cond_false, Bool.cond_decide, p1.2.2.1, not_true, if_false, show (10 : Int32) ≤ Int32.ofNat (10 - 0) by decide, if_true]
        rw [est]
        unfold g_131_82
        simp only [e_bd, e_bdn, e_st, e_li, e_bs, e_opn, e_ops, e_ob, e_vo, e_ia, e_eq, e_ne, e_lt, e_ge, e_gt, e_le, cond_true, cond_false, Bool.cond_decide, p1.2.2.1, not_true, if_false, p1.2.1, h7', h5', o_eq (show j < 2147483648 by omega) (show n < 2147483648 by omega)]
        by_cases c : j = n
        · rw [if_pos c, if_pos c]
          refine ⟨fun j' V' ru' gi' hh => ?_, fun j' hh => (by cases hh)⟩
          have hap := sAp_m (kd := kd) (v := v) (ts := ts) (V := V) (ru := ru) (gi := gi) b1
          cases hap2 : sAp (kd, v, ts) V ru gi with
          | mk V2 rg =>
            obtain ⟨r2, g2⟩ := rg
            rw [hap2] at hh hap
            cases hh
            refine ⟨A1, rfl, VB_pg (VB_set hv) p1.1, ?_, ?_, ?_, ?_, ?_⟩
            · rw [p1.1.2.2 (232 + act) (by unfold SL; omega)]
              unfold sAp at hap2
              unfold mSet
              rcases (show kd = 0 ∨ kd = 1 ∨ kd = 2 ∨ kd = 3 by omega) with rfl | rfl | rfl | rfl
              · simp at hap2; obtain ⟨-, rfl, rfl⟩ := hap2; exact hru
              · simp at hap2; obtain ⟨-, rfl, rfl⟩ := hap2; exact hru
              · simp at hap2; obtain ⟨-, rfl, rfl⟩ := hap2; rw [if_pos rfl, va_up_self, upd_self]
              · simp at hap2; obtain ⟨-, rfl, rfl⟩ := hap2; rw [if_neg (by omega), if_pos rfl, va_up_self, upd_ne _ _ (by omega)]; exact hru
            · rw [p1.1.2.2 (237 + act) (by unfold SL; omega)]
              unfold sAp at hap2
              unfold mSet
              rcases (show kd = 0 ∨ kd = 1 ∨ kd = 2 ∨ kd = 3 by omega) with rfl | rfl | rfl | rfl
              · simp at hap2; obtain ⟨-, rfl, rfl⟩ := hap2; exact hgi
              · simp at hap2; obtain ⟨-, rfl, rfl⟩ := hap2; exact hgi
              · simp at hap2; obtain ⟨-, rfl, rfl⟩ := hap2; rw [if_pos rfl, va_up_self, upd_ne _ _ (by omega)]; exact hgi
              · simp at hap2; obtain ⟨-, rfl, rfl⟩ := hap2; rw [if_neg (by omega), if_pos rfl, va_up_self, upd_self]
            · rw [hap]; exact p1.2.2.2.2.1
            · rw [hap]; exact p1.2.2.2.2.2
            · rw [hap]
              have : (mApp kd v ts).length ≤ ts.length + 1 := by unfold mApp; split; simp; split; simp; simp
              simp; omega
        · rw [if_neg c, if_neg c]
          refine ⟨fun j' V' ru' gi' hh => (by cases hh), fun j' hh => ?_⟩
          cases hh
          exact ⟨A1, rfl, VB_pg (VB_set hv) p1.1⟩
  | succ m ih =>
    intro i V ru gi A0 A hm h0 h hl hi hru hgi hv
    have hn := h0.2.1
    have ha := h0.1
    have h1 := m_cl hN h0 h hl hi
    have h2 := CX_cl (T := T) hi
    unfold sVal
    rw [show m + 1 + 1 + q = (m + 1 + q) + 1 by omega]
    cases hs : sCl T n i with
    | mk j ox => cases ox with
      | none =>
        obtain ⟨A1, e1, p1⟩ := h1.2 j hs
        refine ⟨fun j' V' ru' gi' hh => (by cases hh), fun j' hh => ?_⟩
        cases hh
        refine ⟨A1, ?_, VB_pg hv p1.1⟩
        rw [e1]
        show g_131_62b _ _ _ _ = _
        unfold g_131_62b g_131_82
        simp only [e_bd, e_bdn, e_st, e_li, e_bs, e_opn, e_ops, e_ob, e_vo, e_ia, e_eq, e_ne, e_lt, e_ge, e_gt, e_le, cond_true, cond_false, Bool.cond_decide, p1.2.2, show ¬ (1 : Int32) = 0 by decide, not_false_eq_true, if_true, p1.2.1]
      | some x =>
        obtain ⟨kd, v, ts⟩ := x
        obtain ⟨A1, e1, p1⟩ := h1.1 j kd v ts hs
        obtain ⟨b1, b2, b3, b4, -⟩ := h2.1 j kd v ts hs
        have h0' := HM_set (kd := kd) (v := v) h0
        have h5' : A1 99 5 = Int32.ofNat act := (p1.1.2.1 5 (by decide)).trans h0'.2.2.1
        have h7' : A1 99 7 = Int32.ofNat n := (p1.1.2.1 7 (by decide)).trans h0'.2.2.2.1
        have e := m_hr (N := N) h0' p1.1 p1.2.1 b3
        have hml : (mApp kd v ts).length ≤ ts.length + 1 := by unfold mApp; split; simp; split; simp; simp
        have hap := sAp_m (kd := kd) (v := v) (ts := ts) (V := V) (ru := ru) (gi := gi) b1
        have hru2 : (mSet A0 act kd v) 0 (232 + act) = Int32.ofNat (sAp (kd, v, ts) V ru gi).2.1 := by
          unfold sAp mSet
          rcases (show kd = 0 ∨ kd = 1 ∨ kd = 2 ∨ kd = 3 by omega) with rfl | rfl | rfl | rfl
          · exact hru
          · exact hru
          · rw [if_pos rfl, va_up_self, upd_self]; rfl
          · rw [if_neg (by omega), if_pos rfl, va_up_self, upd_ne _ _ (by omega)]; exact hru
        have hgi2 : (mSet A0 act kd v) 0 (237 + act) = Int32.ofNat (sAp (kd, v, ts) V ru gi).2.2 := by
          unfold sAp mSet
          rcases (show kd = 0 ∨ kd = 1 ∨ kd = 2 ∨ kd = 3 by omega) with rfl | rfl | rfl | rfl
          · exact hgi
          · exact hgi
          · rw [if_pos rfl, va_up_self, upd_ne _ _ (by omega)]; exact hgi
          · rw [if_neg (by omega), if_pos rfl, va_up_self, upd_self]; rfl
        have est : (m_bd (g_130 N A) fun _ A4 => g_131_62 N (m + 1 + q + 1) (Int32.ofNat (10 - (m + 1))) A4) = if ¬ tp T n j = 59 then g_131_82 N A1 else m_bd (g_130 N (va_up A1 99 (upd (A1 99) 6 (Int32.ofNat (j + 1))))) fun _ A6 => g_131_62 N (m + 1 + q) (Int32.ofNat (10 - m)) A6 := by
          rw [e1]
          show g_131_62b _ _ _ _ = _
          unfold g_131_62b
          simp only [e_bd, e_bdn, e_st, e_li, e_bs, e_opn, e_ops, e_ob, e_vo, e_ia, e_eq, e_ne, e_lt, e_ge, e_gt, e_le, cond_true, cond_false, Bool.cond_decide, p1.2.2.1, not_true, if_false, show ¬ (10 : Int32) ≤ Int32.ofNat (10 - (m + 1)) by rw [show (10 : Int32) = Int32.ofNat 10 from rfl, o_le (by omega) (by omega)]; omega, e, p1.2.1, show Int32.ofNat (j) + 1 = Int32.ofNat (j + 1) from o_add (q := 1), show Int32.ofNat (10 - (m + 1)) + 1 = Int32.ofNat (10 - (m + 1) + 1) from o_add (q := 1), show 10 - (m + 1) + 1 = 10 - m by omega]
        rw [est]
        simp only
        by_cases c : j = n
        · have ct : ¬ tp T n j = 59 := by unfold tp; rw [if_neg (by omega)]; decide
          rw [if_pos c, if_pos ct]
          unfold g_131_82
          simp only [e_bd, e_bdn, e_st, e_li, e_bs, e_opn, e_ops, e_ob, e_vo, e_ia, e_eq, e_ne, e_lt, e_ge, e_gt, e_le, cond_true, cond_false, Bool.cond_decide, p1.2.2.1, not_true, if_false, p1.2.1, h7', h5', o_eq (show j < 2147483648 by omega) (show n < 2147483648 by omega), c, if_true]
          refine ⟨fun j' V' ru' gi' hh => ?_, fun j' hh => (by cases hh)⟩
          cases hap2 : sAp (kd, v, ts) V ru gi with
          | mk V2 rg =>
            obtain ⟨r2, g2⟩ := rg
            rw [hap2] at hh hap hru2 hgi2
            cases hh
            refine ⟨A1, rfl, VB_pg (VB_set hv) p1.1, ?_, ?_, ?_, ?_, ?_⟩
            · rw [p1.1.2.2 (232 + act) (by unfold SL; omega)]; exact hru2
            · rw [p1.1.2.2 (237 + act) (by unfold SL; omega)]; exact hgi2
            · rw [hap]; exact p1.2.2.2.2.1
            · rw [hap]; exact p1.2.2.2.2.2
            · rw [hap]; simp; omega
        · rw [if_neg c]
          by_cases c2 : tp T n j = 59
          · rw [if_pos c2, if_neg (by simp [c2])]
            have hlt := tp_lt c2 (by decide)
            exact ih (j + 1) _ _ _ (mSet A0 act kd v) _ (by omega) h0' (by rw [hap]; exact PM_up6 p1) (by rw [hap]; simp; omega) (by omega) hru2 hgi2 (VB_set hv)
          · rw [if_neg c2, if_pos c2]
            refine ⟨fun j' V' ru' gi' hh => (by cases hh), fun j' hh => ?_⟩
            cases hh
            unfold g_131_82
            simp only [e_bd, e_bdn, e_st, e_li, e_bs, e_opn, e_ops, e_ob, e_vo, e_ia, e_eq, e_ne, e_lt, e_ge, e_gt, e_le, cond_true, cond_false, Bool.cond_decide, p1.2.2.1, not_true, if_false, p1.2.1, h7', h5', o_eq (show j < 2147483648 by omega) (show n < 2147483648 by omega), c]
            exact ⟨A1, rfl, VB_pg (VB_set hv) p1.1⟩
end MPV
