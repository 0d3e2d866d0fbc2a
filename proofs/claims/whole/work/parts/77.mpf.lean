/-! 77.mpf: the model's factor, every, some -/
section MPF
variable {N : Nat} {A0 A : mS} {T : Nat → Int32} {n act i o : Nat} {L : List Int32} {rf : mS → Option (Int32 × mS)}
theorem t01 : (decide ((1 : Int32) = 0) || decide ((1 : Int32) = 1)) = true := by decide
theorem t00 : (decide ((0 : Int32) = 0) || decide ((0 : Int32) = 1)) = true := by decide
theorem te_91 (hN : 10 ≤ N) (h : A 99 8 = 1) {x2 x3 : Int32} : g_124_91 N rf x2 x3 1 A = some (0, A) := by
  unfold g_124_91
  simp only [t01, e_bd, e_bdn, e_st, e_li, e_bs, e_opn, e_ops, e_ob, e_vo, e_ia, e_eq, e_ne, e_lt, e_ge, e_gt, e_le, cond_true, cond_false, Bool.cond_decide, up_id h, id_fi hN h, id_em h]
  rfl
theorem te_80 (hN : 10 ≤ N) (h : A 99 8 = 1) {x2 x3 : Int32} : g_124_80 N rf x2 x3 A = some (0, A) := by
  unfold g_124_80 g_124_88
  simp only [e_bd, e_bdn, e_st, e_li, e_bs, e_opn, e_ops, e_ob, e_vo, e_ia, e_eq, e_ne, e_lt, e_ge, e_gt, e_le, cond_true, cond_false, Bool.cond_decide, h, show ¬ (1 : Int32) = 0 by decide, not_false_eq_true, if_true, te_91 hN h]
theorem te_w (hN : 10 ≤ N) (h : PG A0 A act) (h6 : A 99 6 = Int32.ofNat i) {x2 : Int32} : ∃ A', g_124_71 N rf x2 1 A = some (0, A') ∧ PF A0 A' act i := by
  have hw := PF_wr h h6
  unfold g_124_71
  simp only [t01, e_bd, e_bdn, e_st, e_li, e_bs, e_opn, e_ops, e_ob, e_vo, e_ia, e_eq, e_ne, e_lt, e_ge, e_gt, e_le, cond_true, cond_false, Bool.cond_decide]
  generalize va_up A 99 (upd (A 99) 8 1) = A1 at hw
  rw [if_neg (by rw [hw.2.2]; decide), te_80 hN hw.2.2]
  exact ⟨A1, rfl, hw⟩
theorem te_w2 (hN : 10 ≤ N) (h : PM A0 A act i o L) {x2 : Int32} : ∃ A', g_124_80 N rf x2 (-1) A = some (0, A') ∧ PF A0 A' act i := by
  have hw := PF_wr h.1 h.2.1
  unfold g_124_80 g_124_88 g_124_91
  simp only [t01, e_bd, e_bdn, e_st, e_li, e_bs, e_opn, e_ops, e_ob, e_vo, e_ia, e_eq, e_ne, e_lt, e_ge, e_gt, e_le, cond_true, cond_false, Bool.cond_decide, h.2.2.1, not_true, if_false]
  generalize va_up A 99 (upd (A 99) 8 1) = A1 at hw
  simp only [id_fi hN hw.2.2, id_em hw.2.2, e_bd, e_bdn, e_st, e_li, e_bs, e_opn, e_ops, e_ob, e_vo, e_ia, e_eq, e_ne, e_lt, e_ge, e_gt, e_le, cond_true, cond_false, Bool.cond_decide]
  exact ⟨A1, rfl, hw⟩
/-- a test -/
theorem m_te (hN : 10 ≤ N) (h0 : HM A0 T n act) (h : PM A0 A act i o L) (hl : L.length ≤ i) (hi : i ≤ n) : RM A0 act o L (m_bd (g_122 N 6 A) fun r2 A2 => if ¬ r2 = -1 then g_124_71 N rf r2 0 A2 else g_124_71 N rf r2 1 A2) (sTest T n i) := by
  have hn := h0.2.1
  have h1 := m_as hN h0 h hi
  unfold sTest
  cases ha : aIx (tp T n i) with
  | none =>
    rw [h1.2 ha]
    simp only [e_bd, e_bdn, e_st, e_li, e_bs, e_opn, e_ops, e_ob, e_vo, e_ia, e_eq, e_ne, e_lt, e_ge, e_gt, e_le, cond_true, cond_false, Bool.cond_decide, not_true, if_false]
    obtain ⟨A', e', hp⟩ := te_w (rf := rf) (x2 := -1) hN h.1 h.2.1
    exact ⟨fun j ts hh => (by cases hh), fun j hh => by cases hh; exact ⟨A', e', hp⟩⟩
  | some a =>
    have ha5 := (aIx_ok ha).1
    have hlt := tp_lt (T := T) (n := n) rfl (aIx_ok ha).2
    obtain ⟨A1, e1, p1⟩ := h1.1 a ha
    rw [e1]
    simp only [e_bd, e_bdn, e_st, e_li, e_bs, e_opn, e_ops, e_ob, e_vo, e_ia, e_eq, e_ne, e_lt, e_ge, e_gt, e_le, cond_true, cond_false, Bool.cond_decide, m_ofnat_ne (show a < 2147483648 by omega), not_false_eq_true, if_true]
    unfold g_124_71
    simp only [t00, e_bd, e_bdn, e_st, e_li, e_bs, e_opn, e_ops, e_ob, e_vo, e_ia, e_eq, e_ne, e_lt, e_ge, e_gt, e_le, cond_true, cond_false, Bool.cond_decide, up_id p1.2.2.1, p1.2.2.1, if_true]
    have h2 := m_sg hN h0 p1 (show i + 1 ≤ n by omega)
    cases hg : gIx (tp T n (i + 1)) with
    | none =>
      rw [h2.2 hg]
      simp only [e_bd, e_bdn, e_st, e_li, e_bs, e_opn, e_ops, e_ob, e_vo, e_ia, e_eq, e_ne, e_lt, e_ge, e_gt, e_le, cond_true, cond_false, Bool.cond_decide]
      obtain ⟨A', e', hp⟩ := te_w2 (rf := rf) (x2 := Int32.ofNat a) hN p1
      exact ⟨fun j ts hh => (by cases hh), fun j hh => by cases hh; exact ⟨A', e', hp⟩⟩
    | some g =>
      have hg3 := (gIx_ok hg).1
      have hlt2 := tp_lt (T := T) (n := n) rfl (gIx_ok hg).2
      obtain ⟨A2, e2, p2⟩ := h2.1 g hg
      rw [e2]
      simp only [e_bd, e_bdn, e_st, e_li, e_bs, e_opn, e_ops, e_ob, e_vo, e_ia, e_eq, e_ne, e_lt, e_ge, e_gt, e_le, cond_true, cond_false, Bool.cond_decide]
      unfold g_124_80 g_124_91
      simp only [e_bd, e_bdn, e_st, e_li, e_bs, e_opn, e_ops, e_ob, e_vo, e_ia, e_eq, e_ne, e_lt, e_ge, e_gt, e_le, cond_true, cond_false, Bool.cond_decide, p2.2.2.1, not_true, if_false, m_ofnat_ne (show g < 2147483648 by omega), not_false_eq_true, if_true, t00, up_id p2.2.2.1]
      have h3 := m_fi hN h0 p2 (show i + 1 + 1 ≤ n by omega)
      have h4 := sNum_ok (T := T) (n := n) (show i + 2 ≤ n by omega)
      cases hs : sNum T n (i + 2) with
      | mk j ov => cases ov with
        | none =>
          obtain ⟨A3, e3, p3⟩ := h3.2 j hs
          rw [e3]
          simp only [e_bd, e_bdn, e_st, e_li, e_bs, e_opn, e_ops, e_ob, e_vo, e_ia, e_eq, e_ne, e_lt, e_ge, e_gt, e_le, cond_true, cond_false, Bool.cond_decide, id_em p3.2.2]
          exact ⟨fun j' ts hh => (by cases hh), fun j' hh => by cases hh; exact ⟨A3, rfl, p3⟩⟩
        | some v =>
          obtain ⟨A3, e3, p3⟩ := h3.1 j v hs
          have h5 := h4.1 j v hs
          rw [e3]
          have hx : Int32.ofNat a + 8 * Int32.ofNat g + 32 * Int32.ofNat v = t_m (0, a, g, v) := by
            rw [show (8 : Int32) = Int32.ofNat 8 from rfl, show (32 : Int32) = Int32.ofNat 32 from rfl, o_mul, o_mul, o_add, o_add]
            rfl
          obtain ⟨A4, e4, p4⟩ := m_em (N := N) h0 p3 (by omega) (t_m (0, a, g, v))
          simp only [e_bd, e_bdn, e_st, e_li, e_bs, e_opn, e_ops, e_ob, e_vo, e_ia, e_eq, e_ne, e_lt, e_ge, e_gt, e_le, cond_true, cond_false, Bool.cond_decide, hx, e4]
          exact ⟨fun j' ts hh => by cases hh; exact ⟨A4, rfl, p4⟩, fun j' hh => (by cases hh)⟩
theorem id_ev (hN : 10 ≤ N) (hr : rf A = some (0, A)) (h : A 99 8 = 1) : g_125 N rf A = some (0, A) := by
  obtain ⟨q, rfl⟩ : ∃ q, N = q + 1 := ⟨N - 1, by omega⟩
  unfold g_125
  simp only [hr, e_bd, e_bdn, e_st, e_li, e_bs, e_opn, e_ops, e_ob, e_vo, e_ia, e_eq, e_ne, e_lt, e_ge, e_gt, e_le, cond_true, cond_false, Bool.cond_decide]
  show g_125_2b _ _ _ _ = _
  unfold g_125_2b
  simp only [e_bd, e_bdn, e_st, e_li, e_bs, e_opn, e_ops, e_ob, e_vo, e_ia, e_eq, e_ne, e_lt, e_ge, e_gt, e_le, cond_true, cond_false, Bool.cond_decide, h, show ¬ (1 : Int32) = 0 by decide, not_false_eq_true, if_true]
theorem id_so (hN : 10 ≤ N) (hr : rf A = some (0, A)) (h : A 99 8 = 1) : g_126 N rf A = some (0, A) := by
  obtain ⟨q, rfl⟩ : ∃ q, N = q + 1 := ⟨N - 1, by omega⟩
  unfold g_126
  simp only [id_ev hN hr h, e_bd, e_bdn, e_st, e_li, e_bs, e_opn, e_ops, e_ob, e_vo, e_ia, e_eq, e_ne, e_lt, e_ge, e_gt, e_le, cond_true, cond_false, Bool.cond_decide]
  show g_126_2b _ _ _ _ = _
  unfold g_126_2b
  simp only [e_bd, e_bdn, e_st, e_li, e_bs, e_opn, e_ops, e_ob, e_vo, e_ia, e_eq, e_ne, e_lt, e_ge, e_gt, e_le, cond_true, cond_false, Bool.cond_decide, h, show ¬ (1 : Int32) = 0 by decide, not_false_eq_true, if_true]
theorem m_Tl {f : Nat → sR} {B q : Nat} (h0 : HM A0 T n act) (hF : FM A0 n act o rf f) (hG : ∀ i, i ≤ n → GR B n i (f i)) : ∀ (m i : Nat) (ts : List tk) (A : mS), PM A0 A act i o (L ++ ts.map t_m) → L.length + ts.length ≤ i → i ≤ n → n ≤ i + m → RM A0 act o L (g_125_2 N rf (m + 1 + q) A) (sTl T n f m i ts) := by
  have hn := h0.2.1
  have stop : ∀ (k i : Nat) (ts : List tk) (A : mS), PM A0 A act i o (L ++ ts.map t_m) → i ≤ n → ¬ tp T n i = 38 → RM A0 act o L (g_125_2 N rf (k + 1) A) (i, some ts) := by
    intro k i ts A hp hi hc
    have e := m_hr (N := N) h0 hp.1 hp.2.1 hi
    have : g_125_2 N rf (k + 1) A = some (0, A) := by
      show g_125_2b _ _ _ _ = _
      unfold g_125_2b
      simp only [e_bd, e_bdn, e_st, e_li, e_bs, e_opn, e_ops, e_ob, e_vo, e_ia, e_eq, e_ne, e_lt, e_ge, e_gt, e_le, cond_true, cond_false, Bool.cond_decide, hp.2.2.1, not_true, if_false, e, hc, not_false_eq_true, if_true]
    rw [this]
    exact ⟨fun j us hh => by cases hh; exact ⟨A, rfl, hp⟩, fun j hh => (by cases hh)⟩
  intro m
  induction m with
  | zero =>
    intro i ts A hp hl hi hm
    rw [show 0 + 1 + q = q + 1 by omega]
    exact stop q i ts A hp hi (by unfold tp; rw [if_neg (by omega)]; decide)
  | succ m ih =>
    intro i ts A hp hl hi hm
    unfold sTl
    by_cases c : tp T n i = 38
    · rw [if_pos c]
      have hlt := tp_lt c (by decide)
      have e := m_hr (N := N) h0 hp.1 hp.2.1 hi
      have hp1 := PM_up6 (i' := i + 1) hp
      have h1 := hF.2 _ (i + 1) _ hp1 (by simp; omega) (by omega)
      have h2 := hG (i + 1) (by omega)
      have est : g_125_2 N rf (m + 1 + 1 + q) A = m_bd (rf (va_up A 99 (upd (A 99) 6 (Int32.ofNat (i + 1))))) fun r3 A3 => m_bd (g_123 N (-2 : Int32) A3) fun r4 A4 => g_125_2 N rf (m + 1 + q) A4 := by
        rw [show m + 1 + 1 + q = (m + 1 + q) + 1 by omega]
        show g_125_2b _ _ _ _ = _
        unfold g_125_2b
        simp only [e_bd, e_bdn, e_st, e_li, e_bs, e_opn, e_ops, e_ob, e_vo, e_ia, e_eq, e_ne, e_lt, e_ge, e_gt, e_le, cond_true, cond_false, Bool.cond_decide, hp.2.2.1, not_true, if_false, e, c, hp.2.1, show Int32.ofNat (i) + 1 = Int32.ofNat (i + 1) from o_add (q := 1)]
      rw [est]
      cases hs : f (i + 1) with
      | mk j ov => cases ov with
        | none =>
          obtain ⟨A3, e3, p3⟩ := h1.2 j hs
          rw [e3]
          simp only [e_bd, e_bdn, e_st, e_li, e_bs, e_opn, e_ops, e_ob, e_vo, e_ia, e_eq, e_ne, e_lt, e_ge, e_gt, e_le, cond_true, cond_false, Bool.cond_decide, id_em p3.2.2]
          have : g_125_2 N rf (m + 1 + q) A3 = some (0, A3) := by
            rw [show m + 1 + q = (m + q) + 1 by omega]
            show g_125_2b _ _ _ _ = _
            unfold g_125_2b
            simp only [e_bd, e_bdn, e_st, e_li, e_bs, e_opn, e_ops, e_ob, e_vo, e_ia, e_eq, e_ne, e_lt, e_ge, e_gt, e_le, cond_true, cond_false, Bool.cond_decide, p3.2.2, show ¬ (1 : Int32) = 0 by decide, not_false_eq_true, if_true]
          rw [this]
          exact ⟨fun j' us hh => (by cases hh), fun j' hh => by cases hh; exact ⟨A3, rfl, p3⟩⟩
        | some us =>
          obtain ⟨A3, e3, p3⟩ := h1.1 j us hs
          obtain ⟨a1, a2, a3, -, -⟩ := h2.1 j us hs
          obtain ⟨A4, e4, p4⟩ := m_em (N := N) h0 p3 (by simp; omega) (-2)
          rw [e3]
          simp only [e_bd, e_bdn, e_st, e_li, e_bs, e_opn, e_ops, e_ob, e_vo, e_ia, e_eq, e_ne, e_lt, e_ge, e_gt, e_le, cond_true, cond_false, Bool.cond_decide, e4]
          refine ih j (ts ++ us ++ [(2, 0, 0, 0)]) A4 ?_ (by simp; omega) a3 (by omega)
          rw [show L ++ (ts ++ us ++ [((2, 0, 0, 0) : tk)]).map t_m = L ++ ts.map t_m ++ us.map t_m ++ [-2] by simp [t_m]]
          exact p4
    · rw [if_neg c, show m + 1 + 1 + q = (m + 1 + q) + 1 by omega]
      exact stop _ i ts A hp hi c
theorem m_T {f : Nat → sR} {B : Nat} (hN : 200 ≤ N) (h0 : HM A0 T n act) (hF : FM A0 n act o rf f) (hG : ∀ i, i ≤ n → GR B n i (f i)) (h : PM A0 A act i o L) (hl : L.length ≤ i) (hi : i ≤ n) : RM A0 act o L (g_125 N rf A) (sT T n f i) := by
  have hn := h0.2.1
  have h1 := hF.2 A i L h hl hi
  have h2 := hG i hi
  unfold g_125 sT
  cases hs : f i with
  | mk j ov => cases ov with
    | none =>
      obtain ⟨A3, e3, p3⟩ := h1.2 j hs
      rw [e3]
      simp only [e_bd, e_bdn, e_st, e_li, e_bs, e_opn, e_ops, e_ob, e_vo, e_ia, e_eq, e_ne, e_lt, e_ge, e_gt, e_le, cond_true, cond_false, Bool.cond_decide]
      have : g_125_2 N rf N A3 = some (0, A3) := by
        obtain ⟨q, hq⟩ : ∃ q, N = q + 1 := ⟨N - 1, by omega⟩
        conv => lhs; rw [show g_125_2 N rf N = g_125_2 N rf (q + 1) by rw [← hq]]
        show g_125_2b _ _ _ _ = _
        unfold g_125_2b
        simp only [e_bd, e_bdn, e_st, e_li, e_bs, e_opn, e_ops, e_ob, e_vo, e_ia, e_eq, e_ne, e_lt, e_ge, e_gt, e_le, cond_true, cond_false, Bool.cond_decide, p3.2.2, show ¬ (1 : Int32) = 0 by decide, not_false_eq_true, if_true]
      rw [this]
      exact ⟨fun j' us hh => (by cases hh), fun j' hh => by cases hh; exact ⟨A3, rfl, p3⟩⟩
    | some us =>
      obtain ⟨A3, e3, p3⟩ := h1.1 j us hs
      obtain ⟨a1, a2, a3, -, -⟩ := h2.1 j us hs
      rw [e3]
      simp only [e_bd, e_bdn, e_st, e_li, e_bs, e_opn, e_ops, e_ob, e_vo, e_ia, e_eq, e_ne, e_lt, e_ge, e_gt, e_le, cond_true, cond_false, Bool.cond_decide]
      have := m_Tl (N := N) (L := L) (q := N - 121) h0 hF hG 120 j us A3 p3 (by omega) a3 (by omega)
      rw [show 120 + 1 + (N - 121) = N by omega] at this
      exact this
theorem m_El {f : Nat → sR} {B q : Nat} (hN : 200 ≤ N) (h0 : HM A0 T n act) (hF : FM A0 n act o rf f) (hG : ∀ i, i ≤ n → GR B n i (f i)) : ∀ (m i : Nat) (ts : List tk) (A : mS), PM A0 A act i o (L ++ ts.map t_m) → L.length + ts.length ≤ i → i ≤ n → n ≤ i + m → RM A0 act o L (g_126_2 N rf (m + 1 + q) A) (sEl T n f m i ts) := by
  have hn := h0.2.1
  have stop : ∀ (k i : Nat) (ts : List tk) (A : mS), PM A0 A act i o (L ++ ts.map t_m) → i ≤ n → ¬ tp T n i = 124 → RM A0 act o L (g_126_2 N rf (k + 1) A) (i, some ts) := by
    intro k i ts A hp hi hc
    have e := m_hr (N := N) h0 hp.1 hp.2.1 hi
    have : g_126_2 N rf (k + 1) A = some (0, A) := by
      show g_126_2b _ _ _ _ = _
      unfold g_126_2b
      simp only [e_bd, e_bdn, e_st, e_li, e_bs, e_opn, e_ops, e_ob, e_vo, e_ia, e_eq, e_ne, e_lt, e_ge, e_gt, e_le, cond_true, cond_false, Bool.cond_decide, hp.2.2.1, not_true, if_false, e, hc, not_false_eq_true, if_true]
    rw [this]
    exact ⟨fun j us hh => by cases hh; exact ⟨A, rfl, hp⟩, fun j hh => (by cases hh)⟩
  intro m
  induction m with
  | zero =>
    intro i ts A hp hl hi hm
    rw [show 0 + 1 + q = q + 1 by omega]
    exact stop q i ts A hp hi (by unfold tp; rw [if_neg (by omega)]; decide)
  | succ m ih =>
    intro i ts A hp hl hi hm
    unfold sEl
    by_cases c : tp T n i = 124
    · rw [if_pos c]
      have hlt := tp_lt c (by decide)
      have e := m_hr (N := N) h0 hp.1 hp.2.1 hi
      have hp1 := PM_up6 (i' := i + 1) hp
      have h1 := m_T hN h0 hF hG hp1 (by simp; omega) (show i + 1 ≤ n by omega)
      have h2 := GR_T (T := T) hG (show i + 1 ≤ n by omega)
      have est : g_126_2 N rf (m + 1 + 1 + q) A = m_bd (g_125 N rf (va_up A 99 (upd (A 99) 6 (Int32.ofNat (i + 1))))) fun r3 A3 => m_bd (g_123 N (-3 : Int32) A3) fun r4 A4 => g_126_2 N rf (m + 1 + q) A4 := by
        rw [show m + 1 + 1 + q = (m + 1 + q) + 1 by omega]
        show g_126_2b _ _ _ _ = _
        unfold g_126_2b
        simp only [e_bd, e_bdn, e_st, e_li, e_bs, e_opn, e_ops, e_ob, e_vo, e_ia, e_eq, e_ne, e_lt, e_ge, e_gt, e_le, cond_true, cond_false, Bool.cond_decide, hp.2.2.1, not_true, if_false, e, c, hp.2.1, show Int32.ofNat (i) + 1 = Int32.ofNat (i + 1) from o_add (q := 1)]
      rw [est]
      cases hs : sT T n f (i + 1) with
      | mk j ov => cases ov with
        | none =>
          obtain ⟨A3, e3, p3⟩ := h1.2 j hs
          rw [e3]
          simp only [e_bd, e_bdn, e_st, e_li, e_bs, e_opn, e_ops, e_ob, e_vo, e_ia, e_eq, e_ne, e_lt, e_ge, e_gt, e_le, cond_true, cond_false, Bool.cond_decide, id_em p3.2.2]
          have : g_126_2 N rf (m + 1 + q) A3 = some (0, A3) := by
            rw [show m + 1 + q = (m + q) + 1 by omega]
            show g_126_2b _ _ _ _ = _
            unfold g_126_2b
            simp only [e_bd, e_bdn, e_st, e_li, e_bs, e_opn, e_ops, e_ob, e_vo, e_ia, e_eq, e_ne, e_lt, e_ge, e_gt, e_le, cond_true, cond_false, Bool.cond_decide, p3.2.2, show ¬ (1 : Int32) = 0 by decide, not_false_eq_true, if_true]
          rw [this]
          exact ⟨fun j' us hh => (by cases hh), fun j' hh => by cases hh; exact ⟨A3, rfl, p3⟩⟩
        | some us =>
          obtain ⟨A3, e3, p3⟩ := h1.1 j us hs
          obtain ⟨a1, a2, a3, -, -⟩ := h2.1 j us hs
          obtain ⟨A4, e4, p4⟩ := m_em (N := N) h0 p3 (by simp; omega) (-3)
          rw [e3]
          simp only [e_bd, e_bdn, e_st, e_li, e_bs, e_opn, e_ops, e_ob, e_vo, e_ia, e_eq, e_ne, e_lt, e_ge, e_gt, e_le, cond_true, cond_false, Bool.cond_decide, e4]
          refine ih j (ts ++ us ++ [(3, 0, 0, 0)]) A4 ?_ (by simp; omega) a3 (by omega)
          rw [show L ++ (ts ++ us ++ [((3, 0, 0, 0) : tk)]).map t_m = L ++ ts.map t_m ++ us.map t_m ++ [-3] by simp [t_m]]
          exact p4
    · rw [if_neg c, show m + 1 + 1 + q = (m + 1 + q) + 1 by omega]
      exact stop _ i ts A hp hi c
theorem m_E {f : Nat → sR} {B : Nat} (hN : 200 ≤ N) (h0 : HM A0 T n act) (hF : FM A0 n act o rf f) (hG : ∀ i, i ≤ n → GR B n i (f i)) (h : PM A0 A act i o L) (hl : L.length ≤ i) (hi : i ≤ n) : RM A0 act o L (g_126 N rf A) (sE T n f i) := by
  have hn := h0.2.1
  have h1 := m_T hN h0 hF hG h hl hi
  have h2 := GR_T (T := T) hG hi
  unfold g_126 sE
  cases hs : sT T n f i with
  | mk j ov => cases ov with
    | none =>
      obtain ⟨A3, e3, p3⟩ := h1.2 j hs
      rw [e3]
      simp only [e_bd, e_bdn, e_st, e_li, e_bs, e_opn, e_ops, e_ob, e_vo, e_ia, e_eq, e_ne, e_lt, e_ge, e_gt, e_le, cond_true, cond_false, Bool.cond_decide]
      have : g_126_2 N rf N A3 = some (0, A3) := by
        obtain ⟨q, hq⟩ : ∃ q, N = q + 1 := ⟨N - 1, by omega⟩
        conv => lhs; rw [show g_126_2 N rf N = g_126_2 N rf (q + 1) by rw [← hq]]
        show g_126_2b _ _ _ _ = _
        unfold g_126_2b
        simp only [e_bd, e_bdn, e_st, e_li, e_bs, e_opn, e_ops, e_ob, e_vo, e_ia, e_eq, e_ne, e_lt, e_ge, e_gt, e_le, cond_true, cond_false, Bool.cond_decide, p3.2.2, show ¬ (1 : Int32) = 0 by decide, not_false_eq_true, if_true]
      rw [this]
      exact ⟨fun j' us hh => (by cases hh), fun j' hh => by cases hh; exact ⟨A3, rfl, p3⟩⟩
    | some us =>
      obtain ⟨A3, e3, p3⟩ := h1.1 j us hs
      obtain ⟨a1, a2, a3, -, -⟩ := h2.1 j us hs
      rw [e3]
      simp only [e_bd, e_bdn, e_st, e_li, e_bs, e_opn, e_ops, e_ob, e_vo, e_ia, e_eq, e_ne, e_lt, e_ge, e_gt, e_le, cond_true, cond_false, Bool.cond_decide]
      have := m_El (N := N) (L := L) (q := N - 121) hN h0 hF hG 120 j us A3 p3 (by omega) a3 (by omega)
      rw [show 120 + 1 + (N - 121) = N by omega] at this
      exact this
theorem id_fa (h : A 99 8 = 1) (q : Nat) : g_fac N (q + 1) A = some (0, A) := by
  show g_124 _ _ _ = _
  unfold g_124
  simp only [e_bd, e_bdn, e_st, e_li, e_bs, e_opn, e_ops, e_ob, e_vo, e_ia, e_eq, e_ne, e_lt, e_ge, e_gt, e_le, cond_true, cond_false, Bool.cond_decide, h, show ¬ (1 : Int32) = 0 by decide, if_false]
/-- too many are open -/
theorem m_over (hN : 200 ≤ N) (hr : ∀ A : mS, A 99 8 = 1 → rf A = some (0, A)) (h : PM A0 A act i 5 L) (x1 : Int32) : ∃ A', g_124_13 N rf x1 A = some (0, A') ∧ PF A0 A' act i := by
  have hw := PF_wr h.1 h.2.1
  unfold g_124_13 g_124_21
  simp only [e_bd, e_bdn, e_st, e_li, e_bs, e_opn, e_ops, e_ob, e_vo, e_ia, e_eq, e_ne, e_lt, e_ge, e_gt, e_le, cond_true, cond_false, Bool.cond_decide, h.2.2.2.1, show ¬ ¬ Int32.ofNat 5 = 5 by decide, if_false, t01]
  generalize va_up A 99 (upd (A 99) 8 1) = A1 at hw
  rw [if_neg (by rw [hw.2.2]; decide)]
  have hw2 := PF_up9 (x := A1 99 9 + 1) hw
  have h66 : (va_up A1 99 (upd (A1 99) 9 (A1 99 9 + 1))) 99 6 = A1 99 6 := by rw [va_up_self, upd_ne _ _ (by decide)]
  generalize va_up A1 99 (upd (A1 99) 9 (A1 99 9 + 1)) = A2 at hw2 h66
  unfold g_124_37
  simp only [e_bd, e_bdn, e_st, e_li, e_bs, e_opn, e_ops, e_ob, e_vo, e_ia, e_eq, e_ne, e_lt, e_ge, e_gt, e_le, cond_true, cond_false, Bool.cond_decide, Int32.add_zero, up_id h66]
  split
  · simp only [id_so (N := N) (by omega) (hr A2 hw2.2.2) hw2.2.2, id_ms hw2.2.2, e_bd, e_bdn, e_st, e_li, e_bs, e_opn, e_ops, e_ob, e_vo, e_ia, e_eq, e_ne, e_lt, e_ge, e_gt, e_le, cond_true, cond_false, Bool.cond_decide]
    exact ⟨_, rfl, PF_up9 hw2⟩
  · simp only [hr A2 hw2.2.2, id_em hw2.2.2, e_bd, e_bdn, e_st, e_li, e_bs, e_opn, e_ops, e_ob, e_vo, e_ia, e_eq, e_ne, e_lt, e_ge, e_gt, e_le, cond_true, cond_false, Bool.cond_decide]
    exact ⟨_, rfl, PF_up9 hw2⟩
theorem m_fac (hN : 200 ≤ N) (h0 : HM A0 T n act) {x : Nat} : ∀ r, r ≤ 5 → FM A0 n act (5 - r) (g_fac N (r + 2 + x)) (sFac T n r) := by
  have hn := h0.2.1
  intro r
  induction r with
  | zero =>
    intro _
    refine ⟨fun A hA => by rw [show 0 + 2 + x = (1 + x) + 1 by omega]; exact id_fa hA _, ?_⟩
    intro A i L h hl hi
    have e := m_hr (N := N) h0 h.1 h.2.1 hi
    rw [show 0 + 2 + x = (1 + x) + 1 by omega]
    show RM _ _ _ _ (g_124 N (g_fac N (1 + x)) A) _
    unfold g_124 sFac
    simp only [e_bd, e_bdn, e_st, e_li, e_bs, e_opn, e_ops, e_ob, e_vo, e_ia, e_eq, e_ne, e_lt, e_ge, e_gt, e_le, cond_true, cond_false, Bool.cond_decide, h.2.2.1, if_true, e]
    have hov : ∀ c, RM A0 act (5 - 0) L (g_124_13 N (g_fac N (1 + x)) c A) (i, none) := by
      intro c
      obtain ⟨A', e', hp⟩ := m_over (rf := g_fac N (1 + x)) hN (fun A hA => by rw [show 1 + x = x + 1 by omega]; exact id_fa hA x) h c
      exact ⟨fun j ts hh => (by cases hh), fun j hh => by cases hh; exact ⟨A', e', hp⟩⟩
    by_cases c1 : tp T n i = 33
    · rw [if_pos c1, if_pos (.inl c1)]
      exact hov _
    · rw [if_neg c1]
      by_cases c2 : tp T n i = 40
      · rw [if_neg (by simp [c2]), if_pos (.inr c2)]
        exact hov _
      · rw [if_pos c2, if_neg (by simp [c1, c2])]
        exact m_te (by omega) h0 h hl hi
  | succ r ih =>
    intro hr5
    have hF := ih (by omega)
    refine ⟨fun A hA => by rw [show r + 1 + 2 + x = (r + 2 + x) + 1 by omega]; exact id_fa hA _, ?_⟩
    intro A i L h hl hi
    have e := m_hr (N := N) h0 h.1 h.2.1 hi
    have h9 : ¬ Int32.ofNat (5 - (r + 1)) = 5 := by rw [show (5 : Int32) = Int32.ofNat 5 from rfl, o_eq (by omega) (by omega)]; omega
    rw [show r + 1 + 2 + x = (r + 2 + x) + 1 by omega]
    show RM _ _ _ _ (g_124 N (g_fac N (r + 2 + x)) A) _
    have hp9 := PM_up9 (o' := 5 - r) h
    generalize hA1 : va_up A 99 (upd (A 99) 9 (Int32.ofNat (5 - r))) = A1 at hp9
    have hp6 := PM_up6 (i' := i + 1) hp9
    generalize hA2 : va_up A1 99 (upd (A1 99) 6 (Int32.ofNat (i + 1))) = A2 at hp6
    have h13 : ∀ c, g_124_13 N (g_fac N (r + 2 + x)) c A = if ¬ c = 33 then (m_bd (g_126 N (g_fac N (r + 2 + x)) A2) fun r9 A9 => m_bd (g_119 N (41 : Int32) A9) fun r10 A10 => some (0, (va_up A10 99 (upd (A10 99) 9 ((A10 99 9) - (1 : Int32)))))) else (m_bd (g_fac N (r + 2 + x) A2) fun r12 A12 => m_bd (g_123 N (-1 : Int32) A12) fun r13 A13 => some (0, (va_up A13 99 (upd (A13 99) 9 ((A13 99 9) - (1 : Int32)))))) := by
      intro c
      unfold g_124_13 g_124_21 g_124_37
      simp only [e_bd, e_bdn, e_st, e_li, e_bs, e_opn, e_ops, e_ob, e_vo, e_ia, e_eq, e_ne, e_lt, e_ge, e_gt, e_le, cond_true, cond_false, Bool.cond_decide, h.2.2.2.1, h9, not_false_eq_true, if_true, t00, up_id h.2.2.1, h.2.2.1, h.2.1, show Int32.ofNat (5 - (r + 1)) + 1 = Int32.ofNat (5 - (r + 1) + 1) from o_add (q := 1), show 5 - (r + 1) + 1 = 5 - r by omega, hA1, show Int32.ofNat (i) + 1 = Int32.ofNat (i + 1) from o_add (q := 1), hA2]
      rfl
    have hm1 : Int32.ofNat (5 - r) - 1 = Int32.ofNat (5 - (r + 1)) := by
      rw [show (1 : Int32) = Int32.ofNat 1 from rfl, o_sub (by omega)]; congr 1
    have close : ∀ (A : mS) (j : Nat) (L' : List Int32), PM A0 A act j (5 - r) L' → PM A0 (va_up A 99 (upd (A 99) 9 (A 99 9 - 1))) act j (5 - (r + 1)) L' := by
      intro A j L' hA
      rw [hA.2.2.2.1, hm1]
      exact PM_up9 hA
    unfold g_124 sFac
    simp only [e_bd, e_bdn, e_st, e_li, e_bs, e_opn, e_ops, e_ob, e_vo, e_ia, e_eq, e_ne, e_lt, e_ge, e_gt, e_le, cond_true, cond_false, Bool.cond_decide, h.2.2.1, if_true, e]
    by_cases c1 : tp T n i = 33
    · have hlt := tp_lt c1 (by decide)
      rw [if_pos c1, if_pos c1, h13, if_neg (by simp [c1])]
      have h1 := hF.2 A2 (i + 1) L hp6 (by omega) (by omega)
      have h2 := GR_F (T := T) (n := n) r (i + 1) (by omega)
      cases hs : sFac T n r (i + 1) with
      | mk j ov => cases ov with
        | none =>
          obtain ⟨A3, e3, p3⟩ := h1.2 j hs
          rw [e3]
          simp only [e_bd, e_bdn, e_st, e_li, e_bs, e_opn, e_ops, e_ob, e_vo, e_ia, e_eq, e_ne, e_lt, e_ge, e_gt, e_le, cond_true, cond_false, Bool.cond_decide, id_em p3.2.2]
          exact ⟨fun j' us hh => (by cases hh), fun j' hh => by cases hh; exact ⟨_, rfl, PF_up9 p3⟩⟩
        | some us =>
          obtain ⟨A3, e3, p3⟩ := h1.1 j us hs
          obtain ⟨a1, a2, a3, -, -⟩ := h2.1 j us hs
          obtain ⟨A4, e4, p4⟩ := m_em (N := N) h0 p3 (by simp; omega) (-1)
          rw [e3]
          simp only [e_bd, e_bdn, e_st, e_li, e_bs, e_opn, e_ops, e_ob, e_vo, e_ia, e_eq, e_ne, e_lt, e_ge, e_gt, e_le, cond_true, cond_false, Bool.cond_decide, e4]
          refine ⟨fun j' ts hh => ?_, fun j' hh => (by cases hh)⟩
          cases hh
          refine ⟨_, rfl, ?_⟩
          rw [show L ++ (us ++ [((1, 0, 0, 0) : tk)]).map t_m = L ++ us.map t_m ++ [-1] by simp [t_m]]
          exact close A4 j _ p4
    · rw [if_neg c1, if_neg c1]
      by_cases c2 : tp T n i = 40
      · have hlt := tp_lt c2 (by decide)
        rw [if_neg (by simp [c2]), if_pos c2, h13, if_pos c1]
        have h1 := m_E hN h0 hF (GR_F (T := T) (n := n) r) hp6 (show L.length ≤ i + 1 by omega) (show i + 1 ≤ n by omega)
        have h2 := GR_E (T := T) (GR_F (T := T) (n := n) r) (show i + 1 ≤ n by omega)
        cases hs : sE T n (sFac T n r) (i + 1) with
        | mk j ov => cases ov with
          | none =>
            obtain ⟨A3, e3, p3⟩ := h1.2 j hs
            rw [e3]
            simp only [e_bd, e_bdn, e_st, e_li, e_bs, e_opn, e_ops, e_ob, e_vo, e_ia, e_eq, e_ne, e_lt, e_ge, e_gt, e_le, cond_true, cond_false, Bool.cond_decide, id_ms p3.2.2]
            exact ⟨fun j' us hh => (by cases hh), fun j' hh => by cases hh; exact ⟨_, rfl, PF_up9 p3⟩⟩
          | some us =>
            obtain ⟨A3, e3, p3⟩ := h1.1 j us hs
            obtain ⟨a1, a2, a3, -, -⟩ := h2.1 j us hs
            have h3 := m_ms (N := N) h0 p3 a3 41
            rw [e3]
            simp only [e_bd, e_bdn, e_st, e_li, e_bs, e_opn, e_ops, e_ob, e_vo, e_ia, e_eq, e_ne, e_lt, e_ge, e_gt, e_le, cond_true, cond_false, Bool.cond_decide]
            show RM _ _ _ _ _ (if tp T n j = 41 then (j + 1, some us) else (j, none))
            by_cases c3 : tp T n j = 41
            · rw [if_pos c3]
              obtain ⟨A4, e4, p4⟩ := h3.1 c3
              rw [e4]
              exact ⟨fun j' ts hh => by cases hh; exact ⟨_, rfl, close A4 _ _ p4⟩, fun j' hh => (by cases hh)⟩
            · rw [if_neg c3]
              obtain ⟨A4, e4, p4⟩ := h3.2 c3
              rw [e4]
              exact ⟨fun j' us hh => (by cases hh), fun j' hh => by cases hh; exact ⟨_, rfl, PF_up9 p4⟩⟩
      · rw [if_pos c2, if_neg c2]
        exact m_te (by omega) h0 h hl hi
end MPF
