/-! 79.mpc: the model's clauses -/
theorem t_lenw {w : Nat} (hw : w < 8) : t_len w = some (Int32.ofNat (wd w).length) := by unfold t_len wd; rw [if_pos hw]
theorem wd_s : ∀ w, w < 8 → (wd w).length ≤ 10 := by decide +kernel
theorem t_chrw {w j : Nat} (hw : w < 8) (hj : j < (wd w).length) : t_chr w (Int32.ofNat j) = some ((wd w).getD j 0) := by
  have := wd_s w hw
  unfold t_chr wd at *
  rw [if_pos hw, o_in (by omega), decide_eq_true hj, o_cl (by omega)]
  rfl
section MPC
variable {N : Nat} {A0 A : mS} {T : Nat → Int32} {n act i o : Nat} {L : List Int32}
theorem id_w1 {w q : Nat} (hw : w < 8) (h : A 99 8 = 1) : ∀ (r k : Nat), k + r = (wd w).length → g_120_2 N (r + 1 + q) w (Int32.ofNat k) A = some (0, A) := by
  have hs := wd_s w hw
  intro r
  induction r with
  | zero =>
    intro k hk
    rw [show 0 + 1 + q = q + 1 by omega]
    show g_120_2b _ _ _ _ _ = _
    unfold g_120_2b
    simp only [t_lenw hw, e_bd, e_bdn, e_st, e_li, e_bs, e_opn, e_ops, e_ob, e_vo, e_ia, e_eq, e_ne, e_lt, e_ge, e_gt, e_le, cond_true, cond_false, Bool.cond_decide, show Int32.ofNat ((wd w).length) ≤ Int32.ofNat (k) by rw [o_le (by omega) (by omega)]; omega, if_true]
  | succ r ih =>
    intro k hk
    rw [← ih (k + 1) (by omega), show r + 1 + 1 + q = (r + 1 + q) + 1 by omega]
    show g_120_2b _ _ _ _ _ = _
    unfold g_120_2b
    simp only [t_lenw hw, e_bd, e_bdn, e_st, e_li, e_bs, e_opn, e_ops, e_ob, e_vo, e_ia, e_eq, e_ne, e_lt, e_ge, e_gt, e_le, cond_true, cond_false, Bool.cond_decide, show ¬ Int32.ofNat ((wd w).length) ≤ Int32.ofNat (k) by rw [o_le (by omega) (by omega)]; omega, if_false, t_chrw hw (show k < (wd w).length by omega), id_ms h, show Int32.ofNat (k) + 1 = Int32.ofNat (k + 1) from o_add (q := 1)]
theorem m_w1 {w q : Nat} (hw : w < 8) (h0 : HM A0 T n act) : ∀ (l : List Int32) (k i : Nat) (A : mS), k + l.length = (wd w).length → (∀ j, j < l.length → (wd w).getD (k + j) 0 = l.getD j 0) → (∀ c, c ∈ l → c ≠ -1) → PM A0 A act i o L → i ≤ n → (∀ j, sWd T n l i = (j, true) → ∃ A', g_120_2 N (l.length + 1 + q) w (Int32.ofNat k) A = some (0, A') ∧ PM A0 A' act j o L) ∧ (∀ j, sWd T n l i = (j, false) → ∃ A', g_120_2 N (l.length + 1 + q) w (Int32.ofNat k) A = some (0, A') ∧ PF A0 A' act j) := by
  have hs := wd_s w hw
  intro l
  induction l with
  | nil =>
    intro k i A hk hc hne h hi
    simp only [List.length_nil] at hk ⊢
    refine ⟨fun j hh => ?_, fun j hh => (by cases hh)⟩
    cases hh
    refine ⟨A, ?_, h⟩
    rw [show 0 + 1 + q = q + 1 by omega]
    show g_120_2b _ _ _ _ _ = _
    unfold g_120_2b
    simp only [t_lenw hw, e_bd, e_bdn, e_st, e_li, e_bs, e_opn, e_ops, e_ob, e_vo, e_ia, e_eq, e_ne, e_lt, e_ge, e_gt, e_le, cond_true, cond_false, Bool.cond_decide, show Int32.ofNat ((wd w).length) ≤ Int32.ofNat (k) by rw [o_le (by omega) (by omega)]; omega, if_true]
  | cons c l ih =>
    intro k i A hk hc hne h hi
    simp only [List.length_cons] at hk hc ⊢
    have hck := hc 0 (by omega)
    rw [Nat.add_zero] at hck
    have hck' : (wd w).getD k 0 = c := hck
    have h1 := m_ms (N := N) h0 h hi c
    have est : g_120_2 N (l.length + 1 + 1 + q) w (Int32.ofNat k) A = m_bd (g_119 N c A) fun r3 A3 => g_120_2 N (l.length + 1 + q) w (Int32.ofNat (k + 1)) A3 := by
      rw [show l.length + 1 + 1 + q = (l.length + 1 + q) + 1 by omega]
      show g_120_2b _ _ _ _ _ = _
      unfold g_120_2b
      simp only [t_lenw hw, e_bd, e_bdn, e_st, e_li, e_bs, e_opn, e_ops, e_ob, e_vo, e_ia, e_eq, e_ne, e_lt, e_ge, e_gt, e_le, cond_true, cond_false, Bool.cond_decide, show ¬ Int32.ofNat ((wd w).length) ≤ Int32.ofNat (k) by rw [o_le (by omega) (by omega)]; omega, if_false, t_chrw hw (show k < (wd w).length by omega), hck', show Int32.ofNat (k) + 1 = Int32.ofNat (k + 1) from o_add (q := 1)]
    unfold sWd
    by_cases e : tp T n i = c
    · rw [if_pos e]
      have hlt := tp_lt e (hne c List.mem_cons_self)
      obtain ⟨A1, e1, p1⟩ := h1.1 e
      have h2 := ih (k + 1) (i + 1) A1 (by omega) (fun j hj => by
        have := hc (j + 1) (by omega)
        rw [show k + 1 + j = k + (j + 1) by omega, this]
        rfl) (fun c' h' => hne c' (List.mem_cons_of_mem _ h')) p1 (by omega)
      rw [est, e1]
      exact h2
    · rw [if_neg e]
      obtain ⟨A1, e1, p1⟩ := h1.2 e
      refine ⟨fun j hh => (by cases hh), fun j hh => ?_⟩
      cases hh
      refine ⟨A1, ?_, p1⟩
      rw [est, e1]
      exact id_w1 hw p1.2.2 l.length (k + 1) (by omega)
/-- spells -/
theorem m_wd (hN : 200 ≤ N) {w : Nat} (hw : w < 4) (h0 : HM A0 T n act) (h : PM A0 A act i o L) (hi : i ≤ n) : (∀ j, sWd T n (wd w) i = (j, true) → ∃ A', g_120 N w A = some (0, A') ∧ PM A0 A' act j o L) ∧ (∀ j, sWd T n (wd w) i = (j, false) → ∃ A', g_120 N w A = some (0, A') ∧ PF A0 A' act j) := by
  have hs := wd_s w (by omega)
  have := m_w1 (N := N) (w := w) (q := N - ((wd w).length + 1)) (by omega) h0 (wd w) 0 i A (by omega) (fun j _ => by rw [Nat.zero_add]) (wd_c w hw) h hi
  rw [show (wd w).length + 1 + (N - ((wd w).length + 1)) = N by omega] at this
  exact this
theorem id_wd (hN : 200 ≤ N) {w : Nat} (hw : w < 8) (h : A 99 8 = 1) : g_120 N w A = some (0, A) := by
  have hs := wd_s w hw
  have := id_w1 (N := N) (q := N - ((wd w).length + 1)) hw h (wd w).length 0 (by omega)
  rw [show (wd w).length + 1 + (N - ((wd w).length + 1)) = N by omega] at this
  exact this
/-- much -/
theorem m_mu (hN : 200 ≤ N) {w kd : Nat} {x1 : Int32} (hw : w < 4) (h0 : HM A0 T n act) (h : PM A0 A act i 0 L) (hl : L.length ≤ i) (hi : i ≤ n) : (∀ j kd' v ts, sMuch T n (wd w) kd i = (j, some (kd', v, ts)) → kd' = kd ∧ ∃ A', g_127 N x1 w A = some (0, A') ∧ PM A0 A' act j 0 (L ++ ts.map t_m ++ [x1 - Int32.ofNat v])) ∧ (∀ j, sMuch T n (wd w) kd i = (j, none) → ∃ A', g_127 N x1 w A = some (0, A') ∧ PF A0 A' act j) := by
  have hn := h0.2.1
  have h1 := m_wd hN hw h0 h hi
  have hk := sWd_ok (T := T) (wd w) i (wd_c w hw) hi
  have hF : FM A0 n act 0 (g_fac N 8) (sFac T n 5) := m_fac (x := 1) hN h0 5 (by omega)
  unfold sMuch g_127
  cases hs : sWd T n (wd w) i with
  | mk j b => cases b with
    | false =>
      obtain ⟨A1, e1, p1⟩ := h1.2 j hs
      refine ⟨fun j' kd v ts hh => (by cases hh), fun j' hh => ?_⟩
      cases hh
      exact ⟨A1, by simp only [e1, e_bd, e_bdn, e_st, e_li, e_bs, e_opn, e_ops, e_ob, e_vo, e_ia, e_eq, e_ne, e_lt, e_ge, e_gt, e_le, cond_true, cond_false, Bool.cond_decide, id_fi (N := N) (by omega) p1.2.2, id_ms p1.2.2, id_so (N := N) (by omega) (hF.1 A1 p1.2.2) p1.2.2, id_em p1.2.2], p1⟩
    | true =>
      obtain ⟨A1, e1, p1⟩ := h1.1 j hs
      have hj := hk.1 j hs
      have h2 := m_fi (N := N) (by omega) h0 p1 hj.2
      have h3 := sNum_ok (T := T) hj.2
      simp only [e1, e_bd, e_bdn, e_st, e_li, e_bs, e_opn, e_ops, e_ob, e_vo, e_ia, e_eq, e_ne, e_lt, e_ge, e_gt, e_le, cond_true, cond_false, Bool.cond_decide]
      cases hm : sNum T n j with
      | mk k ov => cases ov with
        | none =>
          obtain ⟨A2, e2, p2⟩ := h2.2 k hm
          refine ⟨fun j' kd v ts hh => (by cases hh), fun j' hh => ?_⟩
          cases hh
          exact ⟨A2, by simp only [e2, e_bd, e_bdn, e_st, e_li, e_bs, e_opn, e_ops, e_ob, e_vo, e_ia, e_eq, e_ne, e_lt, e_ge, e_gt, e_le, cond_true, cond_false, Bool.cond_decide, id_ms p2.2.2, id_so (N := N) (by omega) (hF.1 A2 p2.2.2) p2.2.2, id_em p2.2.2], p2⟩
        | some v =>
          obtain ⟨A2, e2, p2⟩ := h2.1 k v hm
          have h4 := h3.1 k v hm
          have h5 := m_ms (N := N) h0 p2 h4.2.1 32
          simp only [e2, e_bd, e_bdn, e_st, e_li, e_bs, e_opn, e_ops, e_ob, e_vo, e_ia, e_eq, e_ne, e_lt, e_ge, e_gt, e_le, cond_true, cond_false, Bool.cond_decide]
          by_cases c : tp T n k = 32
          · rw [if_pos c]
            have hlt := tp_lt c (by decide)
            obtain ⟨A3, e3, p3⟩ := h5.1 c
            have h6 := m_E hN h0 hF (GR_F (T := T) (n := n) 5) p3 (show L.length ≤ k + 1 by omega) (show k + 1 ≤ n by omega)
            have h7 := GR_E (T := T) (GR_F (T := T) (n := n) 5) (show k + 1 ≤ n by omega)
            simp only [e3, e_bd, e_bdn, e_st, e_li, e_bs, e_opn, e_ops, e_ob, e_vo, e_ia, e_eq, e_ne, e_lt, e_ge, e_gt, e_le, cond_true, cond_false, Bool.cond_decide]
            cases he : sE T n (sFac T n 5) (k + 1) with
            | mk m ot => cases ot with
              | none =>
                obtain ⟨A4, e4, p4⟩ := h6.2 m he
                refine ⟨fun j' kd v ts hh => (by cases hh), fun j' hh => ?_⟩
                cases hh
                exact ⟨A4, by simp only [e4, e_bd, e_bdn, e_st, e_li, e_bs, e_opn, e_ops, e_ob, e_vo, e_ia, e_eq, e_ne, e_lt, e_ge, e_gt, e_le, cond_true, cond_false, Bool.cond_decide, id_em p4.2.2], p4⟩
              | some us =>
                obtain ⟨A4, e4, p4⟩ := h6.1 m us he
                obtain ⟨a1, a2, a3, -, -⟩ := h7.1 m us he
                obtain ⟨A5, e5, p5⟩ := m_em (N := N) h0 p4 (by simp; omega) (x1 - Int32.ofNat v)
                refine ⟨fun j' kd v ts hh => ?_, fun j' hh => (by cases hh)⟩
                cases hh
                exact ⟨rfl, A5, by simp only [e4, e_bd, e_bdn, e_st, e_li, e_bs, e_opn, e_ops, e_ob, e_vo, e_ia, e_eq, e_ne, e_lt, e_ge, e_gt, e_le, cond_true, cond_false, Bool.cond_decide, e5], p5⟩
          · rw [if_neg c]
            obtain ⟨A3, e3, p3⟩ := h5.2 c
            refine ⟨fun j' kd v ts hh => (by cases hh), fun j' hh => ?_⟩
            cases hh
            exact ⟨A3, by simp only [e3, e_bd, e_bdn, e_st, e_li, e_bs, e_opn, e_ops, e_ob, e_vo, e_ia, e_eq, e_ne, e_lt, e_ge, e_gt, e_le, cond_true, cond_false, Bool.cond_decide, id_so (N := N) (by omega) (hF.1 A3 p3.2.2) p3.2.2, id_em p3.2.2], p3⟩
/-- a place of the row that the reading sets aside -/
theorem PM_set {j : Nat} {x : Int32} (hj : j = 232 + act ∨ j = 237 + act) (ha : act ≤ 4) (h : PM A0 A act i o L) : PM (va_up A0 0 (upd (A0 0) j x)) (va_up A 0 (upd (A 0) j x)) act i o L := by
  obtain ⟨hg, h6, h8, h9, hc, hs⟩ := h
  refine ⟨⟨?_, ?_, ?_⟩, by rw [va_up_ne _ _ (by decide)]; exact h6, by rw [va_up_ne _ _ (by decide)]; exact h8, by rw [va_up_ne _ _ (by decide)]; exact h9, by rw [va_up_self, upd_ne _ _ (by omega)]; exact hc, ?_⟩
  · intro k hk
    rw [va_up_ne _ _ (by simp at hk; exact hk.1), va_up_ne _ _ (by simp at hk; exact hk.1)]
    exact hg.1 k hk
  · intro f hf
    rw [va_up_ne _ _ (by decide), va_up_ne _ _ (by decide)]
    exact hg.2.1 f hf
  · intro k hk
    rw [va_up_self, va_up_self]
    by_cases c : k = j
    · subst c; rw [upd_self, upd_self]
    · rw [upd_ne _ _ c, upd_ne _ _ c]; exact hg.2.2 k hk
  · rw [va_up_self]
    exact sg_congr (fun k hk => upd_ne _ _ (by omega)) hs
end MPC
