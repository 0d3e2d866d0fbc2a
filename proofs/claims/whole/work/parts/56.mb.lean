/-! 56.mb: the model's bids -/
def MF (s : Nat → Int32) (F : fS) : Prop := s 0 = f_dy F ∧ s 1 = f_ah F ∧ s 2 = f_tu F ∧ ∀ p, p < 8 → s (3 + p) = f_pu F p
def MS (A : mS) (d : dS) (F : fS) : Prop := MD (A 0) d ∧ MF (A 0) F
theorem MS_fr {A A' : mS} {d : dS} {F : fS} {S : List Nat} (h : MS A d F) (hf : fr S A A') (h0 : 0 ∉ S) : MS A' d F := by
  unfold MS
  rw [fr_at hf h0]
  exact h
theorem m_in {N : Nat} {x lo hi : Int32} {A : mS} : g_112 N x lo hi A = some (b_i (decide (lo ≤ x ∧ x ≤ hi)), A) := by
  unfold g_112
  simp only [e_bd, e_bdn, e_st, e_li, e_bs, e_opn, e_ops, e_ob, e_vo, e_ia, e_eq, e_ne, e_lt, e_ge, e_gt, e_le, cond_true, cond_false, Bool.cond_decide]
  by_cases h1 : x < lo
  · have : ¬ lo ≤ x := by rw [z_lt] at h1; rw [z_le]; omega
    simp [h1, this, b_i]
  · have h1' : lo ≤ x := by rw [z_lt] at h1; rw [z_le]; omega
    by_cases h2 : hi < x
    · have : ¬ x ≤ hi := by rw [z_lt] at h2; rw [z_le]; omega
      simp [h1, h1', h2, this, b_i]
    · have : x ≤ hi := by rw [z_lt] at h2; rw [z_le]; omega
      simp [h1, h1', h2, this, b_i]
theorem b_ib {b : Bool} : (decide (b_i b = 0) || decide (b_i b = 1)) = true := by cases b <;> decide
theorem m_pers {N : Nat} {x : Int32} {A : mS} {n : Nat} (hn : n ≤ 8) (h : A 0 11 = Int32.ofNat n) : g_114 N x A = some (b_i (decide (0 ≤ x.toInt ∧ x.toInt < n)), A) := by
  unfold g_114
  rw [m_in, h]
  simp only [e_bd, e_bdn, e_st, e_li, e_bs, e_opn, e_ops, e_ob, e_vo, e_ia, e_eq, e_ne, e_lt, e_ge, e_gt, e_le, cond_true, cond_false, Bool.cond_decide, b_ib]
  congr 3
  have k0 : (0 : Int32).toInt = 0 := rfl
  have k1 : (1 : Int32).toInt = 1 := rfl
  have hz := z_ofNat (show n < 2147483648 by omega)
  rw [decide_eq_decide, z_le, z_le, z_sub] <;> omega
section MB
variable {N : Nat} {d : dS} {F : fS} {A : mS}
theorem m_now (hN : 200 ≤ N) (hd : d_ok d) (hM : MS A d F) {p : Nat} (hp : p < d_n d) {w : Int32} : ∃ A', g_134 N (Int32.ofNat p) w A = some (w_now d F p w, A') ∧ fr [3, 4] A A' := by
  obtain ⟨A1, e, hf⟩ := mw_worth (w := w) (y := A 0 1) (dy := A 0 0) hN hd.1 hd.2.2.2.1 hM.1 hp
  refine ⟨A1, ?_, hf⟩
  unfold g_134
  rw [e]
  simp only [e_bd, e_bdn, e_st, e_li, e_bs, e_opn, e_ops, e_ob, e_vo, e_ia, e_eq, e_ne, e_lt, e_ge, e_gt, e_le, cond_true, cond_false, Bool.cond_decide]
  rw [hM.2.1, hM.2.2.1]
  rfl
theorem m_lg (hN : 200 ≤ N) (hd : d_ok d) (hM : MS A d F) {p : Nat} (hp : p < d_n d) {w : Int32} : ∃ A', g_142 N (Int32.ofNat p) w A = some (b_lg d F p w, A') ∧ fr [3, 4] A A' := by
  have hn := hd.2.2.2.1
  have hv9 := hd.2.2.2.2.2.1 p hp
  have e1 : a_in (Int32.ofNat (148 + p)) 947 = true := by rw [o_in (by omega)]; simp; omega
  have hv := hM.1.2.2.2.1 p hp
  have hq := m_pers (N := N) (x := Int32.ofNat (d_vv d p)) hn hM.1.2.1
  rw [z_ofNat (show d_vv d p < 2147483648 by omega)] at hq
  obtain ⟨A1, ea, fa⟩ := m_now (w := w) hN hd hM hp
  unfold g_142
  simp only [show (148 : Int32) + Int32.ofNat p = Int32.ofNat (148 + p) from o_add (p := 148), e1, o_cl (show 148 + p < 2147483648 by omega), hv, e_bd, e_bdn, e_st, e_li, e_bs, e_opn, e_ops, e_ob, e_vo, e_ia, e_eq, e_ne, e_lt, e_ge, e_gt, e_le, cond_true, cond_false, Bool.cond_decide, hq, b_i0, decide_eq_false_iff_not, g_142_32, g_142_30, g_142_33]
  by_cases c1 : d_vv d p < d_n d
  · have e2 : a_in (Int32.ofNat (140 + d_vv d p)) 947 = true := by rw [o_in (by omega)]; simp; omega
    have hk := hM.1.2.2.1 (d_vv d p) c1
    have hk6 := hd.2.2.2.2.1 (d_vv d p) c1
    simp only [show ¬ ¬ ((0 : Int) ≤ (d_vv d p : Int) ∧ (d_vv d p : Int) < (d_n d : Int)) by omega, if_false, o_eq (show d_vv d p < 2147483648 by omega) (show p < 2147483648 by omega), show (140 : Int32) + Int32.ofNat (d_vv d p) = Int32.ofNat (140 + d_vv d p) from o_add (p := 140), e2, o_cl (show 140 + d_vv d p < 2147483648 by omega), hk, cond_true, show (2 : Int32) = Int32.ofNat 2 from rfl, show (5 : Int32) = Int32.ofNat 5 from rfl, o_eq (show d_kd d (d_vv d p) < 2147483648 by omega) (show 2 < 2147483648 by omega), o_lt (show d_kd d (d_vv d p) < 2147483648 by omega) (show 5 < 2147483648 by omega), if_true, show ¬ (1 : Int32) = 0 by decide]
    unfold b_lg
    by_cases c2 : d_vv d p = p
    · rw [if_pos c2, if_neg (by omega), ea]
      exact ⟨A1, rfl, fa⟩
    · rw [if_neg c2]
      obtain ⟨A2, eb, fb⟩ := m_now (w := w) hN hd (MS_fr hM fa (by decide)) c1
      by_cases c3 : d_kd d (d_vv d p) = 2
      · rw [if_pos c3, if_pos ⟨c1, c2, .inl c3⟩, ea]
        simp only [e_bd, e_bdn, e_st, e_li, e_bs, e_opn, e_ops, e_ob, e_vo, e_ia, e_eq, e_ne, e_lt, e_ge, e_gt, e_le, cond_true, cond_false, Bool.cond_decide, eb]
        exact ⟨A2, rfl, fr_tr fa fb⟩
      · rw [if_neg c3]
        by_cases c4 : d_kd d (d_vv d p) < 5
        · rw [if_pos c4, if_neg (by omega), ea]
          exact ⟨A1, rfl, fa⟩
        · rw [if_neg c4, if_pos ⟨c1, c2, .inr (by omega)⟩, ea]
          simp only [e_bd, e_bdn, e_st, e_li, e_bs, e_opn, e_ops, e_ob, e_vo, e_ia, e_eq, e_ne, e_lt, e_ge, e_gt, e_le, cond_true, cond_false, Bool.cond_decide, eb]
          exact ⟨A2, rfl, fr_tr fa fb⟩
  · simp only [show ¬ ((0 : Int) ≤ (d_vv d p : Int) ∧ (d_vv d p : Int) < (d_n d : Int)) by omega, not_false_eq_true, if_true, ea]
    refine ⟨A1, ?_, fa⟩
    unfold b_lg
    rw [if_neg (by omega)]
    rfl
theorem m_kept {p : Nat} (hp : p < 8) (hM : MS A d F) {b : Int32} : g_141 N (Int32.ofNat p) b A = some (b_kp (f_pu F p) b, A) := by
  have e1 : a_in (Int32.ofNat (3 + p)) 947 = true := by rw [o_in (by omega)]; simp; omega
  have hpu := hM.2.2.2.2 p hp
  unfold g_141 b_kp
  simp only [show (3 : Int32) + Int32.ofNat p = Int32.ofNat (3 + p) from o_add (p := 3), e1, o_cl (show 3 + p < 2147483648 by omega), hpu, e_bd, e_bdn, e_st, e_li, e_bs, e_opn, e_ops, e_ob, e_vo, e_ia, e_eq, e_ne, e_lt, e_ge, e_gt, e_le, cond_true, cond_false, Bool.cond_decide]
  by_cases c1 : b < 0
  · have c1' : ¬ 0 ≤ b := by rw [z_lt] at c1; rw [z_le]; omega
    simp [c1, c1']
  · have c1' : 0 ≤ b := by rw [z_lt] at c1; rw [z_le]; omega
    by_cases c2 : b ≤ f_pu F p
    · have c2' : ¬ f_pu F p < b := by rw [z_le] at c2; rw [z_lt]; omega
      simp [c1, c1', c2, c2']
    · have c2' : f_pu F p < b := by rw [z_le] at c2; rw [z_lt]; omega
      simp [c1, c1', c2, c2']
end MB
