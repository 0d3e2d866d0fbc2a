/-! 57.mb2: the model's bids, all -/
section MB2
variable {N : Nat} {d : dS} {F : fS} {A : mS}
theorem i_mx_le {x y : Int32} : (if y ≤ x then x else y) = i_mx x y := by
  unfold i_mx
  by_cases c : y ≤ x
  · have c' : ¬ x < y := by rw [z_le] at c; rw [z_lt]; omega
    simp [c, c']
  · have c' : x < y := by rw [z_le] at c; rw [z_lt]; omega
    simp [c, c']
theorem m_ah1 (hN : 200 ≤ N) (hd : d_ok d) (hM : MS A d F) {p : Nat} (hp : p < d_n d) {w x : Int32} {u n : Nat} (hu : u < 4) : ∃ A', g_143_14 N (n + 1) (Int32.ofNat p) w x (Int32.ofNat u) A = g_143_14 N n (Int32.ofNat p) w (i_mx x (w_at d p (Int32.ofNat u) w (f_dy F + 1))) (Int32.ofNat (u + 1)) A' ∧ fr [3, 4] A A' := by
  obtain ⟨A1, e, hf⟩ := mw_worth (w := Int32.ofNat u) (y := w) (dy := A 0 0 + 1) hN hd.1 hd.2.2.2.1 hM.1 hp
  rw [hM.2.1] at e
  refine ⟨A1, ?_, hf⟩
  show g_143_14b N (g_143_14 N n) _ _ _ _ _ = _
  unfold g_143_14b
  have hge : ¬ (4 : Int32) ≤ Int32.ofNat u := by rw [show (4 : Int32) = Int32.ofNat 4 from rfl, o_le (by omega) (by omega)]; omega
  simp only [e_bd, e_bdn, e_st, e_li, e_bs, e_opn, e_ops, e_ob, e_vo, e_ia, e_eq, e_ne, e_lt, e_ge, e_gt, e_le, cond_true, cond_false, Bool.cond_decide, hge, if_false, e, show Int32.ofNat u + 1 = Int32.ofNat (u + 1) from o_add (q := 1), hM.2.1]
  rw [← i_mx_le]
  split <;> rfl
theorem m_ah (hN : 200 ≤ N) (hd : d_ok d) (hM : MS A d F) {p : Nat} (hp : p < d_n d) {w : Int32} : ∃ A', g_143 N (Int32.ofNat p) w A = some (b_ah d F p w, A') ∧ fr [3, 4] A A' := by
  have hn := hd.2.2.2.1
  obtain ⟨n, rfl⟩ : ∃ n, N = n + 4 := ⟨N - 4, by omega⟩
  obtain ⟨A1, e1, f1⟩ := mw_worth (w := 0) (y := w) (dy := A 0 0 + 1) hN hd.1 hd.2.2.2.1 hM.1 hp
  have M1 := MS_fr hM f1 (by decide)
  obtain ⟨A2, e2, f2⟩ := m_ah1 (w := w) (x := w_at d p 0 w (A 0 0 + 1)) (n := n + 3) hN hd M1 hp (show 1 < 4 by omega)
  have M2 := MS_fr M1 f2 (by decide)
  obtain ⟨A3, e3, f3⟩ := m_ah1 (w := w) (x := i_mx (w_at d p 0 w (A 0 0 + 1)) (w_at d p (Int32.ofNat 1) w (f_dy F + 1))) (n := n + 2) hN hd M2 hp (show 2 < 4 by omega)
  have M3 := MS_fr M2 f3 (by decide)
  obtain ⟨A4, e4, f4⟩ := m_ah1 (w := w) (x := i_mx (i_mx (w_at d p 0 w (A 0 0 + 1)) (w_at d p (Int32.ofNat 1) w (f_dy F + 1))) (w_at d p (Int32.ofNat 2) w (f_dy F + 1))) (n := n + 1) hN hd M3 hp (show 3 < 4 by omega)
  have M4 := MS_fr M3 f4 (by decide)
  obtain ⟨A5, e5, f5⟩ := m_now (w := w) hN hd M4 hp
  have M5 := MS_fr M4 f5 (by decide)
  refine ⟨A5, ?_, fr_tr f1 (fr_tr f2 (fr_tr f3 (fr_tr f4 f5)))⟩
  unfold g_143
  rw [e1]
  simp only [e_bd, e_bdn, e_st, e_li, e_bs, e_opn, e_ops, e_ob, e_vo, e_ia, e_eq, e_ne, e_lt, e_ge, e_gt, e_le, cond_true, cond_false, Bool.cond_decide]
  rw [show (1 : Int32) = Int32.ofNat 1 from rfl] at e2 e3 e4 ⊢
  rw [show g_143_14 (n + 4) (n + 4) = g_143_14 (n + 4) (n + 3 + 1) from rfl, e2, e3, e4]
  show g_143_14b _ _ _ _ _ _ _ = _
  unfold g_143_14b
  have e6 : a_in (Int32.ofNat (148 + p)) 947 = true := by rw [o_in (by omega)]; simp; omega
  simp only [e_bd, e_bdn, e_st, e_li, e_bs, e_opn, e_ops, e_ob, e_vo, e_ia, e_eq, e_ne, e_lt, e_ge, e_gt, e_le, cond_true, cond_false, Bool.cond_decide, show (4 : Int32) ≤ Int32.ofNat (3 + 1) by decide, if_true, e5, show (148 : Int32) + Int32.ofNat p = Int32.ofNat (148 + p) from o_add (p := 148), e6, o_cl (show 148 + p < 2147483648 by omega), M5.1.2.2.2.1 p hp]
  rw [hM.2.1]
  rfl
theorem bi_le (S : Nat → Int32) : ∀ k, b_bi S k ≤ k := by
  intro k
  induction k with
  | zero => simp [b_bi]
  | succ k ih => simp only [b_bi]; split <;> omega
theorem m_sh1 (hN : 200 ≤ N) (hd : d_ok d) (hM : MS A d F) {p : Nat} (hp : p < d_n d) {x2 : Int32} {k n : Nat} (hk : k < 3) : ∃ A', g_144_4 N (n + 1) (Int32.ofNat p) x2 (Int32.ofNat (b_bi (fun u => b_lg d F p (Int32.ofNat u)) k)) (Int32.ofNat (k + 1)) A = g_144_4 N n (Int32.ofNat p) x2 (Int32.ofNat (b_bi (fun u => b_lg d F p (Int32.ofNat u)) (k + 1))) (Int32.ofNat (k + 1 + 1)) A' ∧ fr [3, 4] A A' := by
  obtain ⟨A1, e1, f1⟩ := m_lg (w := Int32.ofNat (k + 1)) hN hd hM hp
  have M1 := MS_fr hM f1 (by decide)
  obtain ⟨A2, e2, f2⟩ := m_lg (w := Int32.ofNat (b_bi (fun u => b_lg d F p (Int32.ofNat u)) k)) hN hd M1 hp
  refine ⟨A2, ?_, fr_tr f1 f2⟩
  show g_144_4b N (g_144_4 N n) _ _ _ _ _ = _
  unfold g_144_4b
  have hge : ¬ (4 : Int32) ≤ Int32.ofNat (k + 1) := by rw [show (4 : Int32) = Int32.ofNat 4 from rfl, o_le (by omega) (by omega)]; omega
  simp only [e_bd, e_bdn, e_st, e_li, e_bs, e_opn, e_ops, e_ob, e_vo, e_ia, e_eq, e_ne, e_lt, e_ge, e_gt, e_le, cond_true, cond_false, Bool.cond_decide, hge, if_false, e1, e2, show Int32.ofNat (k + 1) + 1 = Int32.ofNat (k + 1 + 1) from o_add (q := 1), b_bi]
  by_cases c : b_lg d F p (Int32.ofNat (b_bi (fun u => b_lg d F p (Int32.ofNat u)) k)) < b_lg d F p (Int32.ofNat (k + 1))
  · have c' : ¬ b_lg d F p (Int32.ofNat (k + 1)) ≤ b_lg d F p (Int32.ofNat (b_bi (fun u => b_lg d F p (Int32.ofNat u)) k)) := by rw [z_lt] at c; rw [z_le]; omega
    rw [if_neg c', if_pos c]
  · have c' : b_lg d F p (Int32.ofNat (k + 1)) ≤ b_lg d F p (Int32.ofNat (b_bi (fun u => b_lg d F p (Int32.ofNat u)) k)) := by rw [z_lt] at c; rw [z_le]; omega
    rw [if_pos c', if_neg c]
theorem bi_less {l : Nat → Int32} {w : Nat} (hw : w < 4) : (b_bi l 3 = w) ↔ ¬ ((l w < l 0 ∨ (l 0 = l w ∧ 0 < w)) ∨ (l w < l 1 ∨ (l 1 = l w ∧ 1 < w)) ∨ (l w < l 2 ∨ (l 2 = l w ∧ 2 < w)) ∨ (l w < l 3 ∨ (l 3 = l w ∧ 3 < w))) := by
  simp only [b_bi, Nat.zero_add, Nat.reduceAdd]
  rcases (show w = 0 ∨ w = 1 ∨ w = 2 ∨ w = 3 by omega) with rfl | rfl | rfl | rfl <;> by_cases c1 : l 0 < l 1 <;> simp only [c1, if_true, if_false] <;> by_cases c2 : l 1 < l 2 <;> by_cases c2' : l 0 < l 2 <;> simp only [c2, c2', if_true, if_false] <;> by_cases c3 : l 0 < l 3 <;> by_cases c3' : l 1 < l 3 <;> by_cases c3'' : l 2 < l 3 <;> simp only [c3, c3', c3'', if_true, if_false, true_or, or_true, false_or, or_false, not_true, not_false_eq_true, true_and, and_true, false_and, and_false] <;> simp only [z_lt, z_eq] at * <;> first | omega | (simp; done) | (simp; omega)
theorem m_sh (hN : 200 ≤ N) (hd : d_ok d) (hM : MS A d F) {p : Nat} (hp : p < d_n d) {w : Nat} (hw : w < 4) : ∃ A', g_144 N (Int32.ofNat p) (Int32.ofNat w) A = some (b_sh d F p w, A') ∧ fr [3, 4] A A' := by
  obtain ⟨n, rfl⟩ : ∃ n, N = n + 4 := ⟨N - 4, by omega⟩
  obtain ⟨A1, e1, f1⟩ := m_sh1 (x2 := Int32.ofNat w) (n := n + 3) hN hd hM hp (show 0 < 3 by omega)
  have M1 := MS_fr hM f1 (by decide)
  obtain ⟨A2, e2, f2⟩ := m_sh1 (x2 := Int32.ofNat w) (n := n + 2) hN hd M1 hp (show 1 < 3 by omega)
  have M2 := MS_fr M1 f2 (by decide)
  obtain ⟨A3, e3, f3⟩ := m_sh1 (x2 := Int32.ofNat w) (n := n + 1) hN hd M2 hp (show 2 < 3 by omega)
  have M3 := MS_fr M2 f3 (by decide)
  have hf := fr_tr f1 (fr_tr f2 f3)
  have hle := bi_le (fun u => b_lg d F p (Int32.ofNat u)) 3
  unfold g_144
  rw [show g_144_4 (n + 4) (n + 4) (Int32.ofNat p) (Int32.ofNat w) (0 : Int32) (1 : Int32) A = g_144_4 (n + 4) (n + 3 + 1) (Int32.ofNat p) (Int32.ofNat w) (Int32.ofNat (b_bi (fun u => b_lg d F p (Int32.ofNat u)) 0)) (Int32.ofNat (0 + 1)) A from rfl, e1, e2, e3]
  have hsp : b_sh d F p w = if b_bi (fun u => b_lg d F p (Int32.ofNat u)) 3 = w then b_lg d F p (Int32.ofNat w) else 0 := by
    unfold b_sh
    have := bi_less (l := fun u => b_lg d F p (Int32.ofNat u)) hw
    by_cases c : b_bi (fun u => b_lg d F p (Int32.ofNat u)) 3 = w
    · rw [if_pos c, if_neg]
      simp only [b_less, Bool.or_eq_true, Bool.and_eq_true, decide_eq_true_eq]
      have h2 := this.mp c
      intro h3
      apply h2
      rcases h3 with ((h3 | h3) | h3) | h3
      · exact .inl h3
      · exact .inr (.inl h3)
      · exact .inr (.inr (.inl h3))
      · exact .inr (.inr (.inr h3))
    · rw [if_neg c, if_pos]
      simp only [b_less, Bool.or_eq_true, Bool.and_eq_true, decide_eq_true_eq]
      have h2 := fun h => c (this.mpr h)
      rcases Classical.not_not.mp h2 with h3 | h3 | h3 | h3
      · exact .inl (.inl (.inl h3))
      · exact .inl (.inl (.inr h3))
      · exact .inl (.inr h3)
      · exact .inr h3
  rw [hsp]
  show ∃ A', g_144_4b _ _ _ _ _ _ _ = _ ∧ _
  unfold g_144_4b
  simp only [e_bd, e_bdn, e_st, e_li, e_bs, e_opn, e_ops, e_ob, e_vo, e_ia, e_eq, e_ne, e_lt, e_ge, e_gt, e_le, cond_true, cond_false, Bool.cond_decide, show (4 : Int32) ≤ Int32.ofNat (2 + 1 + 1) by decide, if_true, show 2 + 1 = 3 from rfl, o_eq (show b_bi (fun u => b_lg d F p (Int32.ofNat u)) 3 < 2147483648 by omega) (show w < 2147483648 by omega)]
  by_cases c : b_bi (fun u => b_lg d F p (Int32.ofNat u)) 3 = w
  · obtain ⟨A4, e4, f4⟩ := m_lg (w := Int32.ofNat w) hN hd M3 hp
    simp only [c, not_true, if_false, if_true, e4, e_bd, e_bdn, e_st, e_li, e_bs, e_opn, e_ops, e_ob, e_vo, e_ia, e_eq, e_ne, e_lt, e_ge, e_gt, e_le, cond_true, cond_false, Bool.cond_decide]
    exact ⟨A4, rfl, fr_tr hf f4⟩
  · simp only [c, not_false_eq_true, if_true, if_false]
    exact ⟨A3, rfl, hf⟩
theorem m_bid (hN : 200 ≤ N) (hd : d_ok d) (hf : f_ok d F) (hM : MS A d F) {p : Nat} (hp : p < d_n d) {w : Nat} (hw : w < 4) : ∃ A', g_145 N (Int32.ofNat p) (Int32.ofNat w) A = some (b_kp (f_pu F p) (b_wi d F p w), A') ∧ fr [3, 4] A A' := by
  have hn := hd.2.2.2.1
  have hk6 := hd.2.2.2.2.1 p hp
  have hv9 := hd.2.2.2.2.2.1 p hp
  obtain ⟨A1, e1, f1⟩ := m_now (w := Int32.ofNat w) hN hd hM hp
  have M1 := MS_fr hM f1 (by decide)
  have i1 : a_in (Int32.ofNat (148 + p)) 947 = true := by rw [o_in (by omega)]; simp; omega
  have i2 : a_in (Int32.ofNat (140 + p)) 947 = true := by rw [o_in (by omega)]; simp; omega
  have i3 : a_in (Int32.ofNat (3 + p)) 947 = true := by rw [o_in (by omega)]; simp; omega
  have i4 : a_in (Int32.ofNat (156 + 4 * p + w)) 947 = true := by rw [o_in (by omega)]; simp; omega
  have hz : ¬ Int32.ofNat (d_vv d p) + 1 = 0 := by
    rw [show Int32.ofNat (d_vv d p) + 1 = Int32.ofNat (d_vv d p + 1) from o_add (q := 1), show (0 : Int32) = Int32.ofNat 0 from rfl, o_eq (by omega) (by omega)]; omega
  have lo : w_now d F p (Int32.ofNat w) / (Int32.ofNat (d_vv d p) + 1) = b_lo d F p (Int32.ofNat w) := rfl
  have hpu := M1.2.2.2.2 p (by omega)
  unfold g_145
  simp only [e1, e_bd, e_bdn, e_st, e_li, e_bs, e_opn, e_ops, e_ob, e_vo, e_ia, e_eq, e_ne, e_lt, e_ge, e_gt, e_le, cond_true, cond_false, Bool.cond_decide, show (148 : Int32) + Int32.ofNat p = Int32.ofNat (148 + p) from o_add (p := 148), show (140 : Int32) + Int32.ofNat p = Int32.ofNat (140 + p) from o_add (p := 140), show (3 : Int32) + Int32.ofNat p = Int32.ofNat (3 + p) from o_add (p := 3), show (156 : Int32) + 4 * Int32.ofNat p + Int32.ofNat w = Int32.ofNat (156 + 4 * p + w) by rw [show (4 : Int32) = Int32.ofNat 4 from rfl, show (156 : Int32) = Int32.ofNat 156 from rfl, o_mul, o_add, o_add], i1, i2, i3, i4, o_cl (show 148 + p < 2147483648 by omega), o_cl (show 140 + p < 2147483648 by omega), o_cl (show 3 + p < 2147483648 by omega), o_cl (show 156 + 4 * p + w < 2147483648 by omega), M1.1.2.2.2.1 p hp, M1.1.2.2.1 p hp, hpu, hz, not_false_eq_true, if_true, lo]
  have hrw := M1.1.2.2.2.2.1 (4 * p + w) (by omega)
  rw [show 156 + (4 * p + w) = 156 + 4 * p + w by omega] at hrw
  unfold b_wi
  generalize hkd : d_kd d p = k at hk6
  rcases (show k = 0 ∨ k = 1 ∨ k = 2 ∨ k = 3 ∨ k = 4 ∨ k = 5 ∨ k = 6 by omega) with rfl | rfl | rfl | rfl | rfl | rfl | rfl
  · rw [show a_tsw 1 6 86 [21, 26, 34, 42, 64, 72] (Int32.ofNat 0) = 86 by decide]
    obtain ⟨A2, e2, f2⟩ := m_now (w := Int32.ofNat w) hN hd M1 hp
    simp [e2, e_bd, e_bdn, e_st, e_li, e_bs, e_opn, e_ops, e_ob, e_vo, e_ia, e_eq, e_ne, e_lt, e_ge, e_gt, e_le, cond_true, cond_false, Bool.cond_decide, m_kept (show p < 8 by omega) (MS_fr M1 f2 (by decide))]
    exact fr_tr f1 f2
  · rw [show a_tsw 1 6 86 [21, 26, 34, 42, 64, 72] (Int32.ofNat 1) = 21 by decide]
    simp [e_bd, e_bdn, e_st, e_li, e_bs, e_opn, e_ops, e_ob, e_vo, e_ia, e_eq, e_ne, e_lt, e_ge, e_gt, e_le, cond_true, cond_false, Bool.cond_decide, m_kept (show p < 8 by omega) M1]
    exact f1
  · rw [show a_tsw 1 6 86 [21, 26, 34, 42, 64, 72] (Int32.ofNat 2) = 26 by decide]
    obtain ⟨A2, e2, f2⟩ := m_lg (w := Int32.ofNat w) hN hd M1 hp
    simp [e2, e_bd, e_bdn, e_st, e_li, e_bs, e_opn, e_ops, e_ob, e_vo, e_ia, e_eq, e_ne, e_lt, e_ge, e_gt, e_le, cond_true, cond_false, Bool.cond_decide, m_kept (show p < 8 by omega) (MS_fr M1 f2 (by decide))]
    exact fr_tr f1 f2
  · rw [show a_tsw 1 6 86 [21, 26, 34, 42, 64, 72] (Int32.ofNat 3) = 34 by decide]
    obtain ⟨A2, e2, f2⟩ := m_ah (w := Int32.ofNat w) hN hd M1 hp
    simp [e2, e_bd, e_bdn, e_st, e_li, e_bs, e_opn, e_ops, e_ob, e_vo, e_ia, e_eq, e_ne, e_lt, e_ge, e_gt, e_le, cond_true, cond_false, Bool.cond_decide, m_kept (show p < 8 by omega) (MS_fr M1 f2 (by decide))]
    exact fr_tr f1 f2
  · rw [show a_tsw 1 6 86 [21, 26, 34, 42, 64, 72] (Int32.ofNat 4) = 42 by decide]
    have hp0 := (hf.2.2.2 p hp).1
    have k0 : (0 : Int32).toInt = 0 := rfl
    by_cases c : f_pu F p < 10 * Int32.ofNat (d_vv d p)
    · have c' : ¬ 10 * Int32.ofNat (d_vv d p) ≤ f_pu F p := by rw [z_lt] at c; rw [z_le]; omega
      have hz2 : b_kp (f_pu F p) 0 = 0 := by
        unfold b_kp
        rw [if_neg (by rw [z_lt]; omega), if_neg (by rw [z_lt]; omega)]
      simp [c, c', e_bd, e_bdn, e_st, e_li, e_bs, e_opn, e_ops, e_ob, e_vo, e_ia, e_eq, e_ne, e_lt, e_ge, e_gt, e_le, cond_true, cond_false, Bool.cond_decide, hz2]
      exact f1
    · have c' : 10 * Int32.ofNat (d_vv d p) ≤ f_pu F p := by rw [z_lt] at c; rw [z_le]; omega
      simp [c, c', e_bd, e_bdn, e_st, e_li, e_bs, e_opn, e_ops, e_ob, e_vo, e_ia, e_eq, e_ne, e_lt, e_ge, e_gt, e_le, cond_true, cond_false, Bool.cond_decide, m_kept (show p < 8 by omega) M1]
      exact f1
  · rw [show a_tsw 1 6 86 [21, 26, 34, 42, 64, 72] (Int32.ofNat 5) = 64 by decide]
    obtain ⟨A2, e2, f2⟩ := m_sh hN hd M1 hp hw
    simp [e2, e_bd, e_bdn, e_st, e_li, e_bs, e_opn, e_ops, e_ob, e_vo, e_ia, e_eq, e_ne, e_lt, e_ge, e_gt, e_le, cond_true, cond_false, Bool.cond_decide, m_kept (show p < 8 by omega) (MS_fr M1 f2 (by decide))]
    exact fr_tr f1 f2
  · rw [show a_tsw 1 6 86 [21, 26, 34, 42, 64, 72] (Int32.ofNat 6) = 72 by decide]
    simp [e_bd, e_bdn, e_st, e_li, e_bs, e_opn, e_ops, e_ob, e_vo, e_ia, e_eq, e_ne, e_lt, e_ge, e_gt, e_le, cond_true, cond_false, Bool.cond_decide, m_kept (show p < 8 by omega) M1, hrw]
    exact f1
end MB2
