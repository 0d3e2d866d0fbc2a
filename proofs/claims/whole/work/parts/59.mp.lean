/-! 59.mp: what the model lets pay; its evening -/
section MPP
variable {N : Nat} {d : dS} {F : fS} {A : mS} {B : Nat → Int32}
theorem m_ha1 (hn : d_n d ≤ 8) (hO : MO A d F B) {p : Nat} (hp : p < d_n d) {k n : Nat} (hk : k < 4) : g_149_4 N (n + 1) (Int32.ofNat p) (b_mo (b_S d B) B p k) (Int32.ofNat k) A = g_149_4 N n (Int32.ofNat p) (b_mo (b_S d B) B p (k + 1)) (Int32.ofNat (k + 1)) A := by
  show g_149_4b _ _ _ _ _ _ = _
  unfold g_149_4b
  have hge : ¬ (4 : Int32) ≤ Int32.ofNat k := by rw [show (4 : Int32) = Int32.ofNat 4 from rfl, o_le (by omega) (by omega)]; omega
  have hin : a_in (Int32.ofNat k) 4 = true := by rw [o_in (by omega)]; simp; omega
  have hin2 : a_in (Int32.ofNat (4 * p + k)) 32 = true := by rw [o_in (by omega)]; simp; omega
  simp only [e_bd, e_bdn, e_st, e_li, e_bs, e_opn, e_ops, e_ob, e_vo, e_ia, e_eq, e_ne, e_lt, e_ge, e_gt, e_le, cond_true, cond_false, Bool.cond_decide, hge, if_false, hin, hin2, o_cl (show k < 2147483648 by omega), show (4 : Int32) * Int32.ofNat p + Int32.ofNat k = Int32.ofNat (4 * p + k) by rw [show (4 : Int32) = Int32.ofNat 4 from rfl, o_mul, o_add], o_cl (show 4 * p + k < 2147483648 by omega), hO.1 (4 * p + k) (by omega), hO.2.1 k hk, show Int32.ofNat k + 1 = Int32.ofNat (k + 1) from o_add (q := 1), b_mo]
  rw [← i_mx_le]
  split <;> rfl
theorem m_harm (hN : 200 ≤ N) (hd : d_ok d) (hf : f_ok d F) (hO : MO A d F B) {p : Nat} (hp : p < d_n d) : g_149 N (Int32.ofNat p) A = some ((if b_any d B then b_hm d F B p else 0), A) := by
  have hn := hd.2.2.2.1
  obtain ⟨n, rfl⟩ : ∃ n, N = n + 5 := ⟨N - 5, by omega⟩
  obtain ⟨q, hq, hso⟩ := so_ok (B := B) hd hf
  unfold g_149
  rw [show g_149_4 (n + 5) (n + 5) (Int32.ofNat p) (0 : Int32) (0 : Int32) A = g_149_4 (n + 5) (n + 4 + 1) (Int32.ofNat p) (b_mo (b_S d B) B p 0) (Int32.ofNat 0) A from rfl, m_ha1 hn hO hp (by omega), m_ha1 (n := n + 3) hn hO hp (by omega), m_ha1 (n := n + 2) hn hO hp (by omega), m_ha1 (n := n + 1) hn hO hp (by omega)]
  show g_149_4b _ _ _ _ _ _ = _
  unfold g_149_4b b_hm
  have hin : a_in (Int32.ofNat q) 4 = true := by rw [o_in (by omega)]; simp; omega
  have hin2 : a_in (Int32.ofNat (4 * p + q)) 32 = true := by rw [o_in (by omega)]; simp; omega
  rw [hO.2.2.1, hO.2.2.2, hso]
  simp only [e_bd, e_bdn, e_st, e_li, e_bs, e_opn, e_ops, e_ob, e_vo, e_ia, e_eq, e_ne, e_lt, e_ge, e_gt, e_le, cond_true, cond_false, Bool.cond_decide, show (4 : Int32) ≤ Int32.ofNat (0 + 1 + 1 + 1 + 1) by decide, if_true, b_i0, hin, hin2, o_cl (show q < 2147483648 by omega), show (4 : Int32) * Int32.ofNat p + Int32.ofNat q = Int32.ofNat (4 * p + q) by rw [show (4 : Int32) = Int32.ofNat 4 from rfl, o_mul, o_add], o_cl (show 4 * p + q < 2147483648 by omega), hO.1 (4 * p + q) (by omega), hO.2.1 q hq]
  cases b_any d B <;> simp
theorem cnt_le {so : Nat} : ∀ k, b_cnt B so k ≤ k := by
  intro k
  induction k with
  | zero => simp [b_cnt]
  | succ k ih => simp only [b_cnt]; split <;> omega
theorem cnt_0 {so : Nat} (hs : so < 4) (hB : B_ok d B) : ∀ k, k ≤ d_n d → b_cnt B so k = 0 → b_sm B so k = 0 := by
  intro k
  induction k with
  | zero => intro _ _; rfl
  | succ k ih =>
    intro hk h
    simp only [b_cnt] at h
    split at h
    · omega
    · rename_i c
      have h1 := hB (4 * k + so) (by omega)
      have h2 : B (4 * k + so) = 0 := by rw [z_lt, show (0 : Int32).toInt = 0 from rfl] at c; rw [z_eq, show (0 : Int32).toInt = 0 from rfl]; omega
      simp only [b_sm]
      rw [ih (by omega) h, h2]
      rfl
theorem cnt_pos (hd : d_ok d) (hB : B_ok d B) (ha : b_any d B = true) : 0 < b_cnt B (b_so d F B).toNatClampNeg (d_n d) := by
  have hb := bi_le (b_S d B) 3
  have hso : b_so d F B = Int32.ofNat (b_bi (b_S d B) 3) := by unfold b_so; rw [ha]; rfl
  rw [hso, o_cl (by omega)]
  rcases Nat.eq_zero_or_pos (b_cnt B (b_bi (b_S d B) 3) (d_n d)) with h | h
  · have h2 := cnt_0 (by omega) hB (d_n d) (Nat.le_refl _) h
    unfold b_any at ha
    rw [decide_eq_true_iff] at ha
    unfold b_S at ha h2
    rw [h2, z_lt] at ha
    omega
  · exact h
theorem m_p21 (hO : MO A d F B) {x2 : Int32} {k n : Nat} (hk : k < 4) : g_150_37 N (n + 1) x2 (b_2nd (b_S d B) (b_so d F B) k) (Int32.ofNat k) A = g_150_37 N n x2 (b_2nd (b_S d B) (b_so d F B) (k + 1)) (Int32.ofNat (k + 1)) A := by
  show g_150_37b _ _ _ _ _ _ = _
  unfold g_150_37b
  have hge : ¬ (4 : Int32) ≤ Int32.ofNat k := by rw [show (4 : Int32) = Int32.ofNat 4 from rfl, o_le (by omega) (by omega)]; omega
  have hin : a_in (Int32.ofNat k) 4 = true := by rw [o_in (by omega)]; simp; omega
  simp only [e_bd, e_bdn, e_st, e_li, e_bs, e_opn, e_ops, e_ob, e_vo, e_ia, e_eq, e_ne, e_lt, e_ge, e_gt, e_le, cond_true, cond_false, Bool.cond_decide, hge, if_false, hin, o_cl (show k < 2147483648 by omega), hO.2.2.1, hO.2.1 k hk, show Int32.ofNat k + 1 = Int32.ofNat (k + 1) from o_add (q := 1), b_2nd]
  by_cases c : Int32.ofNat k = b_so d F B
  · rw [if_pos c, if_pos c]
  · rw [if_neg c, if_neg c, ← i_mx_le]
    split <;> rfl
theorem m_p22 (hn : d_n d ≤ 8) (hd11 : A 0 11 = Int32.ofNat (d_n d)) (hO : MO A d F B) {q : Nat} (hq : q < 4) (hso : b_so d F B = Int32.ofNat q) {x2 x3 : Int32} {n : Nat} : ∀ r k, k + r = d_n d → g_150_63 N (r + n) x2 x3 (Int32.ofNat (b_cnt B q k)) (Int32.ofNat k) A = g_150_63 N n x2 x3 (Int32.ofNat (b_cnt B q (d_n d))) (Int32.ofNat (d_n d)) A := by
  intro r
  induction r with
  | zero => intro k hk; rw [show k = d_n d by omega, Nat.zero_add]
  | succ r ih =>
    intro k hk
    rw [← ih (k + 1) (by omega), show r + 1 + n = (r + n) + 1 by omega]
    show g_150_63b _ _ _ _ _ _ _ = _
    unfold g_150_63b
    have hge : ¬ Int32.ofNat (d_n d) ≤ Int32.ofNat k := by rw [o_le (by omega) (by omega)]; omega
    have hin2 : a_in (Int32.ofNat (4 * k + q)) 32 = true := by rw [o_in (by omega)]; simp; omega
    simp only [e_bd, e_bdn, e_st, e_li, e_bs, e_opn, e_ops, e_ob, e_vo, e_ia, e_eq, e_ne, e_lt, e_ge, e_gt, e_le, cond_true, cond_false, Bool.cond_decide, hd11, hge, if_false, hO.2.2.1, hso, show (4 : Int32) * Int32.ofNat k + Int32.ofNat q = Int32.ofNat (4 * k + q) by rw [show (4 : Int32) = Int32.ofNat 4 from rfl, o_mul, o_add], hin2, o_cl (show 4 * k + q < 2147483648 by omega), hO.1 (4 * k + q) (by omega), show Int32.ofNat k + 1 = Int32.ofNat (k + 1) from o_add (q := 1), b_cnt, Int32.add_zero, show Int32.ofNat (b_cnt B q k) + 1 = Int32.ofNat (b_cnt B q k + 1) from o_add (q := 1)]
    by_cases c : 0 < B (4 * k + q)
    · have c' : ¬ B (4 * k + q) ≤ 0 := by rw [z_lt] at c; rw [z_le]; omega
      rw [if_neg c', if_pos c]
    · have c' : B (4 * k + q) ≤ 0 := by rw [z_lt] at c; rw [z_le]; omega
      rw [if_pos c', if_neg c]
theorem mv_ru (h : MD (A 0) d) : g_132 N 232 A = some (d_ru d, A) := by
  rw [show (232 : Int32) = Int32.ofNat 232 from rfl, m_tells (by omega) h.1]
  rcases h.1 with ⟨h1, h2, h3, h4⟩ | ⟨q, hq, h1, h2, h3, h4⟩
  · rw [if_pos h1, h3]
  · rw [if_neg (by rw [h1]; exact m_ofnat_ne (by omega)), h1, o_cl (by omega), h2]
theorem mv_gi (h : MD (A 0) d) : g_132 N 237 A = some (d_gi d, A) := by
  rw [show (237 : Int32) = Int32.ofNat 237 from rfl, m_tells (by omega) h.1]
  rcases h.1 with ⟨h1, h2, h3, h4⟩ | ⟨q, hq, h1, h2, h3, h4⟩
  · rw [if_pos h1, h4]
  · rw [if_neg (by rw [h1]; exact m_ofnat_ne (by omega)), h1, o_cl (by omega), h3]
theorem m_pay (hN : 200 ≤ N) (hd : d_ok d) (hf : f_ok d F) (hB : B_ok d B) (hM : MD (A 0) d) (hO : MO A d F B) {p : Nat} (hp : p < d_n d) : g_150 N (Int32.ofNat p) A = some (b_pay d F B p, A) := by
  have hn := hd.2.2.2.1
  obtain ⟨q, hq, hso⟩ := so_ok (B := B) hd hf
  have hin2 : a_in (Int32.ofNat (4 * p + q)) 32 = true := by rw [o_in (by omega)]; simp; omega
  unfold g_150
  simp only [hO.2.2.1, hso, e_bd, e_bdn, e_st, e_li, e_bs, e_opn, e_ops, e_ob, e_vo, e_ia, e_eq, e_ne, e_lt, e_ge, e_gt, e_le, cond_true, cond_false, Bool.cond_decide, show (4 : Int32) * Int32.ofNat p + Int32.ofNat q = Int32.ofNat (4 * p + q) by rw [show (4 : Int32) = Int32.ofNat 4 from rfl, o_mul, o_add], hin2, o_cl (show 4 * p + q < 2147483648 by omega), hO.1 (4 * p + q) (by omega), hO.2.2.2, b_i0, g_150_17, mv_ru hM]
  unfold b_pay
  rw [hso, o_cl (by omega)]
  cases ha : b_any d B
  · simp
  · simp only [Bool.not_true, not_true, if_false, if_true]
    by_cases c0 : d_ru d = 0
    · rw [if_neg (by rw [c0]; simp), if_neg (by rw [c0]; decide), if_neg (by rw [c0]; decide)]
    · rw [if_pos c0]
      by_cases c1 : d_ru d = 1
      · rw [if_neg (by rw [c1]; simp), if_pos c1, m_harm hN hd hf hO hp, ha]
        rfl
      · have c2 : d_ru d = 2 := by
          rcases hd.2.1 with h | h | h
          · exact absurd h c0
          · exact absurd h c1
          · exact h
        rw [if_pos c1, if_neg c1, if_pos c2]
        obtain ⟨n, rfl⟩ : ∃ n, N = n + 5 := ⟨N - 5, by omega⟩
        rw [show g_150_37 (n + 5) (n + 5) (B (4 * p + q)) (0 : Int32) (0 : Int32) A = g_150_37 (n + 5) (n + 4 + 1) (B (4 * p + q)) (b_2nd (b_S d B) (b_so d F B) 0) (Int32.ofNat 0) A from rfl, m_p21 hO (by omega), m_p21 (n := n + 3) hO (by omega), m_p21 (n := n + 2) hO (by omega), m_p21 (n := n + 1) hO (by omega)]
        show g_150_37b _ _ _ _ _ _ = _
        unfold g_150_37b
        simp only [e_bd, e_bdn, e_st, e_li, e_bs, e_opn, e_ops, e_ob, e_vo, e_ia, e_eq, e_ne, e_lt, e_ge, e_gt, e_le, cond_true, cond_false, Bool.cond_decide, show (4 : Int32) ≤ Int32.ofNat (0 + 1 + 1 + 1 + 1) by decide, if_true]
        have e := m_p22 (N := n + 5) (F := F) hn hM.2.1 hO hq hso (x2 := B (4 * p + q)) (x3 := b_2nd (b_S d B) (b_so d F B) (0 + 1 + 1 + 1 + 1)) (n := n + 5 - d_n d) (d_n d) 0 (by omega)
        rw [show d_n d + (n + 5 - d_n d) = n + 5 by omega] at e
        refine e.trans ?_
        obtain ⟨m, hm⟩ : ∃ m, n + 5 - d_n d = m + 1 := ⟨n + 4 - d_n d, by omega⟩
        rw [hm]
        show g_150_63b _ _ _ _ _ _ _ = _
        unfold g_150_63b
        have hin : a_in (Int32.ofNat q) 4 = true := by rw [o_in (by omega)]; simp; omega
        have hcp := cnt_pos (F := F) hd hB ha
        rw [hso, o_cl (by omega)] at hcp
        have hcl := cnt_le (B := B) (so := q) (d_n d)
        have hz : ¬ Int32.ofNat (b_cnt B q (d_n d)) = 0 := by rw [show (0 : Int32) = Int32.ofNat 0 from rfl, o_eq (by omega) (by omega)]; omega
        simp only [e_bd, e_bdn, e_st, e_li, e_bs, e_opn, e_ops, e_ob, e_vo, e_ia, e_eq, e_ne, e_lt, e_ge, e_gt, e_le, cond_true, cond_false, Bool.cond_decide, hM.2.1, z_le, Int.le_refl, if_true, hO.2.2.1, hso, hin, o_cl (show q < 2147483648 by omega), hO.2.1 q hq, hz, not_false_eq_true, i_mx, z_lt]
        generalize B (4 * p + q) - (b_S d B q - b_2nd (b_S d B) (Int32.ofNat q) (0 + 1 + 1 + 1 + 1)) / Int32.ofNat (b_cnt B q (d_n d)) = z
        have k0 : (0 : Int32).toInt = 0 := rfl
        by_cases c : (0 : Int32).toInt < z.toInt
        · rw [if_pos c, if_pos (by omega)]
        · rw [if_neg c]
          by_cases c' : (0 : Int32).toInt ≤ z.toInt
          · rw [if_pos c', show z = 0 by rw [z_eq]; omega]
          · rw [if_neg c']
theorem m_gain (hN : 200 ≤ N) (hd : d_ok d) (hf : f_ok d F) (hB : B_ok d B) (hM : MS A d F) (hO : MO A d F B) {p : Nat} (hp : p < d_n d) : ∃ A', g_151 N (Int32.ofNat p) A = some (b_gn d F B p, A') ∧ fr [3, 4] A A' := by
  obtain ⟨A1, e1, f1⟩ := m_now (w := A 99 14) hN hd hM hp
  refine ⟨A1, ?_, f1⟩
  unfold g_151
  rw [e1]
  simp only [e_bd, e_bdn, e_st, e_li, e_bs, e_opn, e_ops, e_ob, e_vo, e_ia, e_eq, e_ne, e_lt, e_ge, e_gt, e_le, cond_true, cond_false, Bool.cond_decide, m_pay hN hd hf hB (MS_fr hM f1 (by decide)).1 (MO_fr hO f1 (by decide) (by decide) (by decide)) hp]
  rw [hO.2.2.1]
  rfl
theorem m_wa1 (hN : 200 ≤ N) (hd : d_ok d) {w y dy : Int32} {n : Nat} : ∀ (r k : Nat) (A : mS), k + r = d_n d → MD (A 0) d → ∃ A', g_135_4 N (r + 1 + n) w y dy (w_all d w y dy k) (Int32.ofNat k) A = some (w_all d w y dy (d_n d), A') ∧ fr [3, 4] A A' := by
  have hn := hd.2.2.2.1
  intro r
  induction r with
  | zero =>
    intro k A hk hM
    obtain rfl : k = d_n d := by omega
    refine ⟨A, ?_, fr_rfl⟩
    rw [show 0 + 1 + n = n + 1 by omega]
    show g_135_4b _ _ _ _ _ _ _ _ = _
    unfold g_135_4b
    simp only [e_bd, e_bdn, e_st, e_li, e_bs, e_opn, e_ops, e_ob, e_vo, e_ia, e_eq, e_ne, e_lt, e_ge, e_gt, e_le, cond_true, cond_false, Bool.cond_decide, hM.2.1, z_le, Int.le_refl, if_true]
  | succ r ih =>
    intro k A hk hM
    obtain ⟨A1, e1, f1⟩ := mw_worth (w := w) (y := y) (dy := dy) hN hd.1 hn hM (show k < d_n d by omega)
    obtain ⟨A2, e2, f2⟩ := ih (k + 1) A1 (by omega) (by rw [fr_at f1 (by decide)]; exact hM)
    refine ⟨A2, ?_, fr_tr f1 f2⟩
    rw [show r + 1 + 1 + n = (r + 1 + n) + 1 by omega]
    show g_135_4b _ _ _ _ _ _ _ _ = _
    unfold g_135_4b
    have hge : ¬ Int32.ofNat (d_n d) ≤ Int32.ofNat k := by rw [o_le (by omega) (by omega)]; omega
    simp only [e_bd, e_bdn, e_st, e_li, e_bs, e_opn, e_ops, e_ob, e_vo, e_ia, e_eq, e_ne, e_lt, e_ge, e_gt, e_le, cond_true, cond_false, Bool.cond_decide, hM.2.1, hge, if_false, e1, show Int32.ofNat k + 1 = Int32.ofNat (k + 1) from o_add (q := 1)]
    exact e2
theorem m_wall (hN : 200 ≤ N) (hd : d_ok d) (hM : MD (A 0) d) {w y dy : Int32} : ∃ A', g_135 N w y dy A = some (w_all d w y dy (d_n d), A') ∧ fr [3, 4] A A' := by
  have hn := hd.2.2.2.1
  obtain ⟨A1, e1, f1⟩ := m_wa1 (N := N) (w := w) (y := y) (dy := dy) (n := N - (d_n d + 1)) hN hd (d_n d) 0 A (by omega) hM
  rw [show d_n d + 1 + (N - (d_n d + 1)) = N by omega] at e1
  exact ⟨A1, e1, f1⟩
end MPP
