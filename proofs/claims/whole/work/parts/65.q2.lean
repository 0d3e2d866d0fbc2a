/-! 65.q2: run, spill, looked, worse -/
section Q2
variable {N : Nat} {d : dS} {F : fS} {A C : mS} {P : Nat → Option Nat} {vl : Option Nat} {R : List aC}
theorem m_run1 (hN : 200 ≤ N) (hd : d_ok d) {A0 : mS} {x2 : Int32} {n m : Nat} (hn : n ≤ 40) (hk : ∀ k, k ≤ n → f_ok d (e_it d F k)) : ∀ (r k : Nat) (A : mS), k + r = n → EM A0 A d F k → A 99 16 = e_ww d F k → A 99 17 = e_pp d F k → ∃ A', g_155_33 N (r + 1 + m) (Int32.ofNat n) x2 (Int32.ofNat k) A = g_155_33b N (g_155_33 N m) (Int32.ofNat n) x2 (Int32.ofNat n) A' ∧ EM A0 A' d F n ∧ A' 99 16 = e_ww d F n ∧ A' 99 17 = e_pp d F n := by
  intro r
  induction r with
  | zero =>
    intro k A hkr h h16 h17
    obtain rfl : k = n := by omega
    refine ⟨A, ?_, h, h16, h17⟩
    rw [show 0 + 1 + m = m + 1 by omega]
    rfl
  | succ r ih =>
    intro k A hkr h h16 h17
    obtain ⟨A1, e1, m1, -, i16, i17, -⟩ := m_evn hN hd (hk k (by omega)) h
    obtain ⟨A2, e2, m2, j16, j17⟩ := ih (k + 1) A1 (by omega) m1 (by rw [i16, h16]; rfl) (by rw [i17, h17]; rfl)
    refine ⟨A2, ?_, m2, j16, j17⟩
    rw [← e2, show r + 1 + 1 + m = (r + 1 + m) + 1 by omega]
    show g_155_33b _ _ _ _ _ _ = _
    unfold g_155_33b
    simp only [e_bd, e_bdn, e_st, e_li, e_bs, e_opn, e_ops, e_ob, e_vo, e_ia, e_eq, e_ne, e_lt, e_ge, e_gt, e_le, cond_true, cond_false, Bool.cond_decide, show ¬ Int32.ofNat (n) ≤ Int32.ofNat (k) by rw [o_le (by omega) (by omega)]; omega, if_false, e1, show Int32.ofNat (k) + 1 = Int32.ofNat (k + 1) from o_add (q := 1)]
def e_la (d : dS) (F : fS) (k : Nat) : Int32 := if k = 0 then -5 else f_ah (e_it d F k)
theorem k_run1 (hN : 200 ≤ N) (hd : d_ok d) {C0 : mS} {x2 x3 : Int32} {n m : Nat} (hn : n ≤ 40) (hk : ∀ k, k ≤ n → f_ok d (e_it d F k)) : ∀ (r k : Nat) (C : mS), k + r = n → CS C P vl R d (e_it d F k) → fr [9, 10, 11, 12, 92] C0 C → ∃ C', k_85_34 N P vl R (r + 1 + m) (Int32.ofNat n) x2 x3 (e_la d F k) (e_ww d F k) (e_pp d F k) (Int32.ofNat k) C = k_85_34b N P vl R (k_85_34 N P vl R m) (Int32.ofNat n) x2 x3 (e_la d F n) (e_ww d F n) (e_pp d F n) (Int32.ofNat n) C' ∧ CS C' P vl R d (e_it d F n) ∧ fr [9, 10, 11, 12, 92] C0 C' := by
  intro r
  induction r with
  | zero =>
    intro k C hkr h hf0
    obtain rfl : k = n := by omega
    refine ⟨C, ?_, h, hf0⟩
    rw [show 0 + 1 + m = m + 1 by omega]
    rfl
  | succ r ih =>
    intro k C hkr h hf0
    have hf := hk k (by omega)
    obtain ⟨C1, e1, f1, -, o1, s1⟩ := k_open hN hd hf h
    obtain ⟨C2, e2, f2⟩ := k_wnow (w := C1 92 9) hN hd s1
    have s2 := CS12 s1 f2
    have o2 := CO_fr o1 f2 (by decide) (by decide) (by decide)
    obtain ⟨C3, e3, f3, -, s3⟩ := k_clo hN hd hf s2 o2
    obtain ⟨C4, e4, s4, f4⟩ := ih (k + 1) C3 (by omega) s3 (fr_tr hf0 (fr_tr (fr_mono f1 (by simp)) (fr_tr (fr_mono f2 (by simp)) (fr_mono f3 (by simp)))))
    refine ⟨C4, ?_, s4, f4⟩
    rw [← e4, show r + 1 + 1 + m = (r + 1 + m) + 1 by omega]
    show k_85_34b _ _ _ _ _ _ _ _ _ _ _ _ _ = _
    unfold k_85_34b
    simp only [e_bd, e_bdn, e_st, e_li, e_bs, e_opn, e_ops, e_ob, e_vo, e_ia, e_eq, e_ne, e_lt, e_ge, e_gt, e_le, cond_true, cond_false, Bool.cond_decide, show ¬ Int32.ofNat (n) ≤ Int32.ofNat (k) by rw [o_le (by omega) (by omega)]; omega, if_false, e1, e2, e3, show Int32.ofNat (k) + 1 = Int32.ofNat (k + 1) from o_add (q := 1)]
    rw [o1.2.2.1]
    rfl
theorem days_ok (hd : d_ok d) (hf : f_ok d F) (hy : (f_dy F).toInt ≤ 99) {n : Nat} (hn : n ≤ 40) : ∀ k, k ≤ n → f_ok d (e_it d F k) := fun k hk => (it_ok hd hf k (by omega)).1
theorem q_run16 (hN : 200 ≤ N) (hd : d_ok d) (hf : f_ok d F) (hy : (f_dy F).toInt ≤ 99) (hM : MS A d F) (hC : CD C P vl R d) (hW : WF C F) (x1 x2 : Int32) (hx : (0 ≤ x2.toInt ∧ x2.toInt ≤ 2) ∨ (10 ≤ x2.toInt ∧ x2.toInt < 10 + d_n d)) : ∃ r A' C', g_155_16 N x1 x2 A = some (r, A') ∧ k_85_16 N P vl R x1 x2 (b_i (decide (10 ≤ x2.toInt ∧ x2.toInt < 10 + d_n d))) C = some (r, C') ∧ QM A A' ∧ QC C C' := by
  have hn8 := hd.2.2.2.1
  have k0 : (0 : Int32).toInt = 0 := rfl
  have k1 : (1 : Int32).toInt = 1 := rfl
  have k2 : (2 : Int32).toInt = 2 := rfl
  have k40 : (40 : Int32).toInt = 40 := rfl
  unfold g_155_16 k_85_16
  simp only [m_in, e_bd, e_bdn, e_st, e_li, e_bs, e_opn, e_ops, e_ob, e_vo, e_ia, e_eq, e_ne, e_lt, e_ge, e_gt, e_le, cond_true, cond_false, Bool.cond_decide, z_le, z_lt, k0, k40]
  by_cases c1 : 0 ≤ x1.toInt ∧ x1.toInt ≤ 40
  · rw [decide_eq_true c1]
    obtain ⟨n, hn, rfl⟩ := o_ex (x := x1) (n := 41) c1.1 (by omega)
    have hk := days_ok hd hf hy (show n ≤ 40 by omega)
    obtain ⟨A1, e1, f1, h1⟩ := m_keep (A := A) hN
    generalize hA2 : va_up A1 99 (upd (upd (A1 99) 16 0) 17 0) = A2
    have f2 : fr [2, 99] A A2 := by rw [← hA2]; exact fr_up (fr_mono f1 (by simp)) (by simp)
    have p2 : f9 [16, 17] A A2 := by
      rw [← hA2]
      intro f hf'
      simp at hf'
      rw [va_up_self, upd_ne _ _ hf'.2, upd_ne _ _ hf'.1, fr_at f1 (by decide)]
    have M2 : MS A2 d F := MS_fr hM f2 (by decide)
    obtain ⟨A3, e3, m3, i16, i17⟩ := m_run1 (N := N) (A0 := A2) (F := F) (x2 := x2) (m := N - (n + 1)) hN hd (show n ≤ 40 by omega) hk n 0 A2 (by omega) (EM_0 M2 fr_rfl (fun _ _ => rfl)) (by rw [← hA2, va_up_self, upd_ne _ _ (by decide), upd_self]; rfl) (by rw [← hA2, va_up_self, upd_self]; rfl)
    rw [show n + 1 + (N - (n + 1)) = N by omega] at e3
    obtain ⟨A4, e4, q4, -, -⟩ := m_bck hN m3 (fun j hj => by rw [← hA2, va_up_ne _ _ (by decide), va_up_ne _ _ (by decide), h1 j hj, fr_at f1 (by decide)])
    have hQ : QM A A4 := QM_tr (QM_f9 f2 (by decide) (by decide) (by decide) p2 (by decide) (by decide)) q4
    obtain ⟨C1, ec1, sc1, fc1⟩ := k_beg (N := N) hC hW
    obtain ⟨C2, ec2, sc2, fc2⟩ := k_run1 (N := N) (C0 := C1) (F := F) (x2 := x2) (x3 := b_i (decide (10 ≤ x2.toInt ∧ x2.toInt < 10 + d_n d))) (m := N - (n + 1)) hN hd (show n ≤ 40 by omega) hk n 0 C1 (by omega) sc1 fr_rfl
    rw [show n + 1 + (N - (n + 1)) = N by omega] at ec2
    have hQC : QC C C2 := fr_mono (fr_tr (fr_mono fc1 (T := [9, 10, 11, 12, 92]) (by simp)) fc2) (by simp)
    have e3' : g_155_33 N N (Int32.ofNat n) x2 0 A2 = _ := e3
    have ec2' : k_85_34 N P vl R N (Int32.ofNat n) x2 (b_i (decide (10 ≤ x2.toInt ∧ x2.toInt < 10 + d_n d))) (-5) 0 0 0 C1 = _ := ec2
    rw [z_ofNat (by omega)]
    simp only [show ¬ b_i true = 0 by decide, not_false_eq_true, if_true, if_false, e1, hA2, ec1, e_bd, e_bdn, e_st, e_li, e_bs, e_opn, e_ops, e_ob, e_vo, e_ia, e_eq, e_ne, e_lt, e_ge, e_gt, e_le, cond_true, cond_false, Bool.cond_decide, show ¬ ((n : Int) < 0) by omega, show (n : Int) ≤ 40 by omega]
    rw [e3', ec2']
    unfold g_155_33b k_85_34b g_155_69
    simp only [e_bd, e_bdn, e_st, e_li, e_bs, e_opn, e_ops, e_ob, e_vo, e_ia, e_eq, e_ne, e_lt, e_ge, e_gt, e_le, cond_true, cond_false, Bool.cond_decide, z_le, Int.le_refl, if_true, ne_i (x := x2) k0, ne_i (x := x2) k1, ne_i (x := x2) k2, e4, i16, i17]
    by_cases c2 : 10 ≤ x2.toInt ∧ x2.toInt < 10 + d_n d
    · rw [decide_eq_true c2]
      obtain ⟨q, hq, rfl⟩ := o_ex (x := x2) (n := 18) (by omega) (by omega)
      rw [z_ofNat (by omega)] at c2 ⊢
      obtain ⟨p, rfl⟩ : ∃ p, q = 10 + p := ⟨q - 10, by omega⟩
      have hx1 : Int32.ofNat (10 + p) - 10 = Int32.ofNat p := by
        rw [show (10 : Int32) = Int32.ofNat 10 from rfl, o_sub (by omega)]; congr 1; omega
      have hx2 : (3 : Int32) + Int32.ofNat (10 + p) - 10 = Int32.ofNat (3 + p) := by
        rw [show (10 : Int32) = Int32.ofNat 10 from rfl, show (3 : Int32) = Int32.ofNat 3 from rfl, o_add, o_sub (by omega)]; congr 1; omega
      refine ⟨f_pu (e_it d F n) p, A4, C2, ?_, ?_, hQ, hQC⟩
      · simp only [show ¬ (((10 + p : Nat) : Int) = 0) by omega, show ¬ (((10 + p : Nat) : Int) = 1) by omega, show ¬ (((10 + p : Nat) : Int) = 2) by omega, not_false_eq_true, if_true, hx2, show a_in (Int32.ofNat (3 + p)) 947 = true by rw [o_in (by omega)]; simp; omega, o_cl (show 3 + p < 2147483648 by omega), m3.1.2.2.2.2 p (by omega), e_bd, e_bdn, e_st, e_li, e_bs, e_opn, e_ops, e_ob, e_vo, e_ia, e_eq, e_ne, e_lt, e_ge, e_gt, e_le, cond_true, cond_false, Bool.cond_decide]
      · simp only [show ¬ b_i true = 0 by decide, if_false, hx1, k_21, show a_in (Int32.ofNat (p)) 8 = true by rw [o_in (by omega)]; simp; omega, o_cl (show p < 2147483648 by omega), sc2.2.2.2.2 p (by omega), e_bd, e_bdn, e_st, e_li, e_bs, e_opn, e_ops, e_ob, e_vo, e_ia, e_eq, e_ne, e_lt, e_ge, e_gt, e_le, cond_true, cond_false, Bool.cond_decide]
    · rw [decide_eq_false c2]
      simp only [show b_i false = 0 from rfl, if_true]
      rcases hx with hx | hx
      · by_cases d0 : x2.toInt = 0
        · simp only [d0, not_true, if_false]
          refine ⟨e_la d F n, A4, C2, ?_, rfl, hQ, hQC⟩
          unfold e_la
          by_cases d1 : n = 0
          · rw [if_pos d1, if_neg (by rw [d1]; decide)]
          · rw [if_neg d1, m3.2.2.2.2 (by omega), if_pos (by rw [show (0 : Int32) = Int32.ofNat 0 from rfl, o_eq (by omega) (by omega)]; exact d1)]
        · by_cases d1 : x2.toInt = 1
          · simp only [d1, show ¬ ((1 : Int) = 0) by decide, not_true, not_false_eq_true, if_false, if_true]
            exact ⟨_, A4, C2, rfl, rfl, hQ, hQC⟩
          · simp only [show x2.toInt = 2 by omega, show ¬ ((2 : Int) = 0) by decide, show ¬ ((2 : Int) = 1) by decide, not_true, not_false_eq_true, if_false, if_true]
            exact ⟨_, A4, C2, rfl, rfl, hQ, hQC⟩
      · exact absurd hx c2
  · rw [decide_eq_false c1]
    refine ⟨-10002, A, C, by simp only [show b_i false = 0 from rfl, not_true, if_false], ?_, QM_rfl, fr_rfl⟩
    by_cases c2 : x1.toInt < 0
    · rw [if_pos c2]
    · rw [if_neg c2, if_neg (by omega)]
theorem q_run (hN : 200 ≤ N) (hd : d_ok d) (hf : f_ok d F) (hy : (f_dy F).toInt ≤ 99) (hM : MS A d F) (hC : CD C P vl R d) (hW : WF C F) (x1 x2 : Int32) : ∃ r A' C', g_155 N x1 x2 A = some (r, A') ∧ k_85 N P vl R x1 x2 C = some (r, C') ∧ QM A A' ∧ QC C C' := by
  have hn := hd.2.2.2.1
  have k0 : (0 : Int32).toInt = 0 := rfl
  have k2 : (2 : Int32).toInt = 2 := rfl
  have k10 : (10 : Int32).toInt = 10 := rfl
  have hs := z_sb (x := x2) (c := 10) (k := 10) (n := d_n d) k10 (by omega) (by omega)
  unfold g_155 k_85
  rw [k_is hn hC, show decide (0 ≤ (x2 - 10).toInt ∧ (x2 - 10).toInt < (d_n d : Int)) = decide (10 ≤ x2.toInt ∧ x2.toInt < 10 + (d_n d : Int)) from decide_eq_decide.mpr hs]
  simp only [m_in, m_pers hn hM.1.2.1, e_bd, e_bdn, e_st, e_li, e_bs, e_opn, e_ops, e_ob, e_vo, e_ia, e_eq, e_ne, e_lt, e_ge, e_gt, e_le, cond_true, cond_false, Bool.cond_decide, z_le, z_lt, k0, k2, k10]
  rw [show decide (0 ≤ (x2 - 10).toInt ∧ (x2 - 10).toInt < (d_n d : Int)) = decide (10 ≤ x2.toInt ∧ x2.toInt < 10 + (d_n d : Int)) from decide_eq_decide.mpr hs]
  by_cases c1 : (0 ≤ x2.toInt ∧ x2.toInt ≤ 2) ∨ (10 ≤ x2.toInt ∧ x2.toInt < 10 + d_n d)
  · obtain ⟨r, A', C', e1, e2, q1, q2⟩ := q_run16 hN hd hf hy hM hC hW x1 x2 c1
    refine ⟨r, A', C', ?_, ?_, q1, q2⟩
    · rcases c1 with c | c
      · rw [decide_eq_true c, if_pos (by decide)]; exact e1
      · rw [decide_eq_false (show ¬ (0 ≤ x2.toInt ∧ x2.toInt ≤ 2) by omega), if_neg (by decide), if_neg (by omega), decide_eq_true c, if_pos (by decide)]; exact e1
    · rcases c1 with c | c
      · rw [decide_eq_false (show ¬ (10 ≤ x2.toInt ∧ x2.toInt < 10 + (d_n d : Int)) by omega)] at e2 ⊢
        rw [if_neg (by decide), if_neg (by omega), if_pos (by omega)]; exact e2
      · rw [decide_eq_true c] at e2 ⊢
        rw [if_pos (by decide)]; exact e2
  · rw [decide_eq_false (show ¬ (0 ≤ x2.toInt ∧ x2.toInt ≤ 2) from fun h => c1 (.inl h)), decide_eq_false (show ¬ (10 ≤ x2.toInt ∧ x2.toInt < 10 + (d_n d : Int)) from fun h => c1 (.inr h))]
    refine ⟨-10001, A, C, ?_, ?_, QM_rfl, fr_rfl⟩
    · rw [if_neg (by decide)]
      split
      · rfl
      · rw [if_neg (by decide)]
    · rw [if_neg (by decide)]
      split
      · rfl
      · rw [if_neg (by omega)]
/-- what spills over in k days -/
def e_sp (d : dS) (F : fS) (nb : Nat) (bs : Nat → Int32) (x : Int32) : Nat → Int32
  | 0 => 0
  | k + 1 => e_sp d F nb bs x k + (if k < nb ∧ bs k = f_ah (e_it d F (k + 1)) then x * Int32.ofNat (d_n d) else 0)
theorem m_spl1 (hN : 200 ≤ N) (hd : d_ok d) {A0 : mS} {x2 : Int32} {n m nb : Nat} {bs : Nat → Int32} (hn : n ≤ 40) (hnb : nb ≤ 20) (hk : ∀ k, k ≤ n → f_ok d (e_it d F k)) (h14 : A0 0 14 = Int32.ofNat nb) (hbs : ∀ j, j < nb → A0 0 (200 + j) = bs j) : ∀ (r k : Nat) (A : mS), k + r = n → EM A0 A d F k → A 99 16 = e_ww d F k → ∃ A', g_162_21 N (r + 1 + m) (Int32.ofNat n) x2 (e_sp d F nb bs x2 k) (Int32.ofNat k) A = g_162_21b N (g_162_21 N m) (Int32.ofNat n) x2 (e_sp d F nb bs x2 n) (Int32.ofNat n) A' ∧ EM A0 A' d F n ∧ A' 99 16 = e_ww d F n := by
  intro r
  induction r with
  | zero =>
    intro k A hkr h h16
    obtain rfl : k = n := by omega
    refine ⟨A, ?_, h, h16⟩
    rw [show 0 + 1 + m = m + 1 by omega]
    rfl
  | succ r ih =>
    intro k A hkr h h16
    obtain ⟨A1, e1, m1, i14, i16, -, -⟩ := m_evn hN hd (hk k (by omega)) h
    obtain ⟨A2, e2, m2, j16⟩ := ih (k + 1) A1 (by omega) m1 (by rw [i16, h16]; rfl)
    refine ⟨A2, ?_, m2, j16⟩
    rw [← e2, show r + 1 + 1 + m = (r + 1 + m) + 1 by omega]
    show g_162_21b _ _ _ _ _ _ _ = _
    unfold g_162_21b
    have h14' : A1 0 14 = Int32.ofNat nb := (m1.2.2.2.1 14 (by omega)).trans h14
    have h11' : A1 0 11 = Int32.ofNat (d_n d) := m1.1.1.2.1
    simp only [e_bd, e_bdn, e_st, e_li, e_bs, e_opn, e_ops, e_ob, e_vo, e_ia, e_eq, e_ne, e_lt, e_ge, e_gt, e_le, cond_true, cond_false, Bool.cond_decide, show ¬ Int32.ofNat (n) ≤ Int32.ofNat (k) by rw [o_le (by omega) (by omega)]; omega, if_false, e1, show Int32.ofNat (k) + 1 = Int32.ofNat (k + 1) from o_add (q := 1), h14', h11', i14, o_le (show nb < 2147483648 by omega) (show k < 2147483648 by omega), show (200 : Int32) + Int32.ofNat k = Int32.ofNat (200 + k) from o_add (p := 200), show a_in (Int32.ofNat (200 + k)) 947 = true by rw [o_in (by omega)]; simp; omega, o_cl (show 200 + k < 2147483648 by omega), e_sp]
    by_cases c : nb ≤ k
    · rw [if_pos c, if_neg (by omega)]
    · rw [if_neg c, show A1 0 (200 + k) = bs k from (m1.2.2.2.1 (200 + k) (by omega)).trans (hbs k (by omega))]
      by_cases c2 : bs k = f_ah (e_it d F (k + 1))
      · rw [if_neg (by simp [c2]), if_pos ⟨by omega, c2⟩]
      · rw [if_pos c2, if_neg (fun h => c2 h.2)]
theorem k_spl1 (hN : 200 ≤ N) (hd : d_ok d) {C0 : mS} {x2 : Int32} {n m nb : Nat} {bs : Nat → Int32} (hn : n ≤ 40) (hnb : nb ≤ 20) (hk : ∀ k, k ≤ n → f_ok d (e_it d F k)) (h14 : C0 90 14 = Int32.ofNat nb) (hbs : ∀ j, j < nb → C0 4 j = bs j) : ∀ (r k : Nat) (C : mS), k + r = n → CS C P vl R d (e_it d F k) → fr [9, 10, 11, 12, 92] C0 C → ∃ C', k_91_17 N P vl R (r + 1 + m) (Int32.ofNat n) x2 (e_ww d F k + e_sp d F nb bs x2 k) (Int32.ofNat k) C = some (e_ww d F n + e_sp d F nb bs x2 n, C') ∧ fr [9, 10, 11, 12, 92] C0 C' := by
  intro r
  induction r with
  | zero =>
    intro k C hkr h hf0
    obtain rfl : k = n := by omega
    refine ⟨C, ?_, hf0⟩
    rw [show 0 + 1 + m = m + 1 by omega]
    show k_91_17b _ _ _ _ _ _ _ _ _ _ = _
    unfold k_91_17b
    simp only [e_bd, e_bdn, e_st, e_li, e_bs, e_opn, e_ops, e_ob, e_vo, e_ia, e_eq, e_ne, e_lt, e_ge, e_gt, e_le, cond_true, cond_false, Bool.cond_decide, z_le, Int.le_refl, if_true]
  | succ r ih =>
    intro k C hkr h hf0
    have hf := hk k (by omega)
    obtain ⟨C1, e1, f1, -, o1, s1⟩ := k_open hN hd hf h
    obtain ⟨C2, e2, f2⟩ := k_wnow (w := C1 92 9) hN hd s1
    have s2 := CS12 s1 f2
    have o2 := CO_fr o1 f2 (by decide) (by decide) (by decide)
    obtain ⟨C3, e3, f3, -, s3⟩ := k_clo hN hd hf s2 o2
    have g2 : fr [9, 10, 11, 12, 92] C0 C2 := fr_tr hf0 (fr_tr (fr_mono f1 (by simp)) (fr_mono f2 (by simp)))
    obtain ⟨C4, e4, f4⟩ := ih (k + 1) C3 (by omega) s3 (fr_tr g2 (fr_mono f3 (by simp)))
    refine ⟨C4, ?_, f4⟩
    rw [← e4, show r + 1 + 1 + m = (r + 1 + m) + 1 by omega]
    show k_91_17b _ _ _ _ _ _ _ _ _ _ = _
    unfold k_91_17b k_91_54
    have h14' : C2 90 14 = Int32.ofNat nb := by rw [fr_at g2 (by decide)]; exact h14
    have h12' : C2 90 12 = Int32.ofNat (d_n d) := s2.1.2.1
    simp only [e_bd, e_bdn, e_st, e_li, e_bs, e_opn, e_ops, e_ob, e_vo, e_ia, e_eq, e_ne, e_lt, e_ge, e_gt, e_le, cond_true, cond_false, Bool.cond_decide, show ¬ Int32.ofNat (n) ≤ Int32.ofNat (k) by rw [o_le (by omega) (by omega)]; omega, if_false, e1, e2, e3, show Int32.ofNat (k) + 1 = Int32.ofNat (k + 1) from o_add (q := 1), h14', h12', o_le (show nb < 2147483648 by omega) (show k < 2147483648 by omega), e_sp, e_ww]
    have hso : C1 92 9 = f_ah (e_it d F (k + 1)) := o1.2.2.1
    have hso2 : C2 92 9 = f_ah (e_it d F (k + 1)) := o2.2.2.1
    rw [hso, hso2]
    generalize w_all d (f_ah (e_it d F (k + 1))) (f_ah (e_it d F k)) (f_dy (e_it d F k)) (d_n d) = W
    have ea : ∀ z : Int32, e_ww d F k + e_sp d F nb bs x2 k + W + z = e_ww d F k + W + (e_sp d F nb bs x2 k + z) := by
      intro z
      simp only [Int32.add_assoc]
      congr 1
      rw [← Int32.add_assoc, ← Int32.add_assoc, Int32.add_comm (e_sp d F nb bs x2 k) W]
    by_cases c : nb ≤ k
    · rw [if_pos c, if_neg (show ¬ (k < nb ∧ _) by omega), ← ea, Int32.add_zero]
    · rw [if_neg c]
      simp only [show a_in (Int32.ofNat (k)) 20 = true by rw [o_in (by omega)]; simp; omega, o_cl (show k < 2147483648 by omega), e_bd, e_bdn, e_st, e_li, e_bs, e_opn, e_ops, e_ob, e_vo, e_ia, e_eq, e_ne, e_lt, e_ge, e_gt, e_le, cond_true, cond_false, Bool.cond_decide]
      rw [show C2 4 k = bs k by rw [fr_at g2 (by decide)]; exact hbs k (by omega)]
      by_cases c2 : bs k = f_ah (e_it d F (k + 1))
      · rw [if_neg (by simp [c2]), if_pos ⟨by omega, c2⟩, ← ea]
      · rw [if_pos c2, if_neg (fun h => c2 h.2), ← ea, Int32.add_zero]
theorem k_run {x : Int32} : k_104 N P vl R x C = some (b_i (decide (1 ≤ x.toInt ∧ x.toInt ≤ 40)), C) := by
  have k1 : (1 : Int32).toInt = 1 := rfl
  have k4 : (40 : Int32).toInt = 40 := rfl
  unfold k_104
  simp only [e_bd, e_bdn, e_st, e_li, e_bs, e_opn, e_ops, e_ob, e_vo, e_ia, e_eq, e_ne, e_lt, e_ge, e_gt, e_le, cond_true, cond_false, Bool.cond_decide, z_lt, z_le, k1, k4]
  by_cases c1 : x.toInt < 1
  · rw [if_pos c1, decide_eq_false (by omega)]; rfl
  · rw [if_neg c1]
    by_cases c2 : (40 : Int) < x.toInt
    · rw [if_pos c2, decide_eq_false (by omega)]; rfl
    · rw [if_neg c2, decide_eq_true (by omega)]; rfl
theorem q_spill (hN : 200 ≤ N) (hd : d_ok d) (hf : f_ok d F) (hy : (f_dy F).toInt ≤ 99) (hM : MS A d F) (hC : CD C P vl R d) (hW : WF C F) {nb : Nat} (hnb : nb ≤ 20) (hb1 : A 0 14 = Int32.ofNat nb) (hb2 : C 90 14 = Int32.ofNat nb) (hbs : ∀ j, j < nb → A 0 (200 + j) = C 4 j) (x1 x2 : Int32) : ∃ r A' C', g_162 N x1 x2 A = some (r, A') ∧ k_91 N P vl R x1 x2 C = some (r, C') ∧ QM A A' ∧ QC C C' := by
  have k0 : (0 : Int32).toInt = 0 := rfl
  have k1 : (1 : Int32).toInt = 1 := rfl
  have k40 : (40 : Int32).toInt = 40 := rfl
  have k99 : (99 : Int32).toInt = 99 := rfl
  unfold g_162 k_91
  simp only [m_in, k_run, e_bd, e_bdn, e_st, e_li, e_bs, e_opn, e_ops, e_ob, e_vo, e_ia, e_eq, e_ne, e_lt, e_ge, e_gt, e_le, cond_true, cond_false, Bool.cond_decide, z_le, z_lt, k0, k1, k40, k99]
  by_cases c1 : 1 ≤ x1.toInt ∧ x1.toInt ≤ 40
  · rw [decide_eq_true c1]
    simp only [show ¬ b_i true = 0 by decide, if_false]
    by_cases c2 : 0 ≤ x2.toInt ∧ x2.toInt ≤ 99
    · rw [decide_eq_true c2, if_neg (show ¬ x2.toInt < 0 by omega), if_pos (show x2.toInt ≤ 99 by omega)]
      obtain ⟨n, hn, rfl⟩ := o_ex (x := x1) (n := 41) (by omega) (by omega)
      have hk := days_ok hd hf hy (show n ≤ 40 by omega)
      obtain ⟨A1, e1, f1, h1⟩ := m_keep (A := A) hN
      generalize hA2 : va_up A1 99 (upd (A1 99) 16 0) = A2
      have f2 : fr [2, 99] A A2 := by rw [← hA2]; exact fr_up (fr_mono f1 (by simp)) (by simp)
      have p2 : f9 [16] A A2 := by rw [← hA2]; exact f9_up (f9_fr f1 (by decide)) (by simp)
      have M2 : MS A2 d F := MS_fr hM f2 (by decide)
      have a20 : A2 0 = A 0 := fr_at f2 (by decide)
      obtain ⟨A3, e3, m3, i16⟩ := m_spl1 (N := N) (A0 := A2) (F := F) (x2 := x2) (bs := C 4) (m := N - (n + 1)) hN hd (show n ≤ 40 by omega) hnb hk (by rw [a20]; exact hb1) (by rw [a20]; exact hbs) n 0 A2 (by omega) (EM_0 M2 fr_rfl (fun _ _ => rfl)) (by rw [← hA2, va_up_self, upd_self]; rfl)
      rw [show n + 1 + (N - (n + 1)) = N by omega] at e3
      obtain ⟨A4, e4, q4, h99, -⟩ := m_bck hN m3 (fun j hj => by rw [← hA2, va_up_ne _ _ (by decide), va_up_ne _ _ (by decide), h1 j hj, fr_at f1 (by decide)])
      obtain ⟨C1, ec1, sc1, fc1⟩ := k_beg (N := N) hC hW
      obtain ⟨C2, ec2, fc2⟩ := k_spl1 (N := N) (C0 := C1) (F := F) (x2 := x2) (bs := C 4) (m := N - (n + 1)) hN hd (show n ≤ 40 by omega) hnb hk (by rw [fr_at fc1 (by decide)]; exact hb2) (fun j _ => by rw [fr_at fc1 (by decide)]) n 0 C1 (by omega) sc1 fr_rfl
      rw [show n + 1 + (N - (n + 1)) = N by omega] at ec2
      have e3' : g_162_21 N N (Int32.ofNat n) x2 0 0 A2 = _ := e3
      have ec2' : k_91_17 N P vl R N (Int32.ofNat n) x2 0 0 C1 = _ := ec2
      refine ⟨e_ww d F n + e_sp d F nb (C 4) x2 n, A4, C2, ?_, ?_, QM_tr (QM_f9 f2 (by decide) (by decide) (by decide) p2 (by decide) (by decide)) q4, fr_mono (fr_tr (fr_mono fc1 (T := [9, 10, 11, 12, 92]) (by simp)) fc2) (by simp)⟩
      · simp only [show ¬ b_i true = 0 by decide, not_false_eq_true, if_true, e1, hA2, e_bd, e_bdn, e_st, e_li, e_bs, e_opn, e_ops, e_ob, e_vo, e_ia, e_eq, e_ne, e_lt, e_ge, e_gt, e_le, cond_true, cond_false, Bool.cond_decide]
        rw [e3']
        unfold g_162_21b
        simp only [e_bd, e_bdn, e_st, e_li, e_bs, e_opn, e_ops, e_ob, e_vo, e_ia, e_eq, e_ne, e_lt, e_ge, e_gt, e_le, cond_true, cond_false, Bool.cond_decide, z_le, Int.le_refl, if_true, e4, h99, i16]
      · simp only [ec1, e_bd, e_bdn, e_st, e_li, e_bs, e_opn, e_ops, e_ob, e_vo, e_ia, e_eq, e_ne, e_lt, e_ge, e_gt, e_le, cond_true, cond_false, Bool.cond_decide]
        exact ec2'
    · rw [decide_eq_false c2]
      refine ⟨-10002, A, C, by simp only [show b_i false = 0 from rfl, not_true, if_false], ?_, QM_rfl, fr_rfl⟩
      split
      · rfl
      · rw [if_neg (by omega)]
  · rw [decide_eq_false c1]
    exact ⟨-10002, A, C, by simp only [show b_i false = 0 from rfl, if_true], by simp only [show b_i false = 0 from rfl, if_true], QM_rfl, fr_rfl⟩
theorem q_lk1 (hN : 200 ≤ N) (hd : d_ok d) {A0 C0 : mS} {nk m m' : Nat} {bs : Nat → Int32} (hn : nk ≤ 12) (hk : ∀ k, k ≤ nk → f_ok d (e_it d F k)) (h2 : ∀ j, j < 11 → A0 2 j = A0 0 j) (h15 : A0 0 15 = Int32.ofNat nk) (hbs : ∀ j, j < nk → A0 0 (220 + j) = bs j) (h16 : C0 90 16 = Int32.ofNat nk) (hcs : ∀ j, j < nk → C0 5 j = bs j) : ∀ (r k : Nat) (A C : mS), k + r = nk → EM A0 A d F k → CS C P vl R d (e_it d F k) → fr [9, 10, 11, 12, 92] C0 C → ∃ v A' C', g_166_6 N (r + 2 + m) (-5) (Int32.ofNat k) A = some (v, A') ∧ k_95_5 N P vl R (r + 1 + m') (Int32.ofNat k) C = some (v, C') ∧ QM A0 A' ∧ fr [9, 10, 11, 12, 92] C0 C' := by
  intro r
  induction r with
  | zero =>
    intro k A C hkr h s hf0
    obtain rfl : k = nk := by omega
    obtain ⟨A4, e4, q4, -, -⟩ := m_bck hN h h2
    refine ⟨-5, A4, C, ?_, ?_, q4, hf0⟩
    · rw [show 0 + 2 + m = (m + 1) + 1 by omega]
      show g_166_6b _ _ _ _ _ = _
      unfold g_166_6b g_166_32
      simp only [e_bd, e_bdn, e_st, e_li, e_bs, e_opn, e_ops, e_ob, e_vo, e_ia, e_eq, e_ne, e_lt, e_ge, e_gt, e_le, cond_true, cond_false, Bool.cond_decide, (h.2.2.2.1 15 (by omega)).trans h15, z_le, Int.le_refl, if_true, e4]
    · rw [show 0 + 1 + m' = m' + 1 by omega]
      show k_95_5b _ _ _ _ _ _ _ = _
      unfold k_95_5b
      simp only [e_bd, e_bdn, e_st, e_li, e_bs, e_opn, e_ops, e_ob, e_vo, e_ia, e_eq, e_ne, e_lt, e_ge, e_gt, e_le, cond_true, cond_false, Bool.cond_decide, show C 90 16 = Int32.ofNat k by rw [fr_at hf0 (by decide)]; exact h16, z_le, Int.le_refl, if_true]
  | succ r ih =>
    intro k A C hkr h s hf0
    have hf := hk k (by omega)
    obtain ⟨A1, e1, m1, i14, -, -, -⟩ := m_evn hN hd hf h
    obtain ⟨C1, ec1, f1, -, o1, s1⟩ := k_open hN hd hf s
    have g1 : fr [9, 10, 11, 12, 92] C0 C1 := fr_tr hf0 (fr_mono f1 (by simp))
    have hb1 : A1 0 (220 + k) = bs k := (m1.2.2.2.1 (220 + k) (by omega)).trans (hbs k (by omega))
    have hb2 : C1 5 k = bs k := by rw [fr_at g1 (by decide)]; exact hcs k (by omega)
    have hso : C1 92 9 = f_ah (e_it d F (k + 1)) := o1.2.2.1
    have h15' : A 0 15 = Int32.ofNat nk := (h.2.2.2.1 15 (by omega)).trans h15
    have h16' : C 90 16 = Int32.ofNat nk := by rw [fr_at hf0 (by decide)]; exact h16
    by_cases c : f_ah (e_it d F (k + 1)) = bs k
    · obtain ⟨C3, e3, f3, -, s3⟩ := k_clo hN hd hf s1 o1
      obtain ⟨v, A4, C4, e4, ec4, q4, f4⟩ := ih (k + 1) A1 C3 (by omega) m1 s3 (fr_tr g1 (fr_mono f3 (by simp)))
      refine ⟨v, A4, C4, ?_, ?_, q4, f4⟩
      · rw [← e4, show r + 1 + 2 + m = (r + 2 + m) + 1 by omega]
        show g_166_6b _ _ _ _ _ = _
        unfold g_166_6b
        simp only [e_bd, e_bdn, e_st, e_li, e_bs, e_opn, e_ops, e_ob, e_vo, e_ia, e_eq, e_ne, e_lt, e_ge, e_gt, e_le, cond_true, cond_false, Bool.cond_decide, h15', show ¬ Int32.ofNat (nk) ≤ Int32.ofNat (k) by rw [o_le (by omega) (by omega)]; omega, if_false, not_true, e1, show (220 : Int32) + Int32.ofNat k = Int32.ofNat (220 + k) from o_add (p := 220), show a_in (Int32.ofNat (220 + k)) 947 = true by rw [o_in (by omega)]; simp; omega, o_cl (show 220 + k < 2147483648 by omega), hb1, i14, c, if_true, show Int32.ofNat (k) + 1 = Int32.ofNat (k + 1) from o_add (q := 1)]
      · rw [← ec4, show r + 1 + 1 + m' = (r + 1 + m') + 1 by omega]
        show k_95_5b _ _ _ _ _ _ _ = _
        unfold k_95_5b
        simp only [e_bd, e_bdn, e_st, e_li, e_bs, e_opn, e_ops, e_ob, e_vo, e_ia, e_eq, e_ne, e_lt, e_ge, e_gt, e_le, cond_true, cond_false, Bool.cond_decide, h16', show ¬ Int32.ofNat (nk) ≤ Int32.ofNat (k) by rw [o_le (by omega) (by omega)]; omega, if_false, ec1, show a_in (Int32.ofNat (k)) 12 = true by rw [o_in (by omega)]; simp; omega, o_cl (show k < 2147483648 by omega), hb2, hso, c, if_true, e3, show Int32.ofNat (k) + 1 = Int32.ofNat (k + 1) from o_add (q := 1)]
    · obtain ⟨A4, e4, q4, -, -⟩ := m_bck hN m1 h2
      refine ⟨Int32.ofNat k, A4, C1, ?_, ?_, q4, g1⟩
      · rw [show r + 1 + 2 + m = ((r + 1 + m) + 1) + 1 by omega]
        show g_166_6b _ _ _ _ _ = _
        unfold g_166_6b
        simp only [e_bd, e_bdn, e_st, e_li, e_bs, e_opn, e_ops, e_ob, e_vo, e_ia, e_eq, e_ne, e_lt, e_ge, e_gt, e_le, cond_true, cond_false, Bool.cond_decide, h15', show ¬ Int32.ofNat (nk) ≤ Int32.ofNat (k) by rw [o_le (by omega) (by omega)]; omega, if_false, not_true, e1, show (220 : Int32) + Int32.ofNat k = Int32.ofNat (220 + k) from o_add (p := 220), show a_in (Int32.ofNat (220 + k)) 947 = true by rw [o_in (by omega)]; simp; omega, o_cl (show 220 + k < 2147483648 by omega), hb1, i14, c, show Int32.ofNat (k) + 1 = Int32.ofNat (k + 1) from o_add (q := 1)]
        show g_166_6b _ _ _ _ _ = _
        unfold g_166_6b g_166_32
        have h5 : ¬ Int32.ofNat k = -5 := by
          rw [z_eq, z_ofNat (by omega), show (-5 : Int32).toInt = -5 from rfl]; omega
        simp only [e_bd, e_bdn, e_st, e_li, e_bs, e_opn, e_ops, e_ob, e_vo, e_ia, e_eq, e_ne, e_lt, e_ge, e_gt, e_le, cond_true, cond_false, Bool.cond_decide, e4, h5, not_false_eq_true, if_true]
        split <;> rfl
      · rw [show r + 1 + 1 + m' = (r + 1 + m') + 1 by omega]
        show k_95_5b _ _ _ _ _ _ _ = _
        unfold k_95_5b
        simp only [e_bd, e_bdn, e_st, e_li, e_bs, e_opn, e_ops, e_ob, e_vo, e_ia, e_eq, e_ne, e_lt, e_ge, e_gt, e_le, cond_true, cond_false, Bool.cond_decide, h16', show ¬ Int32.ofNat (nk) ≤ Int32.ofNat (k) by rw [o_le (by omega) (by omega)]; omega, if_false, ec1, show a_in (Int32.ofNat (k)) 12 = true by rw [o_in (by omega)]; simp; omega, o_cl (show k < 2147483648 by omega), hb2, hso, c]
theorem q_look (hN : 200 ≤ N) (hd : d_ok d) (hf : f_ok d F) (hy : (f_dy F).toInt ≤ 99) (hM : MS A d F) (hC : CD C P vl R d) (hW : WF C F) {nk : Nat} (hnk : nk ≤ 12) (hb1 : A 0 15 = Int32.ofNat nk) (hb2 : C 90 16 = Int32.ofNat nk) (hbs : ∀ j, j < nk → A 0 (220 + j) = C 5 j) : ∃ r A' C', g_166 N A = some (r, A') ∧ k_95 N P vl R C = some (r, C') ∧ QM A A' ∧ QC C C' := by
  obtain ⟨A1, e1, f1, h1⟩ := m_keep (A := A) hN
  have M1 : MS A1 d F := MS_fr hM f1 (by decide)
  have a10 : A1 0 = A 0 := fr_at f1 (by decide)
  obtain ⟨C1, ec1, sc1, fc1⟩ := k_beg (N := N) hC hW
  obtain ⟨v, A2, C2, e2, ec2, q2, fc2⟩ := q_lk1 (N := N) (A0 := A1) (C0 := C1) (F := F) (P := P) (vl := vl) (R := R) (bs := C 5) (m := N - (nk + 2)) (m' := N - (nk + 1)) hN hd hnk (days_ok hd hf hy (by omega)) (fun j hj => by rw [h1 j hj, a10]) (by rw [a10]; exact hb1) (by rw [a10]; exact hbs) (by rw [fr_at fc1 (by decide)]; exact hb2) (fun j _ => by rw [fr_at fc1 (by decide)]) nk 0 A1 C1 (by omega) (EM_0 M1 fr_rfl (fun _ _ => rfl)) sc1 fr_rfl
  rw [show nk + 2 + (N - (nk + 2)) = N by omega] at e2
  rw [show nk + 1 + (N - (nk + 1)) = N by omega] at ec2
  refine ⟨v, A2, C2, ?_, ?_, QM_tr (QM_fr f1 (by decide) (by decide) (by decide) (by decide)) q2, fr_mono (fr_tr (fr_mono fc1 (T := [9, 10, 11, 12, 92]) (by simp)) fc2) (by simp)⟩
  · unfold g_166
    simp only [e1, e_bd, e_bdn, e_st, e_li, e_bs, e_opn, e_ops, e_ob, e_vo, e_ia, e_eq, e_ne, e_lt, e_ge, e_gt, e_le, cond_true, cond_false, Bool.cond_decide]
    exact e2
  · unfold k_95
    simp only [ec1, e_bd, e_bdn, e_st, e_li, e_bs, e_opn, e_ops, e_ob, e_vo, e_ia, e_eq, e_ne, e_lt, e_ge, e_gt, e_le, cond_true, cond_false, Bool.cond_decide]
    exact ec2
end Q2
