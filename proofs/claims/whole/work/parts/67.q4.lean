/-! 67.q4: poor -/
def i_mn (x y : Int32) : Int32 := if y < x then y else x
def p_mx (T : Nat → Int32) : Nat → Int32
  | 0 => T 0
  | k + 1 => i_mx (p_mx T k) (T (k + 1))
def p_mn (T : Nat → Int32) : Nat → Int32
  | 0 => T 0
  | k + 1 => i_mn (p_mn T k) (T (k + 1))
theorem p_mx_c {T T' : Nat → Int32} : ∀ k, (∀ q, q ≤ k → T q = T' q) → p_mx T k = p_mx T' k := by
  intro k
  induction k with
  | zero => intro h; exact h 0 (Nat.le_refl _)
  | succ k ih => intro h; simp only [p_mx]; rw [ih (fun q hq => h q (by omega)), h (k + 1) (Nat.le_refl _)]
theorem p_mn_c {T T' : Nat → Int32} : ∀ k, (∀ q, q ≤ k → T q = T' q) → p_mn T k = p_mn T' k := by
  intro k
  induction k with
  | zero => intro h; exact h 0 (Nat.le_refl _)
  | succ k ih => intro h; simp only [p_mn]; rw [ih (fun q hq => h q (by omega)), h (k + 1) (Nat.le_refl _)]
theorem i_mn_le {x y : Int32} : (if x ≤ y then x else y) = i_mn x y := by
  unfold i_mn
  by_cases c : y < x
  · rw [if_pos c, if_neg (by rw [z_lt] at c; rw [z_le]; omega)]
  · rw [if_neg c, if_pos (by rw [z_lt] at c; rw [z_le]; omega)]
theorem i_m0 (M : Int32) : M &&& ((0 : Int32) ^^^ -1) = M := by
  rw [show (0 : Int32) ^^^ -1 = -1 by decide, Int32.and_neg_one]
section Q4
variable {N : Nat} {d : dS} {F : fS} {A C : mS} {P : Nat → Option Nat} {vl : Option Nat} {R : List aC}
theorem m_po3 {n : Nat} (hn : n ≤ 8) (h11 : A 0 11 = Int32.ofNat n) {x2 x3 : Int32} {m : Nat} : ∀ (r k : Nat), k + r = n - 1 → g_163_99 N (r + 1 + m) x2 x3 (p_mx (A 8) k) (p_mn (A 8) k) (Int32.ofNat (k + 1)) A = some ((if x2 = 0 then (((1 : Int32) <<< (Int32.ofNat n &&& 31)) - 1) &&& (x3 ^^^ -1) else p_mx (A 8) (n - 1) - p_mn (A 8) (n - 1)), A) := by
  intro r
  induction r with
  | zero =>
    intro k hk
    obtain rfl : k = n - 1 := by omega
    rw [show 0 + 1 + m = m + 1 by omega]
    show g_163_99b _ _ _ _ _ _ _ _ = _
    unfold g_163_99b
    simp only [e_bd, e_bdn, e_st, e_li, e_bs, e_opn, e_ops, e_ob, e_vo, e_ia, e_eq, e_ne, e_lt, e_ge, e_gt, e_le, cond_true, cond_false, Bool.cond_decide, h11, show Int32.ofNat (n) ≤ Int32.ofNat (n - 1 + 1) by rw [o_le (by omega) (by omega)]; omega, if_true]
    by_cases c : x2 = 0
    · simp only [c, not_true, if_false, if_true]
    · simp only [c, not_false_eq_true, if_false, if_true]
  | succ r ih =>
    intro k hk
    rw [← ih (k + 1) (by omega), show r + 1 + 1 + m = (r + 1 + m) + 1 by omega]
    show g_163_99b _ _ _ _ _ _ _ _ = _
    unfold g_163_99b g_163_117
    simp only [e_bd, e_bdn, e_st, e_li, e_bs, e_opn, e_ops, e_ob, e_vo, e_ia, e_eq, e_ne, e_lt, e_ge, e_gt, e_le, cond_true, cond_false, Bool.cond_decide, h11, show ¬ Int32.ofNat (n) ≤ Int32.ofNat (k + 1) by rw [o_le (by omega) (by omega)]; omega, if_false, show a_in (Int32.ofNat (k + 1)) 8 = true by rw [o_in (by omega)]; simp; omega, o_cl (show k + 1 < 2147483648 by omega), show Int32.ofNat (k + 1) + 1 = Int32.ofNat (k + 1 + 1) from o_add (q := 1), p_mx, p_mn]
    rw [← i_mx_le, ← i_mn_le]
    split <;> split <;> rfl
theorem k_po3 {n : Nat} (hn : n ≤ 8) (h12 : C 90 12 = Int32.ofNat n) {m : Nat} : ∀ (r k : Nat), k + r = n - 1 → k_110_12 N P vl R (r + 1 + m) (p_mn (C 14) k) (p_mx (C 14) k) (Int32.ofNat (k + 1)) C = some (p_mx (C 14) (n - 1) - p_mn (C 14) (n - 1), C) := by
  intro r
  induction r with
  | zero =>
    intro k hk
    obtain rfl : k = n - 1 := by omega
    rw [show 0 + 1 + m = m + 1 by omega]
    show k_110_12b _ _ _ _ _ _ _ _ _ = _
    unfold k_110_12b
    simp only [e_bd, e_bdn, e_st, e_li, e_bs, e_opn, e_ops, e_ob, e_vo, e_ia, e_eq, e_ne, e_lt, e_ge, e_gt, e_le, cond_true, cond_false, Bool.cond_decide, h12, show Int32.ofNat (n) ≤ Int32.ofNat (n - 1 + 1) by rw [o_le (by omega) (by omega)]; omega, if_true]
    by_cases c : n = 0
    · subst c
      rw [if_neg (by decide)]
      show _ = some (p_mx (C 14) 0 - p_mn (C 14) 0, C)
      rw [show p_mx (C 14) 0 - p_mn (C 14) 0 = 0 from Int32.sub_self _]
    · rw [if_pos (by rw [show (0 : Int32) = Int32.ofNat 0 from rfl, o_eq (by omega) (by omega)]; exact c)]
  | succ r ih =>
    intro k hk
    rw [← ih (k + 1) (by omega), show r + 1 + 1 + m = (r + 1 + m) + 1 by omega]
    show k_110_12b _ _ _ _ _ _ _ _ _ = _
    unfold k_110_12b
    simp only [e_bd, e_bdn, e_st, e_li, e_bs, e_opn, e_ops, e_ob, e_vo, e_ia, e_eq, e_ne, e_lt, e_ge, e_gt, e_le, cond_true, cond_false, Bool.cond_decide, h12, show ¬ Int32.ofNat (n) ≤ Int32.ofNat (k + 1) by rw [o_le (by omega) (by omega)]; omega, if_false, show a_in (Int32.ofNat (k + 1)) 8 = true by rw [o_in (by omega)]; simp; omega, o_cl (show k + 1 < 2147483648 by omega), show Int32.ofNat (k + 1) + 1 = Int32.ofNat (k + 1 + 1) from o_add (q := 1), p_mx, p_mn]
    rfl
theorem m_po0 {x1 x2 : Int32} {A0 : mS} {m : Nat} : ∀ (r k : Nat) (A : mS), k + r = 8 → fr [8] A0 A → (∀ q, q < k → A 8 q = 0) → ∃ A', g_163_16 N (r + 1 + m) x1 x2 (Int32.ofNat k) A = g_163_16b N (g_163_16 N m) x1 x2 8 A' ∧ fr [8] A0 A' ∧ (∀ q, q < 8 → A' 8 q = 0) := by
  intro r
  induction r with
  | zero =>
    intro k A hk hf h8
    obtain rfl : k = 8 := by omega
    refine ⟨A, ?_, hf, h8⟩
    rw [show 0 + 1 + m = m + 1 by omega]
    rfl
  | succ r ih =>
    intro k A hk hf h8
    obtain ⟨A1, e1, f1, h1⟩ := ih (k + 1) (va_up A 8 (upd (A 8) k 0)) (by omega) (fr_up hf (by simp)) (fun q hq => by
      rw [va_up_self]
      by_cases c : q = k
      · subst c; rw [upd_self]
      · rw [upd_ne _ _ c]; exact h8 q (by omega))
    refine ⟨A1, ?_, f1, h1⟩
    rw [show r + 1 + 1 + m = (r + 1 + m) + 1 by omega]
    refine Eq.trans ?_ e1
    show g_163_16b _ _ _ _ _ _ = _
    unfold g_163_16b
    simp only [e_bd, e_bdn, e_st, e_li, e_bs, e_opn, e_ops, e_ob, e_vo, e_ia, e_eq, e_ne, e_lt, e_ge, e_gt, e_le, cond_true, cond_false, Bool.cond_decide, show ¬ (8 : Int32) ≤ Int32.ofNat (k) by rw [show (8 : Int32) = Int32.ofNat 8 from rfl, o_le (by omega) (by omega)]; omega, if_false, show a_in (Int32.ofNat (k)) 8 = true by rw [o_in (by omega)]; simp; omega, o_cl (show k < 2147483648 by omega), show Int32.ofNat (k) + 1 = Int32.ofNat (k + 1) from o_add (q := 1)]
theorem k_po0 {x1 x2 : Int32} {C0 : mS} {n m : Nat} (hn : n ≤ 8) : ∀ (r k : Nat) (C : mS), k + r = n → fr [14] C0 C → C0 90 12 = Int32.ofNat n → (∀ q, q < k → C 14 q = 0) → ∃ C', k_92_14 N P vl R (r + 1 + m) x1 x2 (Int32.ofNat k) C = k_92_14b N P vl R (k_92_14 N P vl R m) x1 x2 (Int32.ofNat n) C' ∧ fr [14] C0 C' ∧ (∀ q, q < n → C' 14 q = 0) := by
  intro r
  induction r with
  | zero =>
    intro k C hk hf _ h8
    obtain rfl : k = n := by omega
    refine ⟨C, ?_, hf, h8⟩
    rw [show 0 + 1 + m = m + 1 by omega]
    rfl
  | succ r ih =>
    intro k C hk hf h12 h8
    obtain ⟨C1, e1, f1, h1⟩ := ih (k + 1) (va_up C 14 (upd (C 14) k 0)) (by omega) (fr_up hf (by simp)) h12 (fun q hq => by
      rw [va_up_self]
      by_cases c : q = k
      · subst c; rw [upd_self]
      · rw [upd_ne _ _ c]; exact h8 q (by omega))
    refine ⟨C1, ?_, f1, h1⟩
    rw [show r + 1 + 1 + m = (r + 1 + m) + 1 by omega]
    refine Eq.trans ?_ e1
    show k_92_14b _ _ _ _ _ _ _ _ _ = _
    unfold k_92_14b
    simp only [e_bd, e_bdn, e_st, e_li, e_bs, e_opn, e_ops, e_ob, e_vo, e_ia, e_eq, e_ne, e_lt, e_ge, e_gt, e_le, cond_true, cond_false, Bool.cond_decide, show C 90 12 = Int32.ofNat n by rw [fr_at hf (by decide)]; exact h12, show ¬ Int32.ofNat (n) ≤ Int32.ofNat (k) by rw [o_le (by omega) (by omega)]; omega, if_false, show a_in (Int32.ofNat (k)) 8 = true by rw [o_in (by omega)]; simp; omega, o_cl (show k < 2147483648 by omega), show Int32.ofNat (k) + 1 = Int32.ofNat (k + 1) from o_add (q := 1)]
theorem q_poor (hN : 200 ≤ N) (hd : d_ok d) (hf : f_ok d F) (hy : (f_dy F).toInt ≤ 99) (hM : MS A d F) (hC : CD C P vl R d) (hW : WF C F) (x1 x2 : Int32) : ∃ r A' C', g_163 N x1 x2 A = some (r, A') ∧ k_92 N P vl R x1 x2 C = some (r, C') ∧ QM A A' ∧ QC C C' := by
  have hn8 := hd.2.2.2.1
  have k0 : (0 : Int32).toInt = 0 := rfl
  have k1 : (1 : Int32).toInt = 1 := rfl
  have k40 : (40 : Int32).toInt = 40 := rfl
  unfold g_163 k_92
  simp only [m_in, k_run, e_bd, e_bdn, e_st, e_li, e_bs, e_opn, e_ops, e_ob, e_vo, e_ia, e_eq, e_ne, e_lt, e_ge, e_gt, e_le, cond_true, cond_false, Bool.cond_decide, z_le, z_lt, k0, k1, k40]
  by_cases c2 : 0 ≤ x2.toInt ∧ x2.toInt ≤ 1
  · rw [decide_eq_true c2, if_neg (show ¬ x2.toInt < 0 by omega), if_pos (show x2.toInt ≤ 1 by omega), if_pos (show ¬ b_i true = 0 by decide)]
    by_cases c1 : 1 ≤ x1.toInt ∧ x1.toInt ≤ 40
    · rw [decide_eq_true c1, if_pos (show ¬ b_i true = 0 by decide), if_pos (show ¬ b_i true = 0 by decide)]
      obtain ⟨n, hn, rfl⟩ := o_ex (x := x1) (n := 41) (by omega) (by omega)
      have hk := days_ok hd hf hy (show n ≤ 40 by omega)
      obtain ⟨A0, e0, f0, h0⟩ := m_po0 (N := N) (x1 := Int32.ofNat n) (x2 := x2) (A0 := A) (m := N - 9) 8 0 A (by omega) fr_rfl (fun q hq => by omega)
      rw [show 8 + 1 + (N - 9) = N by omega] at e0
      have M0 : MS A0 d F := MS_fr hM f0 (by decide)
      obtain ⟨A1, e1, f1, h1⟩ := m_keep (A := A0) hN
      have M1 : MS A1 d F := MS_fr M0 f1 (by decide)
      obtain ⟨A3, e3, m3, h3⟩ := m_po2 (N := N) (A0 := A1) (F := F) (x2 := x2) (m := N - (n + 1)) hN hd (show n ≤ 40 by omega) hk n 0 A1 (by omega) (EM_0 M1 fr_rfl (fun _ _ => rfl)) (fun q hq => by rw [fr_at f1 (by decide), h0 q (by omega)]; rfl)
      rw [show n + 1 + (N - (n + 1)) = N by omega] at e3
      obtain ⟨A4, e4, q4, -, h48⟩ := m_bck hN m3 (fun j hj => by rw [h1 j hj, fr_at f1 (by decide)])
      have h411 : A4 0 11 = Int32.ofNat (d_n d) := by rw [q4.1]; exact M1.1.2.1
      have e5 := m_po3 (N := N) (A := A4) (x2 := x2) (x3 := p_ri d F n) (m := N - (d_n d - 1 + 1)) hn8 h411 (d_n d - 1) 0 (by omega)
      rw [show d_n d - 1 + 1 + (N - (d_n d - 1 + 1)) = N by omega] at e5
      obtain ⟨C0, ec0, fc0, hc0⟩ := k_po0 (N := N) (P := P) (vl := vl) (R := R) (x1 := Int32.ofNat n) (x2 := x2) (C0 := C) (m := N - (d_n d + 1)) hn8 (d_n d) 0 C (by omega) fr_rfl hC.2.1 (fun q hq => by omega)
      rw [show d_n d + 1 + (N - (d_n d + 1)) = N by omega] at ec0
      have hC0 : CD C0 P vl R d := CD_fr hC fc0 (by decide) (by decide) (by decide)
      have hW0 : WF C0 F := by unfold WF; rw [fr_at fc0 (by decide), fr_at fc0 (by decide)]; exact hW
      obtain ⟨C1, ec1, sc1, fc1⟩ := k_beg (N := N) hC0 hW0
      obtain ⟨C2, ec2, sc2, fc2, hc2⟩ := k_po2 (N := N) (C0 := C1) (F := F) (x2 := x2) (M := ((1 : Int32) <<< (Int32.ofNat (d_n d) &&& 31)) - 1) (m := N - (n + 1)) hN hd (show n ≤ 40 by omega) hk n 0 C1 (by omega) sc1 fr_rfl (fun q hq => by rw [fr_at fc1 (by decide), hc0 q hq]; rfl)
      rw [show n + 1 + (N - (n + 1)) = N by omega] at ec2
      have ec3 := k_po3 (N := N) (P := P) (vl := vl) (R := R) (m := N - (d_n d - 1 + 1)) hn8 sc2.1.2.1 (d_n d - 1) 0 (by omega)
      rw [show d_n d - 1 + 1 + (N - (d_n d - 1 + 1)) = N by omega] at ec3
      have e0' : g_163_16 N N (Int32.ofNat n) x2 0 A = _ := e0
      have e3' : g_163_32 N N (Int32.ofNat n) x2 0 0 A1 = _ := e3
      have e5' : g_163_99 N N x2 (p_ri d F n) (A4 8 0) (A4 8 0) 1 A4 = _ := e5
      have ec0' : k_92_14 N P vl R N (Int32.ofNat n) x2 0 C = _ := ec0
      have ec2' : k_92_39 N P vl R N (Int32.ofNat n) x2 ((((1 : Int32) <<< (Int32.ofNat (d_n d) &&& 31)) - 1) &&& ((0 : Int32) ^^^ -1)) 0 C1 = _ := ec2
      rw [i_m0] at ec2'
      have ec3' : k_110_12 N P vl R N (C2 14 0) (C2 14 0) 1 C2 = _ := ec3
      have hT : p_mx (A4 8) (d_n d - 1) - p_mn (A4 8) (d_n d - 1) = p_mx (C2 14) (d_n d - 1) - p_mn (C2 14) (d_n d - 1) := by
        by_cases c : d_n d = 0
        · rw [c]
          show p_mx (A4 8) 0 - p_mn (A4 8) 0 = p_mx (C2 14) 0 - p_mn (C2 14) 0
          rw [show p_mx (A4 8) 0 - p_mn (A4 8) 0 = 0 from Int32.sub_self _, show p_mx (C2 14) 0 - p_mn (C2 14) 0 = 0 from Int32.sub_self _]
        · have hq : ∀ q, q ≤ d_n d - 1 → A4 8 q = C2 14 q := fun q hq => by rw [h48, h3 q (by omega), hc2 q (by omega)]
          rw [p_mx_c _ hq, p_mn_c _ hq]
      rw [hT] at e5'
      refine ⟨if x2 = 0 then (((1 : Int32) <<< (Int32.ofNat (d_n d) &&& 31)) - 1) &&& (p_ri d F n ^^^ -1) else p_mx (C2 14) (d_n d - 1) - p_mn (C2 14) (d_n d - 1), A4, C2, ?_, ?_, QM_tr (QM_fr f0 (by decide) (by decide) (by decide) (by decide)) (QM_tr (QM_fr f1 (by decide) (by decide) (by decide) (by decide)) q4), fr_mono (fr_tr (fr_mono fc0 (T := [9, 10, 11, 12, 14, 92]) (by simp)) (fr_tr (fr_mono fc1 (by simp)) fc2)) (by simp)⟩
      · rw [e0']
        unfold g_163_16b
        simp only [e_bd, e_bdn, e_st, e_li, e_bs, e_opn, e_ops, e_ob, e_vo, e_ia, e_eq, e_ne, e_lt, e_ge, e_gt, e_le, cond_true, cond_false, Bool.cond_decide, show (8 : Int32) ≤ 8 by decide, if_true, e1]
        rw [e3']
        unfold g_163_32b
        simp only [e_bd, e_bdn, e_st, e_li, e_bs, e_opn, e_ops, e_ob, e_vo, e_ia, e_eq, e_ne, e_lt, e_ge, e_gt, e_le, cond_true, cond_false, Bool.cond_decide, z_le, Int.le_refl, if_true, e4]
        exact e5'
      · rw [ec0']
        unfold k_92_14b
        have h012 : C0 90 12 = Int32.ofNat (d_n d) := hC0.2.1
        simp only [e_bd, e_bdn, e_st, e_li, e_bs, e_opn, e_ops, e_ob, e_vo, e_ia, e_eq, e_ne, e_lt, e_ge, e_gt, e_le, cond_true, cond_false, Bool.cond_decide, h012, z_le, Int.le_refl, if_true, ec1]
        rw [ec2']
        unfold k_92_39b k_110
        simp only [e_bd, e_bdn, e_st, e_li, e_bs, e_opn, e_ops, e_ob, e_vo, e_ia, e_eq, e_ne, e_lt, e_ge, e_gt, e_le, cond_true, cond_false, Bool.cond_decide, z_le, Int.le_refl, if_true, ec3']
        by_cases c : x2 = 0
        · simp only [c, not_true, if_false, if_true]
        · simp only [c, not_false_eq_true, if_false, if_true]
    · rw [decide_eq_false c1, if_neg (show ¬ ¬ b_i false = 0 by decide), if_neg (show ¬ ¬ b_i false = 0 by decide)]
      exact ⟨_, A, C, rfl, rfl, QM_rfl, fr_rfl⟩
  · rw [decide_eq_false c2, if_neg (show ¬ ¬ b_i false = 0 by decide)]
    refine ⟨-1, A, C, rfl, ?_, QM_rfl, fr_rfl⟩
    split
    · rfl
    · rw [if_neg (by omega)]
end Q4
