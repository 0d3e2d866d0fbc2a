/-! 69.q6: the class's best -/
section Q6
variable {N : Nat} {d : dS} {F : fS} {A C : mS} {P : Nat → Option Nat} {vl : Option Nat} {R : List aC}
theorem k_pl1 (hN : 200 ≤ N) (hd : d_ok d) {n i y : Nat} (hn : n ≤ 8) (hi : i < n) {C0 : mS} {m : Nat} (h4 : C0 90 4 = f_dy F) (hD : DP (C0 16) d F n (i + 1)) : ∀ (r k : Nat) (C : mS), k + r = 3 → CD C P vl R d → fr [12] C0 C → ∃ C', k_108_6 N P vl R (r + 1 + m) (Int32.ofNat i) (Int32.ofNat y) (Int32.ofNat (b_bi (bg d F n i y) k)) (bg d F n i y (b_bi (bg d F n i y) k)) (Int32.ofNat (k + 1)) C = k_108_6b N P vl R (k_108_6 N P vl R m) (Int32.ofNat i) (Int32.ofNat y) (Int32.ofNat (b_bi (bg d F n i y) 3)) (bg d F n i y (b_bi (bg d F n i y) 3)) 4 C' ∧ fr [12] C0 C' := by
  intro r
  induction r with
  | zero =>
    intro k C hk hC hf
    obtain rfl : k = 3 := by omega
    refine ⟨C, ?_, hf⟩
    rw [show 0 + 1 + m = m + 1 by omega]
    rfl
  | succ r ih =>
    intro k C hk hC hf
    obtain ⟨C1, e1, f1⟩ := k_wall (N := N) (w := Int32.ofNat (k + 1)) (y := Int32.ofNat y) (dy := f_dy F + Int32.ofNat i) hN hd hC
    obtain ⟨C2, e2, f2⟩ := ih (k + 1) C1 (by omega) (CD_fr hC f1 (by decide) (by decide) (by decide)) (fr_tr hf f1)
    refine ⟨C2, ?_, f2⟩
    have h16 : C1 16 (4 * (i + 1) + (k + 1)) = bv d F n (n - (i + 1)) (k + 1) := by
      rw [fr_at f1 (by decide), fr_at hf (by decide)]
      exact hD (i + 1) (k + 1) (by omega) (by omega) (by omega)
    have h90 : C 90 4 = f_dy F := by rw [fr_at hf (by decide)]; exact h4
    have hz : ¬ Int32.ofNat (k + 1) = 0 := by rw [show (0 : Int32) = Int32.ofNat 0 from rfl, o_eq (by omega) (by omega)]; omega
    have eg : w_all d (Int32.ofNat (k + 1)) (Int32.ofNat y) (f_dy F + Int32.ofNat i) (d_n d) + bv d F n (n - (i + 1)) (k + 1) = bg d F n i y (k + 1) := rfl
    rw [show r + 1 + 1 + m = (r + 1 + m) + 1 by omega]
    refine Eq.trans ?_ e2
    show k_108_6b _ _ _ _ _ _ _ _ _ _ _ = _
    unfold k_108_6b
    simp only [e_bd, e_bdn, e_st, e_li, e_bs, e_opn, e_ops, e_ob, e_vo, e_ia, e_eq, e_ne, e_lt, e_ge, e_gt, e_le, cond_true, cond_false, Bool.cond_decide, show ¬ (4 : Int32) ≤ Int32.ofNat (k + 1) by rw [show (4 : Int32) = Int32.ofNat 4 from rfl, o_le (by omega) (by omega)]; omega, if_false, h90, e1, show Int32.ofNat (i) + 1 = Int32.ofNat (i + 1) from o_add (q := 1), show Int32.ofNat (i + 1) * 4 + Int32.ofNat ((k + 1)) = Int32.ofNat (4 * (i + 1) + (k + 1)) by rw [show (4 : Int32) = Int32.ofNat 4 from rfl, o_mul, o_add, Nat.mul_comm], show a_in (Int32.ofNat (4 * (i + 1) + (k + 1))) 36 = true by rw [o_in (by omega)]; simp; omega, o_cl (show 4 * (i + 1) + (k + 1) < 2147483648 by omega), h16, hz, eg, show Int32.ofNat (k + 1) + 1 = Int32.ofNat (k + 1 + 1) from o_add (q := 1), b_bi]
    by_cases c : bg d F n i y (b_bi (bg d F n i y) k) < bg d F n i y (k + 1)
    · rw [if_neg (by rw [z_lt] at c; rw [z_le]; omega), if_pos c]
    · rw [if_pos (by rw [z_lt] at c; rw [z_le]; omega), if_neg c]
theorem k_pl (hN : 200 ≤ N) (hd : d_ok d) {n i y : Nat} (hn : n ≤ 8) (hi : i < n) (hy : y < 4) (h4 : C 90 4 = f_dy F) (hD : DP (C 16) d F n (i + 1)) (hC : CD C P vl R d) : ∃ C', k_108 N P vl R (Int32.ofNat i) (Int32.ofNat y) C = some (0, C') ∧ fr [12, 15, 16] C C' ∧ C' 15 = upd (C 15) (4 * i + y) (Int32.ofNat (b_bi (bg d F n i y) 3)) ∧ C' 16 = upd (C 16) (4 * i + y) (bv d F n (n - i) y) := by
  obtain ⟨C1, e1, f1⟩ := k_wall (N := N) (w := Int32.ofNat 0) (y := Int32.ofNat y) (dy := f_dy F + Int32.ofNat i) hN hd hC
  obtain ⟨C2, e2, f2⟩ := k_pl1 (N := N) (y := y) (C0 := C1) (m := N - 5) hN hd hn hi (by rw [fr_at f1 (by decide)]; exact h4) (by rw [fr_at f1 (by decide)]; exact hD) 3 0 C1 (by omega) (CD_fr hC f1 (by decide) (by decide) (by decide)) fr_rfl
  have f12 := fr_tr f1 f2
  refine ⟨va_up (va_up C2 15 (upd (C2 15) (4 * i + y) (Int32.ofNat (b_bi (bg d F n i y) 3)))) 16 (upd (C2 16) (4 * i + y) (bv d F n (n - i) y)), ?_, fr_up (fr_up (fr_mono f12 (by simp)) (by simp)) (by simp), ?_, ?_⟩
  · have h16 : C1 16 (4 * (i + 1) + 0) = bv d F n (n - (i + 1)) 0 := by
      rw [fr_at f1 (by decide)]
      exact hD (i + 1) 0 (by omega) (by omega) (by omega)
    have eg : w_all d (Int32.ofNat 0) (Int32.ofNat y) (f_dy F + Int32.ofNat i) (d_n d) + bv d F n (n - (i + 1)) 0 = bg d F n i y 0 := rfl
    unfold k_108
    obtain ⟨q, hq⟩ : ∃ q, N = q + 1 := ⟨N - 1, by omega⟩
    have hstep : k_108_6 N P vl R N (Int32.ofNat i) (Int32.ofNat y) 0 0 0 C = k_108_6 N P vl R (3 + 1 + (N - 5)) (Int32.ofNat i) (Int32.ofNat y) (Int32.ofNat 0) (bg d F n i y 0) (Int32.ofNat (0 + 1)) C1 := by
      rw [show 3 + 1 + (N - 5) = q by omega]
      conv => lhs; rw [show k_108_6 N P vl R N = k_108_6 N P vl R (q + 1) by rw [← hq]]
      show k_108_6b _ _ _ _ _ _ _ _ _ _ _ = _
      unfold k_108_6b
      rw [show (0 : Int32) = Int32.ofNat 0 from rfl]
      simp only [e_bd, e_bdn, e_st, e_li, e_bs, e_opn, e_ops, e_ob, e_vo, e_ia, e_eq, e_ne, e_lt, e_ge, e_gt, e_le, cond_true, cond_false, Bool.cond_decide, show ¬ (4 : Int32) ≤ Int32.ofNat 0 by decide, if_false, h4, e1, show Int32.ofNat (i) + 1 = Int32.ofNat (i + 1) from o_add (q := 1), show Int32.ofNat (i + 1) * 4 + Int32.ofNat (0) = Int32.ofNat (4 * (i + 1) + 0) by rw [show (4 : Int32) = Int32.ofNat 4 from rfl, o_mul, o_add, Nat.mul_comm], show a_in (Int32.ofNat (4 * (i + 1) + 0)) 36 = true by rw [o_in (by omega)]; simp; omega, o_cl (show 4 * (i + 1) + 0 < 2147483648 by omega), h16, eg, if_true, show Int32.ofNat (0) + 1 = Int32.ofNat (0 + 1) from o_add (q := 1)]
    rw [hstep]
    refine Eq.trans e2 ?_
    unfold k_108_6b
    simp only [e_bd, e_bdn, e_st, e_li, e_bs, e_opn, e_ops, e_ob, e_vo, e_ia, e_eq, e_ne, e_lt, e_ge, e_gt, e_le, cond_true, cond_false, Bool.cond_decide, show (4 : Int32) ≤ 4 by decide, if_true, show Int32.ofNat (i) * 4 + Int32.ofNat (y) = Int32.ofNat (4 * (i) + y) by rw [show (4 : Int32) = Int32.ofNat 4 from rfl, o_mul, o_add, Nat.mul_comm], show a_in (Int32.ofNat (4 * i + y)) 32 = true by rw [o_in (by omega)]; simp; omega, show a_in (Int32.ofNat (4 * i + y)) 36 = true by rw [o_in (by omega)]; simp; omega, o_cl (show 4 * i + y < 2147483648 by omega), va_up_ne _ _ (show (16 : Nat) ≠ 15 by decide), ← bv_bg hi]
  · rw [va_up_ne _ _ (by decide), va_up_self, fr_at f12 (by decide)]
  · rw [va_up_self, fr_at f12 (by decide)]
def DQ (T : Nat → Int32) (d : dS) (F : fS) (n i : Nat) : Prop := ∀ j y, i ≤ j → j < n → y < 4 → T (4 * j + y) = Int32.ofNat (b_bi (bg d F n j y) 3)
theorem k_be2 (hN : 200 ≤ N) (hd : d_ok d) {n i : Nat} (hn : n ≤ 8) (hi : i < n) {rc36 : Int32 → Int32 → mS → Option (Int32 × mS)} {x2 : Int32} {C0 : mS} {m : Nat} (h4 : C0 90 4 = f_dy F) (hC0 : CD C0 P vl R d) : ∀ (r y : Nat) (C : mS), y + r = 4 → fr [12, 15, 16] C0 C → DP (C 16) d F n (i + 1) → DQ (C 15) d F n (i + 1) → (∀ v, v < y → C 16 (4 * i + v) = bv d F n (n - i) v) → (∀ v, v < y → C 15 (4 * i + v) = Int32.ofNat (b_bi (bg d F n i v) 3)) → ∃ C', k_86_40 N P vl R rc36 (r + 1 + m) x2 (Int32.ofNat i) (Int32.ofNat y) C = rc36 x2 (Int32.ofNat i - 1) C' ∧ fr [12, 15, 16] C0 C' ∧ DP (C' 16) d F n i ∧ DQ (C' 15) d F n i := by
  intro r
  induction r with
  | zero =>
    intro y C hy hf hD hQ hv hu
    obtain rfl : y = 4 := by omega
    refine ⟨C, ?_, hf, ?_, ?_⟩
    · rw [show 0 + 1 + m = m + 1 by omega]
      show k_86_40b _ _ _ _ _ _ _ _ _ _ = _
      unfold k_86_40b
      simp only [e_bd, e_bdn, e_st, e_li, e_bs, e_opn, e_ops, e_ob, e_vo, e_ia, e_eq, e_ne, e_lt, e_ge, e_gt, e_le, cond_true, cond_false, Bool.cond_decide, show (4 : Int32) ≤ Int32.ofNat 4 by decide, if_true]
      rw [Int32.sub_eq_add_neg]
    · intro j w hj hjn hw
      by_cases c : j = i
      · subst c; exact hv w hw
      · exact hD j w (by omega) hjn hw
    · intro j w hj hjn hw
      by_cases c : j = i
      · subst c; exact hu w hw
      · exact hQ j w (by omega) hjn hw
  | succ r ih =>
    intro y C hy hf hD hQ hv hu
    obtain ⟨C1, e1, f1, h15, h16⟩ := k_pl (N := N) (y := y) hN hd hn hi (by omega) (by rw [fr_at hf (by decide)]; exact h4) hD (CD_fr hC0 hf (by decide) (by decide) (by decide))
    obtain ⟨C2, e2, f2, h2, h2q⟩ := ih (y + 1) C1 (by omega) (fr_tr hf f1) (by
      intro j w hj hjn hw
      rw [h16, upd_ne _ _ (by omega)]
      exact hD j w hj hjn hw) (by
      intro j w hj hjn hw
      rw [h15, upd_ne _ _ (by omega)]
      exact hQ j w hj hjn hw) (by
      intro v hv'
      rw [h16]
      by_cases c : v = y
      · subst c; rw [upd_self]
      · rw [upd_ne _ _ (by omega)]; exact hv v (by omega)) (by
      intro v hv'
      rw [h15]
      by_cases c : v = y
      · subst c; rw [upd_self]
      · rw [upd_ne _ _ (by omega)]; exact hu v (by omega))
    refine ⟨C2, ?_, f2, h2, h2q⟩
    rw [← e2, show r + 1 + 1 + m = (r + 1 + m) + 1 by omega]
    show k_86_40b _ _ _ _ _ _ _ _ _ _ = _
    unfold k_86_40b
    simp only [e_bd, e_bdn, e_st, e_li, e_bs, e_opn, e_ops, e_ob, e_vo, e_ia, e_eq, e_ne, e_lt, e_ge, e_gt, e_le, cond_true, cond_false, Bool.cond_decide, show ¬ (4 : Int32) ≤ Int32.ofNat (y) by rw [show (4 : Int32) = Int32.ofNat 4 from rfl, o_le (by omega) (by omega)]; omega, if_false, e1, show Int32.ofNat (y) + 1 = Int32.ofNat (y + 1) from o_add (q := 1)]
theorem k_be3 (hN : 200 ≤ N) (hd : d_ok d) {n : Nat} (hn : n ≤ 8) {x2 : Int32} {C0 : mS} {m : Nat} (h4 : C0 90 4 = f_dy F) (hC0 : CD C0 P vl R d) : ∀ (i : Nat) (C : mS), i ≤ n → fr [12, 15, 16] C0 C → DP (C 16) d F n i → DQ (C 15) d F n i → ∃ C', k_86_36 N P vl R (i + 1 + m) x2 (Int32.ofNat i - 1) C = k_86_36b N P vl R (k_86_36 N P vl R m) x2 (-1) C' ∧ fr [12, 15, 16] C0 C' ∧ DP (C' 16) d F n 0 ∧ DQ (C' 15) d F n 0 := by
  intro i
  induction i with
  | zero =>
    intro C hi hf hD hQ
    refine ⟨C, ?_, hf, hD, hQ⟩
    rw [show 0 + 1 + m = m + 1 by omega]
    rfl
  | succ i ih =>
    intro C hi hf hD hQ
    obtain ⟨C1, e1, f1, h1, h1q⟩ := k_be2 (N := N) (rc36 := k_86_36 N P vl R (i + 1 + m)) (x2 := x2) (C0 := C0) (m := N - 5) hN hd hn (show i < n by omega) h4 hC0 4 0 C (by omega) hf hD hQ (fun v hv => by omega) (fun v hv => by omega)
    rw [show 4 + 1 + (N - 5) = N by omega] at e1
    obtain ⟨C2, e2, f2, h2, h2q⟩ := ih C1 (by omega) f1 h1 h1q
    refine ⟨C2, ?_, f2, h2, h2q⟩
    rw [show i + 1 + 1 + m = (i + 1 + m) + 1 by omega]
    refine Eq.trans ?_ (e1.trans e2)
    have hx : Int32.ofNat (i + 1) - 1 = Int32.ofNat i := by
      rw [show (1 : Int32) = Int32.ofNat 1 from rfl, o_sub (by omega)]; congr 1
    rw [hx]
    show k_86_36b _ _ _ _ _ _ _ _ = _
    unfold k_86_36b
    simp only [e_bd, e_bdn, e_st, e_li, e_bs, e_opn, e_ops, e_ob, e_vo, e_ia, e_eq, e_ne, e_lt, e_ge, e_gt, e_le, cond_true, cond_false, Bool.cond_decide, show ¬ Int32.ofNat i < 0 by rw [show (0 : Int32) = Int32.ofNat 0 from rfl, o_lt (by omega) (by omega)]; omega, if_false]
    rfl
theorem k_be5 {n k y0 : Nat} (hn : n ≤ 8) (hk : k < n) (hy0 : y0 < 4) {m : Nat} (hQ : DQ (C 15) d F n 0) : ∀ (r i : Nat), i + r = k + 1 → k_86_66 N P vl R (r + 1 + m) (Int32.ofNat k) (Int32.ofNat (bp d F n y0 i)) (Int32.ofNat i) C = some (Int32.ofNat (bp d F n y0 (k + 1)), C) := by
  intro r
  induction r with
  | zero =>
    intro i hi
    obtain rfl : i = k + 1 := by omega
    rw [show 0 + 1 + m = m + 1 by omega]
    show k_86_66b _ _ _ _ _ _ _ _ _ = _
    unfold k_86_66b
    simp only [e_bd, e_bdn, e_st, e_li, e_bs, e_opn, e_ops, e_ob, e_vo, e_ia, e_eq, e_ne, e_lt, e_ge, e_gt, e_le, cond_true, cond_false, Bool.cond_decide, show Int32.ofNat k < Int32.ofNat (k + 1) by rw [o_lt (by omega) (by omega)]; omega, if_true]
  | succ r ih =>
    intro i hi
    rw [← ih (i + 1) (by omega), show r + 1 + 1 + m = (r + 1 + m) + 1 by omega]
    have hb := bp_lt (d := d) (F := F) (n := n) hy0 i
    show k_86_66b _ _ _ _ _ _ _ _ _ = _
    unfold k_86_66b
    simp only [e_bd, e_bdn, e_st, e_li, e_bs, e_opn, e_ops, e_ob, e_vo, e_ia, e_eq, e_ne, e_lt, e_ge, e_gt, e_le, cond_true, cond_false, Bool.cond_decide, show ¬ Int32.ofNat k < Int32.ofNat i by rw [o_lt (by omega) (by omega)]; omega, if_false, show Int32.ofNat (i) * 4 + Int32.ofNat (bp d F n y0 i) = Int32.ofNat (4 * (i) + bp d F n y0 i) by rw [show (4 : Int32) = Int32.ofNat 4 from rfl, o_mul, o_add, Nat.mul_comm], show a_in (Int32.ofNat (4 * i + bp d F n y0 i)) 32 = true by rw [o_in (by omega)]; simp; omega, o_cl (show 4 * i + bp d F n y0 i < 2147483648 by omega), hQ i (bp d F n y0 i) (by omega) (by omega) hb, show Int32.ofNat (i) + 1 = Int32.ofNat (i + 1) from o_add (q := 1)]
    rfl
theorem k_be0 {n : Nat} (hn : n ≤ 8) {x2 : Int32} {C0 : mS} {m : Nat} : ∀ (r w : Nat) (C : mS), w + r = 4 → fr [16] C0 C → (∀ v, v < w → C 16 (4 * n + v) = 0) → ∃ C', k_86_18 N P vl R (r + 1 + m) (Int32.ofNat n) x2 (Int32.ofNat w) C = k_86_36 N P vl R N x2 (Int32.ofNat n - 1) C' ∧ fr [16] C0 C' ∧ (∀ v, v < 4 → C' 16 (4 * n + v) = 0) := by
  intro r
  induction r with
  | zero =>
    intro w C hw hf h7
    obtain rfl : w = 4 := by omega
    refine ⟨C, ?_, hf, h7⟩
    rw [show 0 + 1 + m = m + 1 by omega]
    show k_86_18b _ _ _ _ _ _ _ _ _ = _
    unfold k_86_18b
    simp only [e_bd, e_bdn, e_st, e_li, e_bs, e_opn, e_ops, e_ob, e_vo, e_ia, e_eq, e_ne, e_lt, e_ge, e_gt, e_le, cond_true, cond_false, Bool.cond_decide, show (4 : Int32) ≤ Int32.ofNat 4 by decide, if_true]
  | succ r ih =>
    intro w C hw hf h7
    obtain ⟨C1, e1, f1, h1⟩ := ih (w + 1) (va_up C 16 (upd (C 16) (4 * n + w) 0)) (by omega) (fr_up hf (by simp)) (fun v hv => by
      rw [va_up_self]
      by_cases c : v = w
      · subst c; rw [upd_self]
      · rw [upd_ne _ _ (by omega)]; exact h7 v (by omega))
    refine ⟨C1, ?_, f1, h1⟩
    rw [show r + 1 + 1 + m = (r + 1 + m) + 1 by omega]
    refine Eq.trans ?_ e1
    show k_86_18b _ _ _ _ _ _ _ _ _ = _
    unfold k_86_18b
    simp only [e_bd, e_bdn, e_st, e_li, e_bs, e_opn, e_ops, e_ob, e_vo, e_ia, e_eq, e_ne, e_lt, e_ge, e_gt, e_le, cond_true, cond_false, Bool.cond_decide, show ¬ (4 : Int32) ≤ Int32.ofNat (w) by rw [show (4 : Int32) = Int32.ofNat 4 from rfl, o_le (by omega) (by omega)]; omega, if_false, show Int32.ofNat (n) * 4 + Int32.ofNat (w) = Int32.ofNat (4 * (n) + w) by rw [show (4 : Int32) = Int32.ofNat 4 from rfl, o_mul, o_add, Nat.mul_comm], show a_in (Int32.ofNat (4 * n + w)) 36 = true by rw [o_in (by omega)]; simp; omega, o_cl (show 4 * n + w < 2147483648 by omega), show Int32.ofNat (w) + 1 = Int32.ofNat (w + 1) from o_add (q := 1)]
theorem q_best (hN : 200 ≤ N) (hd : d_ok d) (hf : f_ok d F) (hM : MS A d F) (hC : CD C P vl R d) (hW : WF C F) (x1 x2 : Int32) : ∃ r A' C', g_157 N x1 x2 A = some (r, A') ∧ k_86 N P vl R x1 x2 C = some (r, C') ∧ QM A A' ∧ QC C C' := by
  have k1 : (1 : Int32).toInt = 1 := rfl
  have km : (-1 : Int32).toInt = -1 := rfl
  have k8 : (8 : Int32).toInt = 8 := rfl
  unfold g_157 k_86
  simp only [m_in, e_bd, e_bdn, e_st, e_li, e_bs, e_opn, e_ops, e_ob, e_vo, e_ia, e_eq, e_ne, e_lt, e_ge, e_gt, e_le, cond_true, cond_false, Bool.cond_decide, z_le, z_lt, k1, k8, km]
  by_cases c1 : 1 ≤ x1.toInt ∧ x1.toInt ≤ 8
  · rw [decide_eq_true c1, if_pos (show ¬ b_i true = 0 by decide), if_neg (show ¬ x1.toInt < 1 by omega), if_pos (show x1.toInt ≤ 8 by omega)]
    have hs : (x1 - 1).toInt = x1.toInt - 1 := by rw [z_sub (by omega) (by omega), k1]
    rw [hs]
    by_cases c2 : -1 ≤ x2.toInt ∧ x2.toInt ≤ x1.toInt - 1
    · rw [decide_eq_true c2, if_pos (show ¬ b_i true = 0 by decide), if_neg (show ¬ x2.toInt < -1 by omega), if_pos (show x2.toInt < x1.toInt by omega)]
      obtain ⟨n, hn, rfl⟩ := o_ex (x := x1) (n := 9) (by omega) (by omega)
      rw [z_ofNat (by omega)] at c1 c2
      obtain ⟨A1, e1, f1, h1⟩ := m_be0 (N := N) (x2 := x2) (A0 := A) (m := N - 5) (show n ≤ 8 by omega) 4 0 A (by omega) fr_rfl (fun v hv => by omega)
      rw [show 4 + 1 + (N - 5) = N by omega] at e1
      obtain ⟨A2, e2, f2, h2⟩ := m_be3 (N := N) (x2 := x2) (A0 := A1) (m := N - (n + 1)) hN hd (show n ≤ 8 by omega) n A1 (Nat.le_refl _) (MS_fr hM f1 (by decide)) fr_rfl (fun j w hj hjn hw => by
        obtain rfl : j = n := by omega
        rw [h1 w hw, Nat.sub_self]
        rfl)
      rw [show n + 1 + (N - (n + 1)) = N by omega] at e2
      have f12 : fr [3, 4, 7] A A2 := fr_tr (fr_mono f1 (by simp)) f2
      have M2 := MS_fr hM f12 (by decide)
      obtain ⟨C1, ec1, fc1, hc1⟩ := k_be0 (N := N) (P := P) (vl := vl) (R := R) (x2 := x2) (C0 := C) (m := N - 5) (show n ≤ 8 by omega) 4 0 C (by omega) fr_rfl (fun v hv => by omega)
      rw [show 4 + 1 + (N - 5) = N by omega] at ec1
      obtain ⟨C2, ec2, fc2, hc2, hq2⟩ := k_be3 (N := N) (x2 := x2) (C0 := C1) (F := F) (m := N - (n + 1)) hN hd (show n ≤ 8 by omega) (by rw [fr_at fc1 (by decide)]; exact hW.1) (CD_fr hC fc1 (by decide) (by decide) (by decide)) n C1 (Nat.le_refl _) fr_rfl (fun j w hj hjn hw => by
        obtain rfl : j = n := by omega
        rw [hc1 w hw, Nat.sub_self]
        rfl) (fun j w hj hjn hw => by omega)
      rw [show n + 1 + (N - (n + 1)) = N by omega] at ec2
      have fc12 : fr [12, 15, 16] C C2 := fr_tr (fr_mono fc1 (by simp)) fc2
      have hQC : QC C C2 := fr_mono fc12 (by simp)
      obtain ⟨y0, hy0, hah⟩ := o_ex (x := f_ah F) (n := 4) hf.2.1.1 hf.2.1.2
      have hA1 : A2 0 1 = Int32.ofNat y0 := by rw [M2.2.2.1]; exact hah
      have hC1 : C2 90 5 = Int32.ofNat y0 := by rw [fr_at fc12 (by decide), hW.2.1]; exact hah
      have e12 : g_157_18 N N (Int32.ofNat n) x2 0 A = g_157_89 N N x2 (A2 0 1) 0 A2 := e1.trans e2
      have ec12 : k_86_18 N P vl R N (Int32.ofNat n) x2 0 C = _ := ec1.trans ec2
      rw [e12, ec12, hA1]
      by_cases c3 : x2.toInt = -1
      · obtain rfl : x2 = -1 := by rw [z_eq, km]; exact c3
        refine ⟨bv d F n n y0, A2, C2, ?_, ?_, QM_fr f12 (by decide) (by decide) (by decide) (by decide), hQC⟩
        · obtain ⟨q, hq⟩ : ∃ q, N = q + 1 := ⟨N - 1, by omega⟩
          conv => lhs; rw [show g_157_89 N N = g_157_89 N (q + 1) by rw [← hq]]
          show g_157_89b _ _ _ _ _ _ = _
          unfold g_157_89b
          have h7 := h2 0 y0 (by omega) (by omega) hy0
          rw [show 4 * 0 + y0 = y0 by omega, show n - 0 = n by omega] at h7
          simp only [e_bd, e_bdn, e_st, e_li, e_bs, e_opn, e_ops, e_ob, e_vo, e_ia, e_eq, e_ne, e_lt, e_ge, e_gt, e_le, cond_true, cond_false, Bool.cond_decide, show (-1 : Int32) < 0 by decide, if_true, not_true, if_false, hA1, show a_in (Int32.ofNat (y0)) 36 = true by rw [o_in (by omega)]; simp; omega, o_cl (show y0 < 2147483648 by omega), h7]
        · unfold k_86_36b
          have h7 := hc2 0 y0 (by omega) (by omega) hy0
          rw [show 4 * 0 + y0 = y0 by omega, show n - 0 = n by omega] at h7
          simp only [e_bd, e_bdn, e_st, e_li, e_bs, e_opn, e_ops, e_ob, e_vo, e_ia, e_eq, e_ne, e_lt, e_ge, e_gt, e_le, cond_true, cond_false, Bool.cond_decide, show (-1 : Int32) < 0 by decide, if_true, show ¬ (0 : Int32) ≤ -1 by decide, if_false, hC1, show a_in (Int32.ofNat (y0)) 36 = true by rw [o_in (by omega)]; simp; omega, o_cl (show y0 < 2147483648 by omega), h7]
      · obtain ⟨k, hk, rfl⟩ := o_ex (x := x2) (n := n) (by omega) (by omega)
        obtain ⟨A3, e3, f3⟩ := m_be5 (N := N) (A0 := A2) (m := N - (k + 1 + 1)) hN hd (show n ≤ 8 by omega) hk hy0 (k + 1) 0 A2 (by omega) M2 fr_rfl h2
        rw [show k + 1 + 1 + (N - (k + 1 + 1)) = N by omega] at e3
        have ec3 := k_be5 (N := N) (P := P) (vl := vl) (R := R) (m := N - (k + 1 + 1)) (show n ≤ 8 by omega) hk hy0 hq2 (k + 1) 0 (by omega)
        rw [show k + 1 + 1 + (N - (k + 1 + 1)) = N by omega] at ec3
        refine ⟨Int32.ofNat (bp d F n y0 (k + 1)), A3, C2, e3, ?_, QM_fr (fr_tr f12 (fr_mono f3 (by simp))) (by decide) (by decide) (by decide) (by decide), hQC⟩
        unfold k_86_36b
        simp only [e_bd, e_bdn, e_st, e_li, e_bs, e_opn, e_ops, e_ob, e_vo, e_ia, e_eq, e_ne, e_lt, e_ge, e_gt, e_le, cond_true, cond_false, Bool.cond_decide, show (-1 : Int32) < 0 by decide, if_true, show (0 : Int32) ≤ Int32.ofNat k by rw [show (0 : Int32) = Int32.ofNat 0 from rfl, o_le (by omega) (by omega)]; omega, hC1]
        exact ec3
    · rw [decide_eq_false c2, if_neg (show ¬ ¬ b_i false = 0 by decide)]
      refine ⟨-10001, A, C, rfl, ?_, QM_rfl, fr_rfl⟩
      split
      · rfl
      · rw [if_neg (by omega)]
  · rw [decide_eq_false c1, if_neg (show ¬ ¬ b_i false = 0 by decide)]
    refine ⟨-10002, A, C, rfl, ?_, QM_rfl, fr_rfl⟩
    split
    · rfl
    · rw [if_neg (by omega)]
end Q6
