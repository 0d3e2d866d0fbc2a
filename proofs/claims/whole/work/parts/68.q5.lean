/-! 68.q5: best -/
/-- the most that r days bring, the last r of n, behind the weather y -/
def bv (d : dS) (F : fS) (n : Nat) : Nat → Nat → Int32
  | 0, _ => 0
  | r + 1, y => w_all d (Int32.ofNat (b_bi (fun w => w_all d (Int32.ofNat w) (Int32.ofNat y) (f_dy F + Int32.ofNat (n - (r + 1))) (d_n d) + bv d F n r w) 3)) (Int32.ofNat y) (f_dy F + Int32.ofNat (n - (r + 1))) (d_n d) + bv d F n r (b_bi (fun w => w_all d (Int32.ofNat w) (Int32.ofNat y) (f_dy F + Int32.ofNat (n - (r + 1))) (d_n d) + bv d F n r w) 3)
def bg (d : dS) (F : fS) (n i y w : Nat) : Int32 := w_all d (Int32.ofNat w) (Int32.ofNat y) (f_dy F + Int32.ofNat i) (d_n d) + bv d F n (n - (i + 1)) w
theorem bv_bg {d : dS} {F : fS} {n i y : Nat} (hi : i < n) : bv d F n (n - i) y = bg d F n i y (b_bi (bg d F n i y) 3) := by
  obtain ⟨r, hr⟩ : ∃ r, n - i = r + 1 := ⟨n - i - 1, by omega⟩
  have h1 : n - (r + 1) = i := by omega
  have h2 : n - (i + 1) = r := by omega
  have h3 : bg d F n i y = fun w => w_all d (Int32.ofNat w) (Int32.ofNat y) (f_dy F + Int32.ofNat (n - (r + 1))) (d_n d) + bv d F n r w := by
    funext w
    unfold bg
    rw [h1, h2]
  rw [hr, h3]
  rfl
theorem bi_fst (S : Nat → Int32) : ∀ k w, w < b_bi S k → (S w).toInt < (S (b_bi S k)).toInt := by
  intro k
  induction k with
  | zero => intro w hw; simp [b_bi] at hw
  | succ k ih =>
    intro w hw
    simp only [b_bi] at hw ⊢
    by_cases c : S (b_bi S k) < S (k + 1)
    · rw [if_pos c] at hw ⊢
      have := bi_mx S k w (by omega)
      rw [z_lt] at c
      omega
    · rw [if_neg c] at hw ⊢
      exact ih w hw
/-- the row of weathers -/
def bp (d : dS) (F : fS) (n y0 : Nat) : Nat → Nat
  | 0 => y0
  | i + 1 => b_bi (bg d F n i (bp d F n y0 i)) 3
section Q5
variable {N : Nat} {d : dS} {F : fS} {A C : mS} {P : Nat → Option Nat} {vl : Option Nat} {R : List aC}
/-- the rows from day i on stand -/
def DP (T : Nat → Int32) (d : dS) (F : fS) (n i : Nat) : Prop := ∀ j w, i ≤ j → j ≤ n → w < 4 → T (4 * j + w) = bv d F n (n - j) w
theorem m_wn (hN : 200 ≤ N) (hd : d_ok d) (hM : MS A d F) {n i y w : Nat} (hn : n ≤ 8) (hi : i < n) (hw : w < 4) (hD : DP (A 7) d F n (i + 1)) : ∃ A', g_156 N (Int32.ofNat i) (Int32.ofNat y) (Int32.ofNat w) A = some (bg d F n i y w, A') ∧ fr [3, 4] A A' := by
  obtain ⟨A1, e1, f1⟩ := m_wall (w := Int32.ofNat w) (y := Int32.ofNat y) (dy := f_dy F + Int32.ofNat i) hN hd hM.1
  refine ⟨A1, ?_, f1⟩
  unfold g_156
  rw [hM.2.1, e1]
  simp only [e_bd, e_bdn, e_st, e_li, e_bs, e_opn, e_ops, e_ob, e_vo, e_ia, e_eq, e_ne, e_lt, e_ge, e_gt, e_le, cond_true, cond_false, Bool.cond_decide, show Int32.ofNat (i) + 1 = Int32.ofNat (i + 1) from o_add (q := 1), show (4 : Int32) * Int32.ofNat (i + 1) + Int32.ofNat (w) = Int32.ofNat (4 * (i + 1) + w) by rw [show (4 : Int32) = Int32.ofNat 4 from rfl, o_mul, o_add], show a_in (Int32.ofNat (4 * (i + 1) + w)) 36 = true by rw [o_in (by omega)]; simp; omega, o_cl (show 4 * (i + 1) + w < 2147483648 by omega)]
  rw [fr_at f1 (by decide), hD (i + 1) w (Nat.le_refl _) (by omega) hw]
  rfl
theorem m_be1 (hN : 200 ≤ N) (hd : d_ok d) {n i y : Nat} (hn : n ≤ 8) (hi : i < n) {rc36 : Int32 → Int32 → mS → Option (Int32 × mS)} {rc40 : Int32 → Int32 → Int32 → mS → Option (Int32 × mS)} {x2 : Int32} {A0 : mS} {m : Nat} : ∀ (r k : Nat) (A : mS), k + r = 3 → MS A d F → fr [3, 4] A0 A → DP (A0 7) d F n (i + 1) → ∃ A', g_157_51 N rc36 rc40 (r + 1 + m) x2 (Int32.ofNat i) (Int32.ofNat y) (bg d F n i y (b_bi (bg d F n i y) k)) (Int32.ofNat (k + 1)) A = g_157_51b N rc36 rc40 (g_157_51 N rc36 rc40 m) x2 (Int32.ofNat i) (Int32.ofNat y) (bg d F n i y (b_bi (bg d F n i y) 3)) 4 A' ∧ fr [3, 4] A0 A' := by
  intro r
  induction r with
  | zero =>
    intro k A hk hM hf hD
    obtain rfl : k = 3 := by omega
    refine ⟨A, ?_, hf⟩
    rw [show 0 + 1 + m = m + 1 by omega]
    rfl
  | succ r ih =>
    intro k A hk hM hf hD
    obtain ⟨A1, e1, f1⟩ := m_wn (y := y) (w := k + 1) hN hd hM hn hi (by omega) (by rw [fr_at hf (by decide)]; exact hD)
    obtain ⟨A2, e2, f2⟩ := ih (k + 1) A1 (by omega) (MS_fr hM f1 (by decide)) (fr_tr hf f1) hD
    refine ⟨A2, ?_, f2⟩
    rw [show r + 1 + 1 + m = (r + 1 + m) + 1 by omega]
    refine Eq.trans ?_ e2
    show g_157_51b _ _ _ _ _ _ _ _ _ _ = _
    unfold g_157_51b
    simp only [e_bd, e_bdn, e_st, e_li, e_bs, e_opn, e_ops, e_ob, e_vo, e_ia, e_eq, e_ne, e_lt, e_ge, e_gt, e_le, cond_true, cond_false, Bool.cond_decide, show ¬ (4 : Int32) ≤ Int32.ofNat (k + 1) by rw [show (4 : Int32) = Int32.ofNat 4 from rfl, o_le (by omega) (by omega)]; omega, if_false, e1, show Int32.ofNat (k + 1) + 1 = Int32.ofNat (k + 1 + 1) from o_add (q := 1), b_bi]
    by_cases c : bg d F n i y (b_bi (bg d F n i y) k) < bg d F n i y (k + 1)
    · rw [if_neg (by rw [z_lt] at c; rw [z_le]; omega), if_pos c]
    · rw [if_pos (by rw [z_lt] at c; rw [z_le]; omega), if_neg c]
theorem m_be2 (hN : 200 ≤ N) (hd : d_ok d) {n i : Nat} (hn : n ≤ 8) (hi : i < n) {rc36 : Int32 → Int32 → mS → Option (Int32 × mS)} {x2 : Int32} {A0 : mS} {m : Nat} : ∀ (r y : Nat) (A : mS), y + r = 4 → MS A d F → fr [3, 4, 7] A0 A → DP (A 7) d F n (i + 1) → (∀ v, v < y → A 7 (4 * i + v) = bv d F n (n - i) v) → ∃ A', g_157_40 N rc36 (r + 1 + m) x2 (Int32.ofNat i) (Int32.ofNat y) A = rc36 x2 (Int32.ofNat i - 1) A' ∧ fr [3, 4, 7] A0 A' ∧ DP (A' 7) d F n i := by
  intro r
  induction r with
  | zero =>
    intro y A hy hM hf hD hv
    obtain rfl : y = 4 := by omega
    refine ⟨A, ?_, hf, ?_⟩
    · rw [show 0 + 1 + m = m + 1 by omega]
      show g_157_40b _ _ _ _ _ _ _ = _
      unfold g_157_40b
      simp only [e_bd, e_bdn, e_st, e_li, e_bs, e_opn, e_ops, e_ob, e_vo, e_ia, e_eq, e_ne, e_lt, e_ge, e_gt, e_le, cond_true, cond_false, Bool.cond_decide, show (4 : Int32) ≤ Int32.ofNat 4 by decide, if_true]
      rw [Int32.sub_eq_add_neg]
    · intro j w hj hjn hw
      by_cases c : j = i
      · subst c; exact hv w hw
      · exact hD j w (by omega) hjn hw
  | succ r ih =>
    intro y A hy hM hf hD hv
    obtain ⟨A1, e1, f1⟩ := m_wn (y := y) (w := 0) hN hd hM hn hi (by omega) hD
    obtain ⟨A2, e2, f2⟩ := m_be1 (N := N) (y := y) (rc36 := rc36) (rc40 := g_157_40 N rc36 (r + 1 + m)) (x2 := x2) (A0 := A1) (m := N - 4) hN hd hn hi 3 0 A1 (by omega) (MS_fr hM f1 (by decide)) fr_rfl (by rw [fr_at f1 (by decide)]; exact hD)
    rw [show 3 + 1 + (N - 4) = N by omega] at e2
    have f12 := fr_tr f1 f2
    generalize hA3 : va_up A2 7 (upd (A2 7) (4 * i + y) (bg d F n i y (b_bi (bg d F n i y) 3))) = A3
    have f3 : fr [3, 4, 7] A A3 := by rw [← hA3]; exact fr_up (fr_mono f12 (by simp)) (by simp)
    have h27 : A2 7 = A 7 := fr_at f12 (by decide)
    obtain ⟨A4, e4, f4, h4⟩ := ih (y + 1) A3 (by omega) (MS_fr hM f3 (by decide)) (fr_tr hf f3) (by
      intro j w hj hjn hw
      rw [← hA3, va_up_self, upd_ne _ _ (by omega), h27]
      exact hD j w hj hjn hw) (by
      intro v hv'
      rw [← hA3, va_up_self]
      by_cases c : v = y
      · subst c; rw [upd_self, bv_bg hi]
      · rw [upd_ne _ _ (by omega), h27]; exact hv v (by omega))
    refine ⟨A4, ?_, f4, h4⟩
    rw [← e4, show r + 1 + 1 + m = (r + 1 + m) + 1 by omega]
    show g_157_40b _ _ _ _ _ _ _ = _
    unfold g_157_40b
    have e1' : g_156 N (Int32.ofNat i) (Int32.ofNat y) 0 A = _ := e1
    have e2' : g_157_51 N rc36 (g_157_40 N rc36 (r + 1 + m)) N x2 (Int32.ofNat i) (Int32.ofNat y) (bg d F n i y 0) 1 A1 = _ := e2
    simp only [e_bd, e_bdn, e_st, e_li, e_bs, e_opn, e_ops, e_ob, e_vo, e_ia, e_eq, e_ne, e_lt, e_ge, e_gt, e_le, cond_true, cond_false, Bool.cond_decide, show ¬ (4 : Int32) ≤ Int32.ofNat (y) by rw [show (4 : Int32) = Int32.ofNat 4 from rfl, o_le (by omega) (by omega)]; omega, if_false, e1']
    rw [e2']
    unfold g_157_51b
    simp only [e_bd, e_bdn, e_st, e_li, e_bs, e_opn, e_ops, e_ob, e_vo, e_ia, e_eq, e_ne, e_lt, e_ge, e_gt, e_le, cond_true, cond_false, Bool.cond_decide, show (4 : Int32) ≤ 4 by decide, if_true, show (4 : Int32) * Int32.ofNat (i) + Int32.ofNat (y) = Int32.ofNat (4 * (i) + y) by rw [show (4 : Int32) = Int32.ofNat 4 from rfl, o_mul, o_add], show a_in (Int32.ofNat (4 * i + y)) 36 = true by rw [o_in (by omega)]; simp; omega, o_cl (show 4 * i + y < 2147483648 by omega), hA3, show Int32.ofNat (y) + 1 = Int32.ofNat (y + 1) from o_add (q := 1)]
theorem m_be3 (hN : 200 ≤ N) (hd : d_ok d) {n : Nat} (hn : n ≤ 8) {x2 : Int32} {A0 : mS} {m : Nat} : ∀ (i : Nat) (A : mS), i ≤ n → MS A d F → fr [3, 4, 7] A0 A → DP (A 7) d F n i → ∃ A', g_157_36 N (i + 1 + m) x2 (Int32.ofNat i - 1) A = g_157_89 N N x2 (A' 0 1) 0 A' ∧ fr [3, 4, 7] A0 A' ∧ DP (A' 7) d F n 0 := by
  intro i
  induction i with
  | zero =>
    intro A hi hM hf hD
    refine ⟨A, ?_, hf, hD⟩
    rw [show 0 + 1 + m = m + 1 by omega]
    show g_157_36b _ _ _ _ _ = _
    unfold g_157_36b
    simp only [e_bd, e_bdn, e_st, e_li, e_bs, e_opn, e_ops, e_ob, e_vo, e_ia, e_eq, e_ne, e_lt, e_ge, e_gt, e_le, cond_true, cond_false, Bool.cond_decide, show Int32.ofNat 0 - 1 < 0 by decide, if_true]
  | succ i ih =>
    intro A hi hM hf hD
    obtain ⟨A1, e1, f1, h1⟩ := m_be2 (N := N) (rc36 := g_157_36 N (i + 1 + m)) (x2 := x2) (A0 := A0) (m := N - 5) hN hd hn (show i < n by omega) 4 0 A (by omega) hM hf hD (fun v hv => by omega)
    rw [show 4 + 1 + (N - 5) = N by omega] at e1
    obtain ⟨A2, e2, f2, h2⟩ := ih A1 (by omega) (by unfold MS; rw [fr_at f1 (by decide), ← fr_at hf (by decide)]; exact hM) f1 h1
    refine ⟨A2, ?_, f2, h2⟩
    rw [show i + 1 + 1 + m = (i + 1 + m) + 1 by omega]
    refine Eq.trans ?_ (e1.trans e2)
    show g_157_36b _ _ _ _ _ = _
    unfold g_157_36b
    have hx : Int32.ofNat (i + 1) - 1 = Int32.ofNat i := by
      rw [show (1 : Int32) = Int32.ofNat 1 from rfl, o_sub (by omega)]; congr 1
    rw [hx]
    simp only [e_bd, e_bdn, e_st, e_li, e_bs, e_opn, e_ops, e_ob, e_vo, e_ia, e_eq, e_ne, e_lt, e_ge, e_gt, e_le, cond_true, cond_false, Bool.cond_decide, show ¬ Int32.ofNat i < 0 by rw [show (0 : Int32) = Int32.ofNat 0 from rfl, o_lt (by omega) (by omega)]; omega, if_false]
    rfl
theorem m_be4 (hN : 200 ≤ N) (hd : d_ok d) {n i y : Nat} (hn : n ≤ 8) (hi : i < n) (hy : y < 4) {rc89 : Int32 → Int32 → Int32 → mS → Option (Int32 × mS)} {x2 : Int32} {A0 : mS} {m : Nat} : ∀ (r w : Nat) (A : mS), w + r = b_bi (bg d F n i y) 3 → MS A d F → fr [3, 4] A0 A → DP (A0 7) d F n 0 → ∃ A', g_157_94 N rc89 (r + 1 + m) x2 (Int32.ofNat y) (Int32.ofNat i) (Int32.ofNat w) A = rc89 x2 (Int32.ofNat (b_bi (bg d F n i y) 3)) (Int32.ofNat (i + 1)) A' ∧ fr [3, 4] A0 A' := by
  intro r
  have hb := bi_le (bg d F n i y) 3
  induction r with
  | zero =>
    intro w A hw hM hf hD
    obtain rfl : w = b_bi (bg d F n i y) 3 := by omega
    obtain ⟨A1, e1, f1⟩ := m_wn (y := y) (w := b_bi (bg d F n i y) 3) hN hd hM hn hi (by omega) (by rw [fr_at hf (by decide)]; exact fun j w h1 h2 h3 => hD j w (by omega) h2 h3)
    refine ⟨A1, ?_, fr_tr hf f1⟩
    have h7 : A1 7 (4 * i + y) = bg d F n i y (b_bi (bg d F n i y) 3) := by
      rw [fr_at f1 (by decide), fr_at hf (by decide), hD i y (by omega) (by omega) hy, bv_bg hi]
    rw [show 0 + 1 + m = m + 1 by omega]
    show g_157_94b _ _ _ _ _ _ _ _ = _
    unfold g_157_94b
    simp only [e1, e_bd, e_bdn, e_st, e_li, e_bs, e_opn, e_ops, e_ob, e_vo, e_ia, e_eq, e_ne, e_lt, e_ge, e_gt, e_le, cond_true, cond_false, Bool.cond_decide, show (4 : Int32) * Int32.ofNat (i) + Int32.ofNat (y) = Int32.ofNat (4 * (i) + y) by rw [show (4 : Int32) = Int32.ofNat 4 from rfl, o_mul, o_add], show a_in (Int32.ofNat (4 * i + y)) 36 = true by rw [o_in (by omega)]; simp; omega, o_cl (show 4 * i + y < 2147483648 by omega), h7, if_true, show Int32.ofNat (i) + 1 = Int32.ofNat (i + 1) from o_add (q := 1)]
  | succ r ih =>
    intro w A hw hM hf hD
    obtain ⟨A1, e1, f1⟩ := m_wn (y := y) (w := w) hN hd hM hn hi (by omega) (by rw [fr_at hf (by decide)]; exact fun j w h1 h2 h3 => hD j w (by omega) h2 h3)
    obtain ⟨A2, e2, f2⟩ := ih (w + 1) A1 (by omega) (MS_fr hM f1 (by decide)) (fr_tr hf f1) hD
    refine ⟨A2, ?_, f2⟩
    have h7 : A1 7 (4 * i + y) = bg d F n i y (b_bi (bg d F n i y) 3) := by
      rw [fr_at f1 (by decide), fr_at hf (by decide), hD i y (by omega) (by omega) hy, bv_bg hi]
    have hne : ¬ bg d F n i y w = bg d F n i y (b_bi (bg d F n i y) 3) := by
      have := bi_fst (bg d F n i y) 3 w (by omega)
      rw [z_eq]; omega
    rw [show r + 1 + 1 + m = (r + 1 + m) + 1 by omega]
    refine Eq.trans ?_ e2
    show g_157_94b _ _ _ _ _ _ _ _ = _
    unfold g_157_94b
    simp only [e1, e_bd, e_bdn, e_st, e_li, e_bs, e_opn, e_ops, e_ob, e_vo, e_ia, e_eq, e_ne, e_lt, e_ge, e_gt, e_le, cond_true, cond_false, Bool.cond_decide, show (4 : Int32) * Int32.ofNat (i) + Int32.ofNat (y) = Int32.ofNat (4 * (i) + y) by rw [show (4 : Int32) = Int32.ofNat 4 from rfl, o_mul, o_add], show a_in (Int32.ofNat (4 * i + y)) 36 = true by rw [o_in (by omega)]; simp; omega, o_cl (show 4 * i + y < 2147483648 by omega), h7, hne, if_false, show Int32.ofNat (w) + 1 = Int32.ofNat (w + 1) from o_add (q := 1)]
theorem bp_lt {n y0 : Nat} (h : y0 < 4) : ∀ i, bp d F n y0 i < 4 := by
  intro i
  cases i with
  | zero => exact h
  | succ i =>
    have := bi_le (bg d F n i (bp d F n y0 i)) 3
    show b_bi _ 3 < 4
    omega
theorem m_be5 (hN : 200 ≤ N) (hd : d_ok d) {n k y0 : Nat} (hn : n ≤ 8) (hk : k < n) (hy0 : y0 < 4) {A0 : mS} {m : Nat} : ∀ (r i : Nat) (A : mS), i + r = k + 1 → MS A d F → fr [3, 4] A0 A → DP (A0 7) d F n 0 → ∃ A', g_157_89 N (r + 1 + m) (Int32.ofNat k) (Int32.ofNat (bp d F n y0 i)) (Int32.ofNat i) A = some (Int32.ofNat (bp d F n y0 (k + 1)), A') ∧ fr [3, 4] A0 A' := by
  intro r
  induction r with
  | zero =>
    intro i A hi hM hf hD
    obtain rfl : i = k + 1 := by omega
    refine ⟨A, ?_, hf⟩
    rw [show 0 + 1 + m = m + 1 by omega]
    show g_157_89b _ _ _ _ _ _ = _
    unfold g_157_89b
    simp only [e_bd, e_bdn, e_st, e_li, e_bs, e_opn, e_ops, e_ob, e_vo, e_ia, e_eq, e_ne, e_lt, e_ge, e_gt, e_le, cond_true, cond_false, Bool.cond_decide, show Int32.ofNat k < Int32.ofNat (k + 1) by rw [o_lt (by omega) (by omega)]; omega, if_true, m_ofnat_ne (show k < 2147483648 by omega), not_false_eq_true]
  | succ r ih =>
    intro i A hi hM hf hD
    have hb := bi_le (bg d F n i (bp d F n y0 i)) 3
    obtain ⟨A1, e1, f1⟩ := m_be4 (N := N) (rc89 := g_157_89 N (r + 1 + m)) (x2 := Int32.ofNat k) (A0 := A0) (m := N - (b_bi (bg d F n i (bp d F n y0 i)) 3 + 1)) hN hd hn (show i < n by omega) (bp_lt (d := d) (F := F) (n := n) hy0 i) (b_bi (bg d F n i (bp d F n y0 i)) 3) 0 A (by omega) hM hf hD
    rw [show b_bi (bg d F n i (bp d F n y0 i)) 3 + 1 + (N - (b_bi (bg d F n i (bp d F n y0 i)) 3 + 1)) = N by omega] at e1
    obtain ⟨A2, e2, f2⟩ := ih (i + 1) A1 (by omega) (by unfold MS; rw [fr_at f1 (by decide), ← fr_at hf (by decide)]; exact hM) f1 hD
    refine ⟨A2, ?_, f2⟩
    rw [show r + 1 + 1 + m = (r + 1 + m) + 1 by omega]
    refine Eq.trans ?_ (e1.trans e2)
    show g_157_89b _ _ _ _ _ _ = _
    unfold g_157_89b
    simp only [e_bd, e_bdn, e_st, e_li, e_bs, e_opn, e_ops, e_ob, e_vo, e_ia, e_eq, e_ne, e_lt, e_ge, e_gt, e_le, cond_true, cond_false, Bool.cond_decide, show ¬ Int32.ofNat k < Int32.ofNat i by rw [o_lt (by omega) (by omega)]; omega, if_false]
    rfl
theorem m_be0 {n : Nat} (hn : n ≤ 8) {x2 : Int32} {A0 : mS} {m : Nat} : ∀ (r w : Nat) (A : mS), w + r = 4 → fr [7] A0 A → (∀ v, v < w → A 7 (4 * n + v) = 0) → ∃ A', g_157_18 N (r + 1 + m) (Int32.ofNat n) x2 (Int32.ofNat w) A = g_157_36 N N x2 (Int32.ofNat n - 1) A' ∧ fr [7] A0 A' ∧ (∀ v, v < 4 → A' 7 (4 * n + v) = 0) := by
  intro r
  induction r with
  | zero =>
    intro w A hw hf h7
    obtain rfl : w = 4 := by omega
    refine ⟨A, ?_, hf, h7⟩
    rw [show 0 + 1 + m = m + 1 by omega]
    show g_157_18b _ _ _ _ _ _ = _
    unfold g_157_18b
    simp only [e_bd, e_bdn, e_st, e_li, e_bs, e_opn, e_ops, e_ob, e_vo, e_ia, e_eq, e_ne, e_lt, e_ge, e_gt, e_le, cond_true, cond_false, Bool.cond_decide, show (4 : Int32) ≤ Int32.ofNat 4 by decide, if_true]
  | succ r ih =>
    intro w A hw hf h7
    obtain ⟨A1, e1, f1, h1⟩ := ih (w + 1) (va_up A 7 (upd (A 7) (4 * n + w) 0)) (by omega) (fr_up hf (by simp)) (fun v hv => by
      rw [va_up_self]
      by_cases c : v = w
      · subst c; rw [upd_self]
      · rw [upd_ne _ _ (by omega)]; exact h7 v (by omega))
    refine ⟨A1, ?_, f1, h1⟩
    rw [show r + 1 + 1 + m = (r + 1 + m) + 1 by omega]
    refine Eq.trans ?_ e1
    show g_157_18b _ _ _ _ _ _ = _
    unfold g_157_18b
    simp only [e_bd, e_bdn, e_st, e_li, e_bs, e_opn, e_ops, e_ob, e_vo, e_ia, e_eq, e_ne, e_lt, e_ge, e_gt, e_le, cond_true, cond_false, Bool.cond_decide, show ¬ (4 : Int32) ≤ Int32.ofNat (w) by rw [show (4 : Int32) = Int32.ofNat 4 from rfl, o_le (by omega) (by omega)]; omega, if_false, show (4 : Int32) * Int32.ofNat (n) + Int32.ofNat (w) = Int32.ofNat (4 * (n) + w) by rw [show (4 : Int32) = Int32.ofNat 4 from rfl, o_mul, o_add], show a_in (Int32.ofNat (4 * n + w)) 36 = true by rw [o_in (by omega)]; simp; omega, o_cl (show 4 * n + w < 2147483648 by omega), show Int32.ofNat (w) + 1 = Int32.ofNat (w + 1) from o_add (q := 1)]
end Q5
