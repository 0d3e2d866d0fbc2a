/-! 52.mw: the model's worthOf -/
def b_i (b : Bool) : Int32 := if b then 1 else 0
theorem z_div {x y : Int32} (hx : 0 ≤ x.toInt) (hy : 0 < y.toInt) : (x / y).toInt = x.toInt / y.toInt := by
  have h1 := z_rng x
  have h2 : 0 ≤ x.toInt / y.toInt := Int.ediv_nonneg hx (by omega)
  have h3 : x.toInt / y.toInt ≤ x.toInt := Int.ediv_le_self _ hx
  rw [Int32.toInt_div, Int.tdiv_eq_ediv_of_nonneg hx, Int.bmod_eq_of_le] <;> omega
theorem o_div {p q : Nat} (hp : p < 2147483648) (hq : q < 2147483648) (h0 : 0 < q) : Int32.ofNat p / Int32.ofNat q = Int32.ofNat (p / q) := by
  have : p / q ≤ p := Nat.div_le_self p q
  rw [z_eq, z_div (by rw [z_ofNat hp]; omega) (by rw [z_ofNat hq]; omega), z_ofNat hp, z_ofNat hq, z_ofNat (by omega)]
  rfl
theorem o_rem {p q : Nat} (hp : p < 2147483648) (hq : q < 2147483648) (h0 : 0 < q) : Int32.ofNat p - Int32.ofNat p / Int32.ofNat q * Int32.ofNat q = Int32.ofNat (p % q) := by
  have h1 : p / q * q ≤ p := Nat.div_mul_le_self p q
  rw [o_div hp hq h0, o_mul, o_sub h1]
  congr 1
  have := Nat.div_add_mod p q
  rw [Nat.mul_comm] at this
  omega
/-- the model's row of truths holds the stack -/
def tr (T : Nat → Int32) (st : List Bool) : Prop := ∀ i, i < st.length → T i = b_i (st.getD (st.length - 1 - i) false)
theorem tr_push {T : Nat → Int32} {st : List Bool} (b : Bool) (h : tr T st) : tr (upd T st.length (b_i b)) (b :: st) := by
  intro i hi
  simp only [List.length_cons] at hi ⊢
  by_cases e : i = st.length
  · subst e
    simp [upd]
  · rw [upd_ne _ _ e, h i (by omega)]
    have : st.length + 1 - 1 - i = (st.length - 1 - i) + 1 := by omega
    rw [this]
    rfl
theorem tr_top {T : Nat → Int32} {st : List Bool} {b c : Bool} (h : tr T (b :: st)) : tr (upd T st.length (b_i c)) (c :: st) := by
  have h2 : tr T st := by
    intro i hi
    have := h i (by simp only [List.length_cons]; omega)
    rw [this]
    simp only [List.length_cons]
    have : st.length + 1 - 1 - i = (st.length - 1 - i) + 1 := by omega
    rw [this]
    rfl
  exact tr_push c h2
theorem tr_tl {T : Nat → Int32} {st : List Bool} {b : Bool} (h : tr T (b :: st)) : tr T st := by
  intro i hi
  have := h i (by simp only [List.length_cons]; omega)
  rw [this]
  simp only [List.length_cons]
  have : st.length + 1 - 1 - i = (st.length - 1 - i) + 1 := by omega
  rw [this]
  rfl
theorem tr_hd {T : Nat → Int32} {st : List Bool} {b : Bool} (h : tr T (b :: st)) : T st.length = b_i b := by
  have := h st.length (by simp)
  rw [this]
  simp
theorem b_i0 {b : Bool} : (b_i b = 0) ↔ b = false := by cases b <;> decide
section MW
variable {N : Nat} {rc : Int32 → Int32 → Int32 → Int32 → Int32 → mS → Option (Int32 × mS)} {x5 x6 x7 x9 : Int32} {A : mS}
theorem mw_test {w h v k : Nat} (hge : ¬ x7 + x6 ≤ x9) (hin : a_in x9 947 = true) (hA : A 0 x9.toNatClampNeg = t_m (0, w, h, v)) (hw : w < 5) (hh : h < 3) (hv : v < 100) (hk : k < 64) :
    g_133_51b N rc x5 x6 x7 (Int32.ofNat k) x9 A = rc x5 x6 x7 (Int32.ofNat (k + 1)) (x9 + 1) (va_up A 4 (upd (A 4) k (b_i (tst (A 3) (0, w, h, v))))) := by
  have e0 : t_m (0, w, h, v) = Int32.ofNat (w + 8 * h + 32 * v) := rfl
  have hb : w + 8 * h + 32 * v < 2147483648 := by omega
  have e1 : ¬ Int32.ofNat (w + 8 * h + 32 * v) < 0 := by
    rw [show (0 : Int32) = Int32.ofNat 0 from rfl, o_lt hb (by omega)]; omega
  have e2 : Int32.ofNat (w + 8 * h + 32 * v) - Int32.ofNat (w + 8 * h + 32 * v) / 8 * 8 = Int32.ofNat w := by
    rw [show (8 : Int32) = Int32.ofNat 8 from rfl, o_rem hb (by omega) (by omega)]; congr 1; omega
  have e3 : Int32.ofNat (w + 8 * h + 32 * v) / 8 - Int32.ofNat (w + 8 * h + 32 * v) / 8 / 4 * 4 = Int32.ofNat h := by
    rw [show (8 : Int32) = Int32.ofNat 8 from rfl, show (4 : Int32) = Int32.ofNat 4 from rfl, o_div hb (by omega) (by omega), o_rem (by omega) (by omega) (by omega)]; congr 1; omega
  have e4 : Int32.ofNat (w + 8 * h + 32 * v) / 32 = Int32.ofNat v := by
    rw [show (32 : Int32) = Int32.ofNat 32 from rfl, o_div hb (by omega) (by omega)]; congr 1; omega
  have e5 : a_in (Int32.ofNat w) 5 = true := by rw [o_in (by omega)]; simpa using hw
  have e6 : a_in (Int32.ofNat k) 64 = true := by rw [o_in (by omega)]; simpa using hk
  have e7 : Int32.ofNat k + 1 = Int32.ofNat (k + 1) := o_add (q := 1)
  unfold g_133_51b
  simp only [e_bd, e_bdn, e_st, e_li, e_bs, e_opn, e_ops, e_ob, e_vo, e_ia, e_eq, e_ne, e_lt, e_ge, e_gt, e_le, cond_true, cond_false, Bool.cond_decide, hge, hin, hA, e0, e1, e2, e3, e4, e5, e6, e7, o_cl (show w < 2147483648 by omega), o_cl (show k < 2147483648 by omega), if_false, if_true, decide_true, decide_false, Bool.or_true, Bool.true_or, Bool.and_true]
  rcases (show h = 0 ∨ h = 1 ∨ h = 2 by omega) with rfl | rfl | rfl
  · simp only [show (Int32.ofNat 0 = 0) from rfl, not_true, if_false, tst, if_true]
    by_cases hc : Int32.ofNat v ≤ A 3 w
    · have hc2 : ¬ A 3 w < Int32.ofNat v := by rw [z_le] at hc; rw [z_lt]; omega
      simp [hc, hc2, b_i]
    · have hc2 : A 3 w < Int32.ofNat v := by rw [z_le] at hc; rw [z_lt]; omega
      simp [hc, hc2, b_i]
  · simp only [show ¬ (Int32.ofNat 1 = 0) by decide, show (Int32.ofNat 1 = 1) from rfl, not_true, not_false_eq_true, if_false, tst, if_true]
    by_cases hc : A 3 w = Int32.ofNat v
    · simp [hc, b_i]
    · simp [hc, b_i]
  · simp only [show ¬ (Int32.ofNat 2 = 0) by decide, show ¬ (Int32.ofNat 2 = 1) by decide, not_true, not_false_eq_true, if_false, tst, if_true]
    by_cases hc : A 3 w ≤ Int32.ofNat v
    · have hc2 : ¬ Int32.ofNat v < A 3 w := by rw [z_le] at hc; rw [z_lt]; omega
      simp [hc, hc2, b_i]
    · have hc2 : Int32.ofNat v < A 3 w := by rw [z_le] at hc; rw [z_lt]; omega
      simp [hc, hc2, b_i]
theorem o_pred {k : Nat} (h : 0 < k) : Int32.ofNat k + -1 = Int32.ofNat (k - 1) := by
  rw [← o_sub (show 1 ≤ k from h), Int32.sub_eq_add_neg]
  rfl
theorem o_pred2 {k : Nat} (h : 0 < k) : Int32.ofNat k - 1 = Int32.ofNat (k - 1) := o_sub (q := 1) h
theorem mw_not {k : Nat} {x : Bool} (hge : ¬ x7 + x6 ≤ x9) (hin : a_in x9 947 = true) (hA : A 0 x9.toNatClampNeg = -1) (h0 : 0 < k) (hk : k ≤ 64) (hx : A 4 (k - 1) = b_i x) :
    g_133_51b N rc x5 x6 x7 (Int32.ofNat k) x9 A = rc x5 x6 x7 (Int32.ofNat k) (x9 + 1) (va_up A 4 (upd (A 4) (k - 1) (b_i (!x)))) := by
  have e6 : a_in (Int32.ofNat (k - 1)) 64 = true := by rw [o_in (by omega)]; simp; omega
  unfold g_133_51b
  simp only [e_bd, e_bdn, e_st, e_li, e_bs, e_opn, e_ops, e_ob, e_vo, e_ia, e_eq, e_ne, e_lt, e_ge, e_gt, e_le, cond_true, cond_false, Bool.cond_decide, hge, hin, hA, o_pred2 h0, e6, o_cl (show k - 1 < 2147483648 by omega), hx, if_false, if_true, decide_true, decide_false, Bool.or_true, Bool.true_or, Bool.and_true, show (-1 : Int32) < 0 by decide, not_true]
  cases x <;> simp [b_i]
theorem mw_and {k : Nat} {x y : Bool} (hge : ¬ x7 + x6 ≤ x9) (hin : a_in x9 947 = true) (hA : A 0 x9.toNatClampNeg = -2) (h0 : 1 < k) (hk : k ≤ 64) (hx : A 4 (k - 1) = b_i x) (hy : A 4 (k - 2) = b_i y) :
    g_133_51b N rc x5 x6 x7 (Int32.ofNat k) x9 A = rc x5 x6 x7 (Int32.ofNat (k - 1)) (x9 + 1) (va_up A 4 (upd (A 4) (k - 2) (b_i (y && x)))) := by
  have e6 : a_in (Int32.ofNat (k - 1)) 64 = true := by rw [o_in (by omega)]; simp; omega
  have e7 : a_in (Int32.ofNat (k - 1 - 1)) 64 = true := by rw [o_in (by omega)]; simp; omega
  have e8 : k - 1 - 1 = k - 2 := by omega
  unfold g_133_51b
  simp only [e_bd, e_bdn, e_st, e_li, e_bs, e_opn, e_ops, e_ob, e_vo, e_ia, e_eq, e_ne, e_lt, e_ge, e_gt, e_le, cond_true, cond_false, Bool.cond_decide, hge, hin, hA, o_pred (show 0 < k by omega), o_pred2 (show 0 < k - 1 by omega), e6, e7, o_cl (show k - 1 < 2147483648 by omega), o_cl (show k - 1 - 1 < 2147483648 by omega), if_false, if_true, decide_true, decide_false, Bool.or_true, Bool.true_or, Bool.and_true, show (-2 : Int32) < 0 by decide, show ¬ (-2 : Int32) = -1 by decide, show ¬ (-2 : Int32) ≤ -10 by decide, not_true, not_false_eq_true]
  simp only [e8, hx, hy]
  cases x <;> cases y <;> simp [b_i]
theorem mw_or {k : Nat} {x y : Bool} (hge : ¬ x7 + x6 ≤ x9) (hin : a_in x9 947 = true) (hA : A 0 x9.toNatClampNeg = -3) (h0 : 1 < k) (hk : k ≤ 64) (hx : A 4 (k - 1) = b_i x) (hy : A 4 (k - 2) = b_i y) :
    g_133_51b N rc x5 x6 x7 (Int32.ofNat k) x9 A = rc x5 x6 x7 (Int32.ofNat (k - 1)) (x9 + 1) (va_up A 4 (upd (A 4) (k - 2) (b_i (y || x)))) := by
  have e6 : a_in (Int32.ofNat (k - 1)) 64 = true := by rw [o_in (by omega)]; simp; omega
  have e7 : a_in (Int32.ofNat (k - 1 - 1)) 64 = true := by rw [o_in (by omega)]; simp; omega
  have e8 : k - 1 - 1 = k - 2 := by omega
  unfold g_133_51b
  simp only [e_bd, e_bdn, e_st, e_li, e_bs, e_opn, e_ops, e_ob, e_vo, e_ia, e_eq, e_ne, e_lt, e_ge, e_gt, e_le, cond_true, cond_false, Bool.cond_decide, hge, hin, hA, o_pred (show 0 < k by omega), o_pred2 (show 0 < k - 1 by omega), e6, e7, o_cl (show k - 1 < 2147483648 by omega), o_cl (show k - 1 - 1 < 2147483648 by omega), if_false, if_true, decide_true, decide_false, Bool.or_true, Bool.true_or, Bool.and_true, show (-3 : Int32) < 0 by decide, show ¬ (-3 : Int32) = -1 by decide, show ¬ (-3 : Int32) ≤ -10 by decide, show ¬ (-3 : Int32) = -2 by decide, not_true, not_false_eq_true]
  simp only [e8, hx, hy]
  cases x <;> cases y <;> simp [b_i]
theorem mw_end {x8 y am : Int32} {b : Bool} (hge : ¬ x7 + x6 ≤ x9) (hin : a_in x9 947 = true) (hA : A 0 x9.toNatClampNeg = y) (h1 : y < 0) (h2 : ¬ y = -1) (h3 : y ≤ -10) (h4 : (¬ y ≤ -200 ∧ -10 - y = am) ∨ (y ≤ -200 ∧ y - -200 = am)) (hx : A 4 0 = b_i b) :
    g_133_51b N rc x5 x6 x7 x8 x9 A = rc (if b then x5 + am else x5) x6 x7 0 (x9 + 1) A := by
  unfold g_133_51b g_133_188
  rcases h4 with ⟨h4, h5⟩ | ⟨h4, h5⟩
  · simp only [e_bd, e_bdn, e_st, e_li, e_bs, e_opn, e_ops, e_ob, e_vo, e_ia, e_eq, e_ne, e_lt, e_ge, e_gt, e_le, cond_true, cond_false, Bool.cond_decide, hge, hin, hA, h1, h2, h3, h4, h5, hx, if_false, if_true, not_false_eq_true]
    cases b
    · simp only [b_i, Bool.false_eq_true, if_false, if_true, Int32.add_zero]
    · simp only [b_i, if_false, if_true, show ¬ (1 : Int32) = 0 by decide]
  · simp only [e_bd, e_bdn, e_st, e_li, e_bs, e_opn, e_ops, e_ob, e_vo, e_ia, e_eq, e_ne, e_lt, e_ge, e_gt, e_le, cond_true, cond_false, Bool.cond_decide, hge, hin, hA, h1, h2, h3, h4, h5, hx, if_false, if_true, not_false_eq_true]
    cases b
    · simp only [b_i, Bool.false_eq_true, if_false, if_true, Int32.add_zero]
    · simp only [b_i, if_false, if_true, show ¬ (1 : Int32) = 0 by decide]
end MW
theorem c_st_z {c : cl} (hc : c.2.2 < 100) : (c_st c).toInt = if c.2.1 then -200 - (c.2.2 : Int) else -10 - (c.2.2 : Int) := by
  have hn : (Int32.ofNat c.2.2).toInt = c.2.2 := z_ofNat (by omega)
  have k10 : (-10 : Int32).toInt = -10 := rfl
  have k200 : (-200 : Int32).toInt = -200 := rfl
  unfold c_st
  split
  · rw [z_sub, hn, k200] <;> omega
  · rw [z_sub, hn, k10] <;> omega
theorem c_am_z {c : cl} (hc : c.2.2 < 100) : (c_am c).toInt = if c.2.1 then -(c.2.2 : Int) else (c.2.2 : Int) := by
  have hn : (Int32.ofNat c.2.2).toInt = c.2.2 := z_ofNat (by omega)
  unfold c_am
  split
  · rw [z_neg, hn]; omega
  · exact hn
theorem c_end {c : cl} (hc : c.2.2 < 100) : c_st c < 0 ∧ ¬ c_st c = -1 ∧ c_st c ≤ -10 ∧ ((¬ c_st c ≤ -200 ∧ -10 - c_st c = c_am c) ∨ (c_st c ≤ -200 ∧ c_st c - -200 = c_am c)) := by
  have h1 := c_st_z hc
  have h2 := c_am_z hc
  have k10 : (-10 : Int32).toInt = -10 := rfl
  have k200 : (-200 : Int32).toInt = -200 := rfl
  have k1 : (-1 : Int32).toInt = -1 := rfl
  have k0 : (0 : Int32).toInt = 0 := rfl
  revert h1 h2
  generalize c_st c = y
  generalize c_am c = a
  generalize (-10 : Int32) = m10 at *
  generalize (-200 : Int32) = m200 at *
  generalize (-1 : Int32) = m1 at *
  generalize (0 : Int32) = m0 at *
  intro h1 h2
  simp only [z_lt, z_eq, z_le]
  split at h1
  · rw [if_pos (by assumption)] at h2
    refine ⟨by omega, by omega, by omega, .inr ⟨by omega, ?_⟩⟩
    rw [z_sub] <;> omega
  · rw [if_neg (by assumption)] at h2
    refine ⟨by omega, by omega, by omega, .inl ⟨by omega, ?_⟩⟩
    rw [z_sub] <;> omega
