/-! 54.kw: the class's worth: bits as a stack -/
theorem k_bv (n : Nat) : (Int32.ofNat n).toBitVec = BitVec.ofNat 32 n := rfl
theorem k_ext {x y : Int32} (h : x.toBitVec = y.toBitVec) : x = y := Int32.toBitVec_inj.mp h
theorem n_or1 (n : Nat) : 2 * n ||| 1 = 2 * n + 1 := by
  apply Nat.eq_of_testBit_eq
  intro i
  cases i with
  | zero => simp [Nat.testBit_or, Nat.testBit_zero]
  | succ i =>
    rw [Nat.testBit_or, Nat.testBit_succ, Nat.testBit_succ, Nat.testBit_succ, show 2 * n / 2 = n by omega, show (2 * n + 1) / 2 = n by omega]
    simp
theorem n_or1b (n : Nat) : (2 * n + 1) ||| 1 = 2 * n + 1 := by
  apply Nat.eq_of_testBit_eq
  intro i
  cases i with
  | zero => simp [Nat.testBit_or, Nat.testBit_zero]
  | succ i =>
    rw [Nat.testBit_or, Nat.testBit_succ, Nat.testBit_succ, show (2 * n + 1) / 2 = n by omega]
    simp
theorem n_xor0 (n : Nat) : (2 * n) ^^^ 1 = 2 * n + 1 := by
  apply Nat.eq_of_testBit_eq
  intro i
  cases i with
  | zero => simp [Nat.testBit_xor, Nat.testBit_zero]
  | succ i =>
    rw [Nat.testBit_xor, Nat.testBit_succ, Nat.testBit_succ, Nat.testBit_succ, show 2 * n / 2 = n by omega, show (2 * n + 1) / 2 = n by omega]
    simp
theorem n_xor1 (n : Nat) : (2 * n + 1) ^^^ 1 = 2 * n := by
  apply Nat.eq_of_testBit_eq
  intro i
  cases i with
  | zero => simp [Nat.testBit_xor, Nat.testBit_zero]
  | succ i =>
    rw [Nat.testBit_xor, Nat.testBit_succ, Nat.testBit_succ, Nat.testBit_succ, show 2 * n / 2 = n by omega, show (2 * n + 1) / 2 = n by omega]
    simp
theorem k_or (a b : Nat) : Int32.ofNat a ||| Int32.ofNat b = Int32.ofNat (a ||| b) := by
  apply k_ext
  rw [Int32.toBitVec_or, k_bv, k_bv, k_bv]
  simp [BitVec.ofNat_or]
theorem k_and (a b : Nat) : Int32.ofNat a &&& Int32.ofNat b = Int32.ofNat (a &&& b) := by
  apply k_ext
  rw [Int32.toBitVec_and, k_bv, k_bv, k_bv]
  simp [BitVec.ofNat_and]
theorem k_xor (a b : Nat) : Int32.ofNat a ^^^ Int32.ofNat b = Int32.ofNat (a ^^^ b) := by
  apply k_ext
  rw [Int32.toBitVec_xor, k_bv, k_bv, k_bv]
  simp [BitVec.ofNat_xor]
theorem k_shl (n : Nat) : Int32.ofNat n <<< ((1 : Int32) &&& 31) = Int32.ofNat (2 * n) := by
  apply k_ext
  rw [Int32.toBitVec_shiftLeft, k_bv, k_bv, show ((1 : Int32) &&& 31).toBitVec.smod 32 = 1#32 by decide]
  apply BitVec.eq_of_toNat_eq
  simp [BitVec.toNat_shiftLeft, Nat.shiftLeft_eq]
  omega
theorem k_shr {n : Nat} (h : n < 2147483648) : Int32.ofNat n >>> ((1 : Int32) &&& 31) = Int32.ofNat (n / 2) := by
  apply k_ext
  rw [Int32.toBitVec_shiftRight, k_bv, k_bv, show ((1 : Int32) &&& 31).toBitVec.smod 32 = 1#32 by decide]
  show (BitVec.ofNat 32 n).sshiftRight 1 = _
  rw [BitVec.sshiftRight_eq_of_msb_false (by simp [BitVec.msb_eq_decide]; omega)]
  apply BitVec.eq_of_toNat_eq
  simp [Nat.shiftRight_eq_div_pow]
  omega
theorem k_clr (m : Nat) : Int32.ofNat m &&& -2 = Int32.ofNat (2 * (m / 2)) := by
  apply k_ext
  rw [Int32.toBitVec_and, k_bv, k_bv, show (-2 : Int32).toBitVec = ~~~(1#32) by decide]
  apply BitVec.eq_of_getLsbD_eq
  intro i hi
  simp only [BitVec.getLsbD_and, BitVec.getLsbD_not, BitVec.getLsbD_ofNat]
  cases i with
  | zero => simp [Nat.testBit_zero]
  | succ i =>
    rw [Nat.testBit_succ, Nat.testBit_succ, Nat.testBit_succ, show 2 * (m / 2) / 2 = m / 2 by omega]
    simp [hi]
def b_n (b : Bool) : Nat := if b then 1 else 0
/-- the stack as a number -/
def s_i : List Bool → Nat
  | [] => 0
  | b :: r => 2 * s_i r + b_n b
theorem s_i_lt : ∀ (st : List Bool), s_i st < 2 ^ st.length := by
  intro st
  induction st with
  | nil => simp [s_i]
  | cons b r ih => simp only [s_i, List.length_cons, Nat.pow_succ]; cases b <;> simp [b_n] <;> omega
theorem s_i_bd {st : List Bool} (h : st.length ≤ 20) : s_i st < 1048577 := by
  have h1 := s_i_lt st
  have h2 : 2 ^ st.length ≤ 2 ^ 20 := Nat.pow_le_pow_right (by omega) h
  omega
section KW
variable {N : Nat} {P : Nat → Option Nat} {vl : Option Nat} {R : List aC} {rc : Nat → Int32 → Int32 → Int32 → mS → Option (Int32 × mS)} {a cr er ar m : Nat} {ru gi x2 x5 : Int32} {C : mS} {fc : Nat → Int32}
theorem kw_test {w h v : Nat} {st : List Bool} (hv0 : vly R a = some (cr, er, ar, ru, gi)) (hi : iar R cr = some (m, fc)) (hge : ¬ x2 ≤ x5) (hin : a_in x5 m = true) (hA : fc x5.toNatClampNeg = t_c (0, w, h, v)) (hw : w < 5) (hh : h < 3) (hv : v < 100) :
    k_66_4b N P vl R rc a x2 (Int32.ofNat (s_i st)) x5 C = rc a x2 (Int32.ofNat (s_i (tst (C 12) (0, w, h, v) :: st))) (x5 + 1) C := by
  have e0 : t_c (0, w, h, v) = Int32.ofNat ((w * 3 + h) * 100 + v) := rfl
  have hb : (w * 3 + h) * 100 + v < 2147483648 := by omega
  have e1 : ¬ Int32.ofNat ((w * 3 + h) * 100 + v) < 0 := by
    rw [show (0 : Int32) = Int32.ofNat 0 from rfl, o_lt hb (by omega)]; omega
  have e2 : Int32.ofNat ((w * 3 + h) * 100 + v) / 300 = Int32.ofNat w := by
    rw [show (300 : Int32) = Int32.ofNat 300 from rfl, o_div hb (by omega) (by omega)]; congr 1; omega
  have e3 : Int32.ofNat ((w * 3 + h) * 100 + v) - Int32.ofNat ((w * 3 + h) * 100 + v) / 100 * 100 = Int32.ofNat v := by
    rw [show (100 : Int32) = Int32.ofNat 100 from rfl, o_rem hb (by omega) (by omega)]; congr 1; omega
  have e4 : Int32.ofNat ((w * 3 + h) * 100 + v) / 100 - Int32.ofNat ((w * 3 + h) * 100 + v) / 100 / 3 * 3 = Int32.ofNat h := by
    rw [show (100 : Int32) = Int32.ofNat 100 from rfl, show (3 : Int32) = Int32.ofNat 3 from rfl, o_div hb (by omega) (by omega), o_rem (by omega) (by omega) (by omega)]; congr 1; omega
  have e5 : a_in (Int32.ofNat w) 5 = true := by rw [o_in (by omega)]; simpa using hw
  have e6 : Int32.ofNat (2 * s_i st) ||| 0 = Int32.ofNat (s_i (false :: st)) := by
    rw [show (0 : Int32) = Int32.ofNat 0 from rfl, k_or]; simp [s_i, b_n]
  have e7 : Int32.ofNat (2 * s_i st) ||| 1 = Int32.ofNat (s_i (true :: st)) := by
    rw [show (1 : Int32) = Int32.ofNat 1 from rfl, k_or, n_or1]; simp [s_i, b_n]
  unfold k_66_4b k_66_35
  simp only [e_bd, e_bdn, e_st, e_li, e_bs, e_opn, e_ops, e_ob, e_vo, e_ia, e_eq, e_ne, e_lt, e_ge, e_gt, e_le, cond_true, cond_false, Bool.cond_decide, hv0, hi, hge, hin, hA, e0, e1, e2, e3, e4, e5, k_shl, e6, e7, o_cl (show w < 2147483648 by omega), if_false, if_true]
  unfold tst
  simp only
  generalize C 12 w = g
  by_cases c1 : Int32.ofNat v ≤ g
  · have c1' : ¬ g < Int32.ofNat v := by rw [z_le] at c1; rw [z_lt]; omega
    by_cases c2 : g ≤ Int32.ofNat v
    · have c3 : g = Int32.ofNat v := by rw [z_le] at c1 c2; rw [z_eq]; omega
      have c2' : ¬ Int32.ofNat v < g := by rw [z_le] at c2; rw [z_lt]; omega
      rcases (show h = 0 ∨ h = 1 ∨ h = 2 by omega) with rfl | rfl | rfl <;> simp [c1, c2, c3, c1', c2'] <;> simp [show ¬ (Int32.ofNat 0 = 1) by decide, show (Int32.ofNat 1 = 1) from rfl, show ¬ (Int32.ofNat 2 = 1) by decide]
    · have c3 : ¬ g = Int32.ofNat v := by rw [z_le] at c1 c2; rw [z_eq]; omega
      have c2' : Int32.ofNat v < g := by rw [z_le] at c2; rw [z_lt]; omega
      rcases (show h = 0 ∨ h = 1 ∨ h = 2 by omega) with rfl | rfl | rfl <;> simp [c1, c2, c3, c1', c2'] <;> simp [show ¬ (Int32.ofNat 0 = 2) by decide, show ¬ (Int32.ofNat 1 = 2) by decide, show (Int32.ofNat 2 = 2) from rfl]
  · have c1' : g < Int32.ofNat v := by rw [z_le] at c1; rw [z_lt]; omega
    have c3 : ¬ g = Int32.ofNat v := by rw [z_le] at c1; rw [z_eq]; omega
    have c2' : ¬ Int32.ofNat v < g := by rw [z_le] at c1; rw [z_lt]; omega
    rcases (show h = 0 ∨ h = 1 ∨ h = 2 by omega) with rfl | rfl | rfl <;> simp [c1, c3, c1', c2'] <;> simp [show (Int32.ofNat 0 = 0) from rfl, show ¬ (Int32.ofNat 1 = 0) by decide, show ¬ (Int32.ofNat 2 = 0) by decide]
theorem kw_not {st : List Bool} {x : Bool} (hv0 : vly R a = some (cr, er, ar, ru, gi)) (hi : iar R cr = some (m, fc)) (hge : ¬ x2 ≤ x5) (hin : a_in x5 m = true) (hA : fc x5.toNatClampNeg = -1) :
    k_66_4b N P vl R rc a x2 (Int32.ofNat (s_i (x :: st))) x5 C = rc a x2 (Int32.ofNat (s_i ((!x) :: st))) (x5 + 1) C := by
  have e : Int32.ofNat (s_i (x :: st)) ^^^ 1 = Int32.ofNat (s_i ((!x) :: st)) := by
    rw [show (1 : Int32) = Int32.ofNat 1 from rfl, k_xor]
    cases x
    · simp [s_i, b_n, n_xor0]
    · simp [s_i, b_n, n_xor1]
  unfold k_66_4b
  simp only [e_bd, e_bdn, e_st, e_li, e_bs, e_opn, e_ops, e_ob, e_vo, e_ia, e_eq, e_ne, e_lt, e_ge, e_gt, e_le, cond_true, cond_false, Bool.cond_decide, hv0, hi, hge, hin, hA, e, show (-1 : Int32) < 0 by decide, not_true, if_false, if_true]
theorem k_low {n : Nat} : Int32.ofNat n &&& 1 = Int32.ofNat (n % 2) := by
  rw [show (1 : Int32) = Int32.ofNat 1 from rfl, k_and, Nat.and_one_is_mod]
theorem kw_and {st : List Bool} {x y : Bool} (hl : (x :: y :: st).length ≤ 20) (hv0 : vly R a = some (cr, er, ar, ru, gi)) (hi : iar R cr = some (m, fc)) (hge : ¬ x2 ≤ x5) (hin : a_in x5 m = true) (hA : fc x5.toNatClampNeg = -2) :
    k_66_4b N P vl R rc a x2 (Int32.ofNat (s_i (x :: y :: st))) x5 C = rc a x2 (Int32.ofNat (s_i ((y && x) :: st))) (x5 + 1) C := by
  have hb := s_i_bd hl
  have e : (Int32.ofNat (s_i (x :: y :: st)) >>> ((1 : Int32) &&& 31)) &&& ((Int32.ofNat (s_i (x :: y :: st)) &&& 1) ||| -2) = Int32.ofNat (s_i ((y && x) :: st)) := by
    rw [k_shr (by omega), k_low]
    cases x
    · rw [show s_i (false :: y :: st) % 2 = 0 by simp [s_i, b_n], show Int32.ofNat 0 ||| -2 = (-2 : Int32) by decide, k_clr]
      congr 1
      cases y <;> simp [s_i, b_n] <;> omega
    · rw [show s_i (true :: y :: st) % 2 = 1 by simp [s_i, b_n], show Int32.ofNat 1 ||| -2 = (-1 : Int32) by decide, Int32.and_neg_one]
      congr 1
      cases y <;> simp [s_i, b_n] <;> omega
  unfold k_66_4b
  simp only [e_bd, e_bdn, e_st, e_li, e_bs, e_opn, e_ops, e_ob, e_vo, e_ia, e_eq, e_ne, e_lt, e_ge, e_gt, e_le, cond_true, cond_false, Bool.cond_decide, hv0, hi, hge, hin, hA, e, show (-2 : Int32) < 0 by decide, show ¬ (-2 : Int32) = -1 by decide, not_true, not_false_eq_true, if_false, if_true]
theorem kw_or {st : List Bool} {x y : Bool} (hl : (x :: y :: st).length ≤ 20) (hv0 : vly R a = some (cr, er, ar, ru, gi)) (hi : iar R cr = some (m, fc)) (hge : ¬ x2 ≤ x5) (hin : a_in x5 m = true) (hA : fc x5.toNatClampNeg = -3) :
    k_66_4b N P vl R rc a x2 (Int32.ofNat (s_i (x :: y :: st))) x5 C = rc a x2 (Int32.ofNat (s_i ((y || x) :: st))) (x5 + 1) C := by
  have hb := s_i_bd hl
  have e : (Int32.ofNat (s_i (x :: y :: st)) >>> ((1 : Int32) &&& 31)) ||| (Int32.ofNat (s_i (x :: y :: st)) &&& 1) = Int32.ofNat (s_i ((y || x) :: st)) := by
    rw [k_shr (by omega), k_low, k_or]
    congr 1
    have e2 : s_i (x :: y :: st) / 2 = 2 * s_i st + b_n y := by cases x <;> simp [s_i, b_n] <;> omega
    rw [e2]
    cases x
    · rw [show s_i (false :: y :: st) % 2 = 0 by simp [s_i, b_n]]
      simp [s_i]
    · rw [show s_i (true :: y :: st) % 2 = 1 by simp [s_i, b_n]]
      cases y
      · simp [s_i, b_n, n_or1]
      · simp [s_i, b_n, n_or1b]
  unfold k_66_4b
  simp only [e_bd, e_bdn, e_st, e_li, e_bs, e_opn, e_ops, e_ob, e_vo, e_ia, e_eq, e_ne, e_lt, e_ge, e_gt, e_le, cond_true, cond_false, Bool.cond_decide, hv0, hi, hge, hin, hA, e, show (-3 : Int32) < 0 by decide, show ¬ (-3 : Int32) = -1 by decide, show ¬ (-3 : Int32) = -2 by decide, not_true, not_false_eq_true, if_false, if_true]
theorem kw_one {t : tk} {st : List Bool} (ht : t_ok t) (hv0 : vly R a = some (cr, er, ar, ru, gi)) (hi : iar R cr = some (m, fc)) (hge : ¬ x2 ≤ x5) (hin : a_in x5 m = true) (hA : fc x5.toNatClampNeg = t_c t) (hl : st.length ≤ 20) (h1 : t.1 = 1 → ∃ x r, st = x :: r) (h2 : 2 ≤ t.1 → ∃ x y r, st = x :: y :: r) :
    k_66_4b N P vl R rc a x2 (Int32.ofNat (s_i st)) x5 C = rc a x2 (Int32.ofNat (s_i (t_do (C 12) t st))) (x5 + 1) C := by
  obtain ⟨op, w, h, v⟩ := t
  obtain ⟨h3, hw, hh, hv⟩ := ht
  simp only at h3 hw hh hv h1 h2
  rcases (show op = 0 ∨ op = 1 ∨ op = 2 ∨ op = 3 by omega) with rfl | rfl | rfl | rfl
  · exact kw_test hv0 hi hge hin hA hw hh hv
  · obtain ⟨x, r, rfl⟩ := h1 rfl
    exact kw_not hv0 hi hge hin hA
  · obtain ⟨x, y, r, rfl⟩ := h2 (by omega)
    exact kw_and hl hv0 hi hge hin hA
  · obtain ⟨x, y, r, rfl⟩ := h2 (by omega)
    exact kw_or hl hv0 hi hge hin hA
end KW
theorem kw_run {N : Nat} {P : Nat → Option Nat} {vl : Option Nat} {R : List aC} {a cr er ar m to k : Nat} {ru gi : Int32} {C : mS} {fc : Nat → Int32} (hv0 : vly R a = some (cr, er, ar, ru, gi)) (hi : iar R cr = some (m, fc)) (hto : to ≤ m) (hm : m < 1000) : ∀ (ts : List tk) (st : List Bool) (i n : Nat), (∀ t, t ∈ ts → t_ok t) → t_dp 20 ts st.length = some k → st.length ≤ 20 → sg fc i (ts.map t_c) → i + ts.length ≤ to →
    k_66_4 N P vl R (n + ts.length) a (Int32.ofNat to) (Int32.ofNat (s_i st)) (Int32.ofNat i) C = k_66_4 N P vl R n a (Int32.ofNat to) (Int32.ofNat (s_i (t_run (C 12) ts st))) (Int32.ofNat (i + ts.length)) C := by
  intro ts
  induction ts with
  | nil => intro st i n _ _ _ _ _; rfl
  | cons t ts ih =>
    intro st i n hok hd hl hs hle
    simp only [List.length_cons] at hle
    have ht : t_ok t := hok t List.mem_cons_self
    obtain ⟨hd2, h0, h1, h2⟩ := t_do_len (b := C 12) ht hd
    have hge : ¬ Int32.ofNat to ≤ Int32.ofNat i := by rw [o_le (by omega) (by omega)]; omega
    have hin : a_in (Int32.ofNat i) m = true := by rw [o_in (by omega)]; simp; omega
    have hA : fc (Int32.ofNat i).toNatClampNeg = t_c t := by rw [o_cl (by omega)]; exact hs.1
    have e1 := kw_one (N := N) (P := P) (vl := vl) (rc := k_66_4 N P vl R (n + ts.length)) (C := C) ht hv0 hi hge hin hA hl h1 h2
    have e2 := ih (t_do (C 12) t st) (i + 1) n (fun t' h' => hok t' (List.mem_cons_of_mem _ h')) hd2 (t_do_le hl h0) hs.2 (by omega)
    rw [show n + (t :: ts).length = (n + ts.length) + 1 by simp; omega]
    show k_66_4b N P vl R (k_66_4 N P vl R (n + ts.length)) _ _ _ _ _ = _
    rw [e1, show Int32.ofNat i + 1 = Int32.ofNat (i + 1) from o_add (q := 1), e2]
    rw [show i + 1 + ts.length = i + (t :: ts).length by simp; omega]
    rfl
theorem kw_holds {N : Nat} (hN : 130 ≤ N) {P : Nat → Option Nat} {vl : Option Nat} {R : List aC} {a cr er ar m i : Nat} {ru gi : Int32} {C : mS} {fc : Nat → Int32} {c : cl} (hv0 : vly R a = some (cr, er, ar, ru, gi)) (hi : iar R cr = some (m, fc)) (hm : m ≤ 120) (hc : c_ok c) (hs : sg fc i (c.1.map t_c)) (hle : i + c.1.length ≤ m) :
    k_66 N P vl R a (Int32.ofNat i) (Int32.ofNat (i + c.1.length)) C = some (b_i (c_ho (C 12) c), C) := by
  obtain ⟨hc1, hc2, -⟩ := hc
  have e1 := kw_run (N := N) (P := P) (vl := vl) (C := C) (to := i + c.1.length) (k := 1) hv0 hi hle (by omega) c.1 [] i (N - c.1.length) hc1 hc2 (by simp) hs (Nat.le_refl _)
  rw [show N - c.1.length + c.1.length = N by omega] at e1
  unfold k_66
  rw [show (0 : Int32) = Int32.ofNat (s_i []) from rfl, e1]
  obtain ⟨n, hn⟩ : ∃ n, N - c.1.length = n + 1 := ⟨N - c.1.length - 1, by omega⟩
  rw [hn]
  show k_66_4b _ _ _ _ _ _ _ _ _ _ = _
  have hlen : ∃ x, t_run (C 12) c.1 [] = [x] := by
    have : (t_run (C 12) c.1 []).length = 1 := by
      have gen : ∀ (ts : List tk) (st : List Bool), (∀ t, t ∈ ts → t_ok t) → t_dp 20 ts st.length = some 1 → (t_run (C 12) ts st).length = 1 := by
        intro ts
        induction ts with
        | nil => intro st _ h; exact Option.some.inj h
        | cons t ts ih => intro st hok h; exact ih _ (fun t' h' => hok t' (List.mem_cons_of_mem _ h')) (t_do_len (hok t List.mem_cons_self) h).1
      exact gen c.1 [] hc1 hc2
    match t_run (C 12) c.1 [], this with
    | [x], _ => exact ⟨x, rfl⟩
  obtain ⟨x, hx⟩ := hlen
  unfold k_66_4b c_ho
  rw [hx]
  simp only [e_bd, e_bdn, e_st, e_li, e_bs, e_opn, e_ops, e_ob, e_vo, e_ia, e_eq, e_ne, e_lt, e_ge, e_gt, e_le, cond_true, cond_false, Bool.cond_decide, z_le, Int.le_refl, if_true]
  cases x
  · rw [if_pos (by decide)]; rfl
  · rw [if_neg (by decide)]; rfl
