/-! 66.q3: worse, poor -/
section Q3
variable {N : Nat} {d : dS} {F : fS} {A C : mS} {P : Nat → Option Nat} {vl : Option Nat} {R : List aC}
/-- the days that are worse, as bits -/
def e_wo (d : dS) (F : fS) : Nat → Int64
  | 0 => 0
  | k + 1 => if w_all d (f_ah (e_it d F (k + 1))) (f_ah (e_it d F k)) (f_dy (e_it d F k)) (d_n d) < w_all d (f_nx d (e_it d F k)) (f_ah (e_it d F k)) (f_dy (e_it d F k)) (d_n d) then e_wo d F k ||| ((1 : Int64) <<< (Int32.toInt64 (Int32.ofNat k) &&& 63)) else e_wo d F k
theorem m_wo1 (hN : 200 ≤ N) (hd : d_ok d) {A0 : mS} {n m : Nat} (hn : n ≤ 40) (hk : ∀ k, k ≤ n → f_ok d (e_it d F k)) : ∀ (r k : Nat) (A : mS), k + r = n → EM A0 A d F k → ∃ A', g_164_13 N (r + 1 + m) (Int32.ofNat n) (e_wo d F k) (Int32.ofNat k) A = g_164_13b N (g_164_13 N m) (Int32.ofNat n) (e_wo d F n) (Int32.ofNat n) A' ∧ EM A0 A' d F n := by
  intro r
  induction r with
  | zero =>
    intro k A hkr h
    obtain rfl : k = n := by omega
    refine ⟨A, ?_, h⟩
    rw [show 0 + 1 + m = m + 1 by omega]
    rfl
  | succ r ih =>
    intro k A hkr h
    have hf := hk k (by omega)
    have e0 := m_fn (N := N) hd hf h.1
    obtain ⟨A1, e1, m1, i14, -, -, -⟩ := m_evn hN hd hf h
    obtain ⟨A2, e2, f2⟩ := m_wall (w := f_ah (e_it d F (k + 1))) (y := f_ah (e_it d F k)) (dy := f_dy (e_it d F k)) hN hd m1.1.1
    have m2 := EM_fr m1 f2 (by simp)
    obtain ⟨A3, e3, f3⟩ := m_wall (w := f_nx d (e_it d F k)) (y := f_ah (e_it d F k)) (dy := f_dy (e_it d F k)) hN hd m2.1.1
    have m3 := EM_fr m2 f3 (by simp)
    obtain ⟨A4, e4, m4⟩ := ih (k + 1) A3 (by omega) m3
    refine ⟨A4, ?_, m4⟩
    rw [← e4, show r + 1 + 1 + m = (r + 1 + m) + 1 by omega]
    show g_164_13b _ _ _ _ _ _ = _
    unfold g_164_13b
    simp only [e_bd, e_bdn, e_st, e_li, e_bs, e_opn, e_ops, e_ob, e_vo, e_ia, e_eq, e_ne, e_lt, e_ge, e_gt, e_le, cond_true, cond_false, Bool.cond_decide, show ¬ Int32.ofNat (n) ≤ Int32.ofNat (k) by rw [o_le (by omega) (by omega)]; omega, if_false, e0, e1, i14, h.1.2.1, h.1.2.2.1, e2, e3, show Int32.ofNat (k) + 1 = Int32.ofNat (k + 1) from o_add (q := 1), e_wo, Int64.or_zero]
    by_cases c : w_all d (f_ah (e_it d F (k + 1))) (f_ah (e_it d F k)) (f_dy (e_it d F k)) (d_n d) < w_all d (f_nx d (e_it d F k)) (f_ah (e_it d F k)) (f_dy (e_it d F k)) (d_n d)
    · rw [if_neg (by rw [z_lt] at c; rw [z_le]; omega), if_pos c]
    · rw [if_pos (by rw [z_lt] at c; rw [z_le]; omega), if_neg c]
theorem k_wo1 (hN : 200 ≤ N) (hd : d_ok d) {C0 : mS} {n m : Nat} (hn : n ≤ 40) (hk : ∀ k, k ≤ n → f_ok d (e_it d F k)) : ∀ (r k : Nat) (C : mS), k + r = n → CS C P vl R d (e_it d F k) → fr [9, 10, 11, 12, 92] C0 C → ∃ C', k_93_12 N P vl R (r + 1 + m) (Int32.ofNat n) (e_wo d F k) (Int32.ofNat k) C = some (e_wo d F n, C') ∧ fr [9, 10, 11, 12, 92] C0 C' := by
  intro r
  induction r with
  | zero =>
    intro k C hkr h hf0
    obtain rfl : k = n := by omega
    refine ⟨C, ?_, hf0⟩
    rw [show 0 + 1 + m = m + 1 by omega]
    show k_93_12b _ _ _ _ _ _ _ _ _ = _
    unfold k_93_12b
    simp only [e_bd, e_bdn, e_st, e_li, e_bs, e_opn, e_ops, e_ob, e_vo, e_ia, e_eq, e_ne, e_lt, e_ge, e_gt, e_le, cond_true, cond_false, Bool.cond_decide, z_le, Int.le_refl, if_true]
  | succ r ih =>
    intro k C hkr h hf0
    have hf := hk k (by omega)
    obtain ⟨C1, e1, f1, -, o1, s1⟩ := k_open hN hd hf h
    obtain ⟨C2, e2, f2⟩ := k_wnow (w := C1 92 9) hN hd s1
    have s2 := CS12 s1 f2
    have o2 := CO_fr o1 f2 (by decide) (by decide) (by decide)
    have e20 := k_fn (N := N) hd hf s2
    obtain ⟨C3, e3, f3⟩ := k_wnow (w := f_nx d (e_it d F k)) hN hd s2
    have s3 := CS12 s2 f3
    have o3 := CO_fr o2 f3 (by decide) (by decide) (by decide)
    obtain ⟨C4, e4, f4, -, s4⟩ := k_clo hN hd hf s3 o3
    obtain ⟨C5, e5, f5⟩ := ih (k + 1) C4 (by omega) s4 (fr_tr hf0 (fr_tr (fr_mono f1 (by simp)) (fr_tr (fr_mono f2 (by simp)) (fr_tr (fr_mono f3 (by simp)) (fr_mono f4 (by simp))))))
    refine ⟨C5, ?_, f5⟩
    have hso : C1 92 9 = f_ah (e_it d F (k + 1)) := o1.2.2.1
    rw [← e5, show r + 1 + 1 + m = (r + 1 + m) + 1 by omega]
    show k_93_12b _ _ _ _ _ _ _ _ _ = _
    unfold k_93_12b k_93_37
    simp only [e_bd, e_bdn, e_st, e_li, e_bs, e_opn, e_ops, e_ob, e_vo, e_ia, e_eq, e_ne, e_lt, e_ge, e_gt, e_le, cond_true, cond_false, Bool.cond_decide, show ¬ Int32.ofNat (n) ≤ Int32.ofNat (k) by rw [o_le (by omega) (by omega)]; omega, if_false, e1, e2, e20, e3, e4, show Int32.ofNat (k) + 1 = Int32.ofNat (k + 1) from o_add (q := 1), e_wo]
    rw [hso]
    by_cases c : w_all d (f_ah (e_it d F (k + 1))) (f_ah (e_it d F k)) (f_dy (e_it d F k)) (d_n d) < w_all d (f_nx d (e_it d F k)) (f_ah (e_it d F k)) (f_dy (e_it d F k)) (d_n d)
    · rw [if_neg (by rw [z_lt] at c; rw [z_le]; omega), if_pos c]
    · rw [if_pos (by rw [z_lt] at c; rw [z_le]; omega), if_neg c]
theorem q_worse (hN : 200 ≤ N) (hd : d_ok d) (hf : f_ok d F) (hy : (f_dy F).toInt ≤ 99) (hM : MS A d F) (hC : CD C P vl R d) (hW : WF C F) (x1 : Int32) : ∃ r A' C', g_164 N x1 A = some (r, A') ∧ k_93 N P vl R x1 C = some (r, C') ∧ QM A A' ∧ QC C C' := by
  have k1 : (1 : Int32).toInt = 1 := rfl
  have k40 : (40 : Int32).toInt = 40 := rfl
  unfold g_164 k_93
  simp only [m_in, k_run, e_bd, e_bdn, e_st, e_li, e_bs, e_opn, e_ops, e_ob, e_vo, e_ia, e_eq, e_ne, e_lt, e_ge, e_gt, e_le, cond_true, cond_false, Bool.cond_decide, z_le, k1, k40]
  by_cases c1 : 1 ≤ x1.toInt ∧ x1.toInt ≤ 40
  · rw [decide_eq_true c1]
    obtain ⟨n, hn, rfl⟩ := o_ex (x := x1) (n := 41) (by omega) (by omega)
    have hk := days_ok hd hf hy (show n ≤ 40 by omega)
    obtain ⟨A1, e1, f1, h1⟩ := m_keep (A := A) hN
    have M1 : MS A1 d F := MS_fr hM f1 (by decide)
    obtain ⟨A3, e3, m3⟩ := m_wo1 (N := N) (A0 := A1) (F := F) (m := N - (n + 1)) hN hd (show n ≤ 40 by omega) hk n 0 A1 (by omega) (EM_0 M1 fr_rfl (fun _ _ => rfl))
    rw [show n + 1 + (N - (n + 1)) = N by omega] at e3
    obtain ⟨A4, e4, q4, -, -⟩ := m_bck hN m3 (fun j hj => by rw [h1 j hj, fr_at f1 (by decide)])
    obtain ⟨C1, ec1, sc1, fc1⟩ := k_beg (N := N) hC hW
    obtain ⟨C2, ec2, fc2⟩ := k_wo1 (N := N) (C0 := C1) (F := F) (m := N - (n + 1)) hN hd (show n ≤ 40 by omega) hk n 0 C1 (by omega) sc1 fr_rfl
    rw [show n + 1 + (N - (n + 1)) = N by omega] at ec2
    have e3' : g_164_13 N N (Int32.ofNat n) 0 0 A1 = _ := e3
    have ec2' : k_93_12 N P vl R N (Int32.ofNat n) 0 0 C1 = _ := ec2
    refine ⟨e_wo d F n, A4, C2, ?_, ?_, QM_tr (QM_fr f1 (by decide) (by decide) (by decide) (by decide)) q4, fr_mono (fr_tr (fr_mono fc1 (T := [9, 10, 11, 12, 92]) (by simp)) fc2) (by simp)⟩
    · simp only [show ¬ b_i true = 0 by decide, not_false_eq_true, if_true, e1, e_bd, e_bdn, e_st, e_li, e_bs, e_opn, e_ops, e_ob, e_vo, e_ia, e_eq, e_ne, e_lt, e_ge, e_gt, e_le, cond_true, cond_false, Bool.cond_decide]
      rw [e3']
      unfold g_164_13b
      simp only [e_bd, e_bdn, e_st, e_li, e_bs, e_opn, e_ops, e_ob, e_vo, e_ia, e_eq, e_ne, e_lt, e_ge, e_gt, e_le, cond_true, cond_false, Bool.cond_decide, z_le, Int.le_refl, if_true, e4]
    · simp only [show ¬ b_i true = 0 by decide, not_false_eq_true, if_true, ec1, e_bd, e_bdn, e_st, e_li, e_bs, e_opn, e_ops, e_ob, e_vo, e_ia, e_eq, e_ne, e_lt, e_ge, e_gt, e_le, cond_true, cond_false, Bool.cond_decide]
      exact ec2'
  · rw [decide_eq_false c1]
    exact ⟨_, A, C, by simp only [show b_i false = 0 from rfl, not_true, if_false]; rfl, by simp only [show b_i false = 0 from rfl, not_true, if_false], QM_rfl, fr_rfl⟩
/-- those to whom w has worth, of the first m, as bits -/
def p_gl (d : dS) (w y dy : Int32) : Nat → Int32
  | 0 => 0
  | p + 1 => if 0 < w_at d p w y dy then p_gl d w y dy p ||| ((1 : Int32) <<< (Int32.ofNat p &&& 31)) else p_gl d w y dy p
def p_ri (d : dS) (F : fS) : Nat → Int32
  | 0 => 0
  | k + 1 => p_ri d F k ||| p_gl d (f_ah (e_it d F (k + 1))) (f_ah (e_it d F k)) (f_dy (e_it d F k)) (d_n d)
/-- all worth to p of what was sold in k days -/
def p_ta (d : dS) (F : fS) (p : Nat) : Nat → Int32
  | 0 => 0
  | k + 1 => p_ta d F p k + w_at d p (f_ah (e_it d F (k + 1))) (f_ah (e_it d F k)) (f_dy (e_it d F k))
theorem i_or_as (a b c : Int32) : a ||| (b ||| c) = (a ||| b) ||| c := by
  apply k_ext
  simp only [Int32.toBitVec_or, BitVec.or_assoc]
theorem i_or_0 (a : Int32) : a ||| 0 = a := by
  apply k_ext
  simp only [Int32.toBitVec_or, show (0 : Int32).toBitVec = 0#32 from rfl, BitVec.or_zero]
theorem i_0_or (a : Int32) : 0 ||| a = a := by
  apply k_ext
  simp only [Int32.toBitVec_or, show (0 : Int32).toBitVec = 0#32 from rfl, BitVec.zero_or]
theorem i_not_or (a b c : Int32) : (a &&& (b ^^^ -1)) &&& (c ^^^ -1) = a &&& ((b ||| c) ^^^ -1) := by
  apply k_ext
  simp only [Int32.toBitVec_or, Int32.toBitVec_and, Int32.toBitVec_xor]
  apply BitVec.eq_of_getLsbD_eq
  intro i hi
  have h1 : ((-1 : Int32).toBitVec).getLsbD i = true := by
    rw [show (-1 : Int32).toBitVec = BitVec.allOnes 32 by decide, BitVec.getLsbD_allOnes]
    simpa using hi
  simp only [BitVec.getLsbD_and, BitVec.getLsbD_or, BitVec.getLsbD_xor, h1]
  cases a.toBitVec.getLsbD i <;> cases b.toBitVec.getLsbD i <;> cases c.toBitVec.getLsbD i <;> rfl
theorem m_po1 (hN : 200 ≤ N) (hd : d_ok d) {k : Nat} {x1 x2 x3 x4 : Int32} {rc : Int32 → Int32 → Int32 → Int32 → mS → Option (Int32 × mS)} {A0 : mS} {m : Nat} : ∀ (r p : Nat) (A : mS), p + r = d_n d → EM A0 A d F (k + 1) → (∀ q, q < d_n d → A 8 q = if q < p then p_ta d F q (k + 1) else p_ta d F q k) → ∃ A', g_163_49 N rc (r + 1 + m) x1 x2 (x3 ||| p_gl d (f_ah (e_it d F (k + 1))) (f_ah (e_it d F k)) (f_dy (e_it d F k)) p) x4 (f_ah (e_it d F k)) (f_dy (e_it d F k)) (Int32.ofNat p) A = rc x1 x2 (x3 ||| p_gl d (f_ah (e_it d F (k + 1))) (f_ah (e_it d F k)) (f_dy (e_it d F k)) (d_n d)) (x4 + 1) A' ∧ EM A0 A' d F (k + 1) ∧ (∀ q, q < d_n d → A' 8 q = p_ta d F q (k + 1)) := by
  have hn := hd.2.2.2.1
  intro r
  induction r with
  | zero =>
    intro p A hp h h8
    obtain rfl : p = d_n d := by omega
    refine ⟨A, ?_, h, fun q hq => by rw [h8 q hq, if_pos hq]⟩
    rw [show 0 + 1 + m = m + 1 by omega]
    show g_163_49b _ _ _ _ _ _ _ _ _ _ _ = _
    unfold g_163_49b
    simp only [e_bd, e_bdn, e_st, e_li, e_bs, e_opn, e_ops, e_ob, e_vo, e_ia, e_eq, e_ne, e_lt, e_ge, e_gt, e_le, cond_true, cond_false, Bool.cond_decide, h.1.1.2.1, z_le, Int.le_refl, if_true]
  | succ r ih =>
    intro p A hp h h8
    obtain ⟨A1, e1, f1⟩ := mw_worth (N := N) (w := f_ah (e_it d F (k + 1))) (y := f_ah (e_it d F k)) (dy := f_dy (e_it d F k)) hN hd.1 hn h.1.1 (show p < d_n d by omega)
    have m1 := EM_fr h f1 (by simp)
    have h8p : A1 8 p = p_ta d F p k := by rw [fr_at f1 (by decide), h8 p (by omega), if_neg (by omega)]
    generalize hA2 : va_up A1 8 (upd (A1 8) p (p_ta d F p (k + 1))) = A2
    have f2 : fr [8] A1 A2 := by rw [← hA2]; exact fr_up fr_rfl (by simp)
    have m2 := EM_fr m1 f2 (by simp)
    obtain ⟨A3, e3, m3, h3⟩ := ih (p + 1) A2 (by omega) m2 (by
      intro q hq
      rw [← hA2, va_up_self]
      by_cases c : q = p
      · subst c; rw [upd_self, if_pos (by omega)]
      · rw [upd_ne _ _ c, fr_at f1 (by decide), h8 q hq]
        by_cases c2 : q < p
        · rw [if_pos c2, if_pos (by omega)]
        · rw [if_neg c2, if_neg (by omega)])
    refine ⟨A3, ?_, m3, h3⟩
    rw [← e3, show r + 1 + 1 + m = (r + 1 + m) + 1 by omega]
    show g_163_49b _ _ _ _ _ _ _ _ _ _ _ = _
    unfold g_163_49b
    have e8 : p_ta d F p k + w_at d p (f_ah (e_it d F (k + 1))) (f_ah (e_it d F k)) (f_dy (e_it d F k)) = p_ta d F p (k + 1) := rfl
    simp only [e_bd, e_bdn, e_st, e_li, e_bs, e_opn, e_ops, e_ob, e_vo, e_ia, e_eq, e_ne, e_lt, e_ge, e_gt, e_le, cond_true, cond_false, Bool.cond_decide, h.1.1.2.1, show ¬ Int32.ofNat (d_n d) ≤ Int32.ofNat (p) by rw [o_le (by omega) (by omega)]; omega, if_false, h.2.2.2.2 (by omega), e1, show a_in (Int32.ofNat (p)) 8 = true by rw [o_in (by omega)]; simp; omega, o_cl (show p < 2147483648 by omega), h8p, e8, hA2, show Int32.ofNat (p) + 1 = Int32.ofNat (p + 1) from o_add (q := 1), p_gl, i_or_0]
    by_cases c : 0 < w_at d p (f_ah (e_it d F (k + 1))) (f_ah (e_it d F k)) (f_dy (e_it d F k))
    · rw [if_neg (by rw [z_lt] at c; rw [z_le]; omega), if_pos c, i_or_as]
    · rw [if_pos (by rw [z_lt] at c; rw [z_le]; omega), if_neg c]
theorem m_po2 (hN : 200 ≤ N) (hd : d_ok d) {A0 : mS} {x2 : Int32} {n m : Nat} (hn : n ≤ 40) (hk : ∀ k, k ≤ n → f_ok d (e_it d F k)) : ∀ (r k : Nat) (A : mS), k + r = n → EM A0 A d F k → (∀ q, q < d_n d → A 8 q = p_ta d F q k) → ∃ A', g_163_32 N (r + 1 + m) (Int32.ofNat n) x2 (p_ri d F k) (Int32.ofNat k) A = g_163_32b N (g_163_32 N m) (Int32.ofNat n) x2 (p_ri d F n) (Int32.ofNat n) A' ∧ EM A0 A' d F n ∧ (∀ q, q < d_n d → A' 8 q = p_ta d F q n) := by
  have hn8 := hd.2.2.2.1
  intro r
  induction r with
  | zero =>
    intro k A hkr h h8
    obtain rfl : k = n := by omega
    refine ⟨A, ?_, h, h8⟩
    rw [show 0 + 1 + m = m + 1 by omega]
    rfl
  | succ r ih =>
    intro k A hkr h h8
    have hf := hk k (by omega)
    obtain ⟨A1, e1, m1, -, -, -, g1⟩ := m_evn hN hd hf h
    obtain ⟨A2, e2, m2, h2⟩ := m_po1 (N := N) (k := k) (x1 := Int32.ofNat n) (x2 := x2) (x3 := p_ri d F k) (x4 := Int32.ofNat k) (rc := g_163_32 N (r + 1 + m)) (m := N - (d_n d + 1)) hN hd (d_n d) 0 A1 (by omega) m1 (fun q hq => by rw [if_neg (by omega), fr_at g1 (by decide)]; exact h8 q hq)
    rw [show d_n d + 1 + (N - (d_n d + 1)) = N by omega] at e2
    obtain ⟨A3, e3, m3, h3⟩ := ih (k + 1) A2 (by omega) m2 h2
    refine ⟨A3, ?_, m3, h3⟩
    rw [← e3, show r + 1 + 1 + m = (r + 1 + m) + 1 by omega]
    show g_163_32b _ _ _ _ _ _ _ = _
    unfold g_163_32b
    simp only [e_bd, e_bdn, e_st, e_li, e_bs, e_opn, e_ops, e_ob, e_vo, e_ia, e_eq, e_ne, e_lt, e_ge, e_gt, e_le, cond_true, cond_false, Bool.cond_decide, show ¬ Int32.ofNat (n) ≤ Int32.ofNat (k) by rw [o_le (by omega) (by omega)]; omega, if_false, e1, h.1.2.1, h.1.2.2.1]
    rw [show Int32.ofNat (k) + 1 = Int32.ofNat (k + 1) from o_add (q := 1)] at e2
    rw [show p_ri d F k = p_ri d F k ||| p_gl d (f_ah (e_it d F (k + 1))) (f_ah (e_it d F k)) (f_dy (e_it d F k)) 0 from (i_or_0 _).symm]
    exact e2
theorem k_po1 (hN : 200 ≤ N) (hd : d_ok d) (hf : f_ok d F) {T : Nat → Int32} {C0 : mS} {m : Nat} : ∀ (r p : Nat) (C : mS), p + r = d_n d → CS C P vl R d F → CO C d F (b_all d F) → fr [12, 14] C0 C → (∀ q, q < d_n d → C 14 q = if q < p then T q + w_at d q (b_so d F (b_all d F)) (f_ah F) (f_dy F) else T q) → ∃ C', k_109_4 N P vl R (r + 1 + m) (p_gl d (b_so d F (b_all d F)) (f_ah F) (f_dy F) p) (Int32.ofNat p) C = some (p_gl d (b_so d F (b_all d F)) (f_ah F) (f_dy F) (d_n d), C') ∧ fr [12, 14] C0 C' ∧ (∀ q, q < d_n d → C' 14 q = T q + w_at d q (b_so d F (b_all d F)) (f_ah F) (f_dy F)) := by
  have hn := hd.2.2.2.1
  intro r
  induction r with
  | zero =>
    intro p C hp s o hf0 h14
    obtain rfl : p = d_n d := by omega
    refine ⟨C, ?_, hf0, fun q hq => by rw [h14 q hq, if_pos hq]⟩
    rw [show 0 + 1 + m = m + 1 by omega]
    show k_109_4b _ _ _ _ _ _ _ _ = _
    unfold k_109_4b
    simp only [e_bd, e_bdn, e_st, e_li, e_bs, e_opn, e_ops, e_ob, e_vo, e_ia, e_eq, e_ne, e_lt, e_ge, e_gt, e_le, cond_true, cond_false, Bool.cond_decide, s.1.2.1, z_le, Int.le_refl, if_true]
  | succ r ih =>
    intro p C hp s o hf0 h14
    obtain ⟨C1, e1, f1⟩ := k_wt (w := b_so d F (b_all d F)) hN hd s (show p < d_n d by omega)
    have h14p : C1 14 p = T p := by rw [fr_at f1 (by decide), h14 p (by omega), if_neg (by omega)]
    generalize hC2 : va_up C1 14 (upd (C1 14) p (T p + w_at d p (b_so d F (b_all d F)) (f_ah F) (f_dy F))) = C2
    have f2 : fr [12, 14] C C2 := by rw [← hC2]; exact fr_up (fr_mono f1 (by simp)) (by simp)
    obtain ⟨C3, e3, f3, h3⟩ := ih (p + 1) C2 (by omega) (CS_fr s f2 (by decide) (by decide) (by decide) (by decide) (by decide)) (CO_fr o f2 (by decide) (by decide) (by decide)) (fr_tr hf0 f2) (by
      intro q hq
      rw [← hC2, va_up_self]
      by_cases c : q = p
      · subst c; rw [upd_self, if_pos (by omega)]
      · rw [upd_ne _ _ c, fr_at f1 (by decide), h14 q hq]
        by_cases c2 : q < p
        · rw [if_pos c2, if_pos (by omega)]
        · rw [if_neg c2, if_neg (by omega)])
    refine ⟨C3, ?_, f3, h3⟩
    rw [← e3, show r + 1 + 1 + m = (r + 1 + m) + 1 by omega]
    show k_109_4b _ _ _ _ _ _ _ _ = _
    unfold k_109_4b
    have e8 : w_now d F p (b_so d F (b_all d F)) = w_at d p (b_so d F (b_all d F)) (f_ah F) (f_dy F) := rfl
    simp only [e_bd, e_bdn, e_st, e_li, e_bs, e_opn, e_ops, e_ob, e_vo, e_ia, e_eq, e_ne, e_lt, e_ge, e_gt, e_le, cond_true, cond_false, Bool.cond_decide, s.1.2.1, show ¬ Int32.ofNat (d_n d) ≤ Int32.ofNat (p) by rw [o_le (by omega) (by omega)]; omega, if_false, o.2.2.1, e1, e8, show a_in (Int32.ofNat (p)) 8 = true by rw [o_in (by omega)]; simp; omega, o_cl (show p < 2147483648 by omega), h14p, hC2, show Int32.ofNat (p) + 1 = Int32.ofNat (p + 1) from o_add (q := 1), p_gl]
    by_cases c : 0 < w_at d p (b_so d F (b_all d F)) (f_ah F) (f_dy F)
    · rw [if_neg (by rw [z_lt] at c; rw [z_le]; omega), if_pos c]
    · rw [if_pos (by rw [z_lt] at c; rw [z_le]; omega), if_neg c]
theorem k_po2 (hN : 200 ≤ N) (hd : d_ok d) {C0 : mS} {x2 M : Int32} {n m : Nat} (hn : n ≤ 40) (hk : ∀ k, k ≤ n → f_ok d (e_it d F k)) : ∀ (r k : Nat) (C : mS), k + r = n → CS C P vl R d (e_it d F k) → fr [9, 10, 11, 12, 14, 92] C0 C → (∀ q, q < d_n d → C 14 q = p_ta d F q k) → ∃ C', k_92_39 N P vl R (r + 1 + m) (Int32.ofNat n) x2 (M &&& (p_ri d F k ^^^ -1)) (Int32.ofNat k) C = k_92_39b N P vl R (k_92_39 N P vl R m) (Int32.ofNat n) x2 (M &&& (p_ri d F n ^^^ -1)) (Int32.ofNat n) C' ∧ CS C' P vl R d (e_it d F n) ∧ fr [9, 10, 11, 12, 14, 92] C0 C' ∧ (∀ q, q < d_n d → C' 14 q = p_ta d F q n) := by
  have hn8 := hd.2.2.2.1
  intro r
  induction r with
  | zero =>
    intro k C hkr h hf0 h14
    obtain rfl : k = n := by omega
    refine ⟨C, ?_, h, hf0, h14⟩
    rw [show 0 + 1 + m = m + 1 by omega]
    rfl
  | succ r ih =>
    intro k C hkr h hf0 h14
    have hf := hk k (by omega)
    obtain ⟨C1, e1, f1, -, o1, s1⟩ := k_open hN hd hf h
    obtain ⟨C2, e2, f2, h2⟩ := k_po1 (N := N) (C0 := C1) (T := fun q => p_ta d F q k) (m := N - (d_n d + 1)) hN hd hf (d_n d) 0 C1 (by omega) s1 o1 fr_rfl (fun q hq => by rw [if_neg (by omega), fr_at f1 (by decide)]; exact h14 q hq)
    rw [show d_n d + 1 + (N - (d_n d + 1)) = N by omega] at e2
    have s2 := CS_fr s1 f2 (by decide) (by decide) (by decide) (by decide) (by decide)
    have o2 := CO_fr o1 f2 (by decide) (by decide) (by decide)
    obtain ⟨C3, e3, f3, -, s3⟩ := k_clo hN hd hf s2 o2
    obtain ⟨C4, e4, s4, f4, h4⟩ := ih (k + 1) C3 (by omega) s3 (fr_tr hf0 (fr_tr (fr_mono f1 (by simp)) (fr_tr (fr_mono f2 (by simp)) (fr_mono f3 (by simp))))) (fun q hq => by rw [fr_at f3 (by decide), h2 q hq]; rfl)
    refine ⟨C4, ?_, s4, f4, h4⟩
    rw [← e4, show r + 1 + 1 + m = (r + 1 + m) + 1 by omega]
    show k_92_39b _ _ _ _ _ _ _ _ _ _ = _
    unfold k_92_39b k_109
    have e2' : k_109_4 N P vl R N 0 0 C1 = _ := e2
    simp only [e_bd, e_bdn, e_st, e_li, e_bs, e_opn, e_ops, e_ob, e_vo, e_ia, e_eq, e_ne, e_lt, e_ge, e_gt, e_le, cond_true, cond_false, Bool.cond_decide, show ¬ Int32.ofNat (n) ≤ Int32.ofNat (k) by rw [o_le (by omega) (by omega)]; omega, if_false, e1, e2', e3, show Int32.ofNat (k) + 1 = Int32.ofNat (k + 1) from o_add (q := 1), i_not_or]
    rfl
end Q3
