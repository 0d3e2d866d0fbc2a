/-! 74.xa: acts and the trace -/
/-- the trace stands alike -/
def TT (A C : mS) (n : Nat) : Prop := n ≤ 1000 ∧ A 99 21 = Int32.ofNat n ∧ C 13 0 = Int32.ofNat n ∧ ∀ j, j < n → j < 20 → A 9 j = C 13 (1 + j)
section XA
variable {N : Nat} {P : Nat → Option Nat} {vl : Option Nat} {R : List aC}
/-- the acting one, as the model holds it, and the class -/
def AK (A : mS) (R : List aC) (a k p v : Nat) : Prop := k ≤ 6 ∧ A 99 22 = Int32.ofNat k ∧ A 99 23 = Int32.ofNat p ∧ A 99 24 = Int32.ofNat v ∧ bdr R a = some (k_cl k, Int32.ofNat k, Int32.ofNat p, Int32.ofNat v)
/-- a step of an act: both give v, the trace is longer -/
def AS (m c : Option (Int32 × mS)) (A C : mS) (n l : Nat) : Prop := ∃ (v : Int32) (A' C' : mS) (n' : Nat), m = some (v, A') ∧ c = some (v, C') ∧ TT A' C' n' ∧ n ≤ n' ∧ n' ≤ n + l ∧ fr [9, 99] A A' ∧ f9 [21] A A' ∧ fr [13] C C'
theorem AK_c {A A' : mS} {a k p v : Nat} (h : AK A R a k p v) (hf : f9 [21] A A') : AK A' R a k p v := by
  unfold AK
  rw [hf 22 (by decide), hf 23 (by decide), hf 24 (by decide)]
  exact h
theorem a_ran {A C : mS} {n : Nat} (h : TT A C n) (hn : n ≤ 900) (b : Int32) : ∃ A' C', g_167 N b A = some (0, A') ∧ k_8 N P vl R b C = some (0, C') ∧ TT A' C' (n + 1) ∧ fr [9, 99] A A' ∧ f9 [21] A A' ∧ fr [13] C C' := by
  obtain ⟨-, h1, h2, h3⟩ := h
  have hz : ¬ Int32.ofNat (n + 1) ≤ 0 := by rw [show (0 : Int32) = Int32.ofNat 0 from rfl, o_le (by omega) (by omega)]; omega
  have hm : ((20 : Int32) ≤ Int32.ofNat n) ↔ 20 ≤ n := by rw [show (20 : Int32) = Int32.ofNat 20 from rfl, o_le (by omega) (by omega)]
  have hc : ((21 : Int32) ≤ Int32.ofNat (n + 1)) ↔ 20 ≤ n := by rw [show (21 : Int32) = Int32.ofNat 21 from rfl, o_le (by omega) (by omega)]; omega
  unfold g_167 k_8
  simp only [e_bd, e_bdn, e_st, e_li, e_bs, e_opn, e_ops, e_ob, e_vo, e_ia, e_eq, e_ne, e_lt, e_ge, e_gt, e_le, cond_true, cond_false, Bool.cond_decide, h1, h2, upd_self, show Int32.ofNat (n) + 1 = Int32.ofNat (n + 1) from o_add (q := 1), hz, if_false, hm, va_up_self, hc]
  by_cases c : 20 ≤ n
  · rw [if_pos c, if_pos c]
    refine ⟨_, _, rfl, rfl, ⟨by omega, by rw [va_up_self, upd_self], by rw [va_up_self, upd_self], ?_⟩, fr_up fr_rfl (by simp), f9_up (fun _ _ => rfl) (by simp), fr_up fr_rfl (by simp)⟩
    intro j hj hj2
    rw [va_up_ne _ _ (by decide), va_up_self, upd_ne _ _ (by omega)]
    exact h3 j (by omega) hj2
  · rw [if_neg c, if_neg c]
    simp only [show a_in (Int32.ofNat (n)) 20 = true by rw [o_in (by omega)]; simp; omega, show a_in (Int32.ofNat (n + 1)) 21 = true by rw [o_in (by omega)]; simp; omega, o_cl (show n < 2147483648 by omega), o_cl (show n + 1 < 2147483648 by omega), e_bd, e_bdn, e_st, e_li, e_bs, e_opn, e_ops, e_ob, e_vo, e_ia, e_eq, e_ne, e_lt, e_ge, e_gt, e_le, cond_true, cond_false, Bool.cond_decide, va_up_ne _ _ (show (99 : Nat) ≠ 9 by decide), h1, show Int32.ofNat (n) + 1 = Int32.ofNat (n + 1) from o_add (q := 1)]
    refine ⟨_, _, rfl, rfl, ⟨by omega, by rw [va_up_self, upd_self], ?_, ?_⟩, fr_up (fr_up fr_rfl (by simp)) (by simp), ?_, fr_up (fr_up fr_rfl (by simp)) (by simp)⟩
    · rw [va_up_self, upd_ne _ _ (by omega), upd_self]
    · intro j hj hj2
      rw [va_up_ne _ _ (by decide), va_up_self, va_up_self]
      by_cases c2 : j = n
      · subst c2; rw [upd_self, show 1 + j = j + 1 by omega, upd_self]
      · rw [upd_ne _ _ c2, upd_ne _ _ (by omega), upd_ne _ _ (by omega)]
        exact h3 j (by omega) hj2
    · intro f hf
      simp at hf
      rw [va_up_self, upd_ne _ _ hf]
/-- Bidder.bids -/
theorem a_pb {A C : mS} {n a k p v : Nat} (h : TT A C n) (hn : n ≤ 900) (hk : AK A R a k p v) (x : Int32) : AS (g_169 N x A) (k_5 N P vl R a x C) A C n 1 := by
  obtain ⟨A1, C1, e1, ec1, t1, f1, p1, fc1⟩ := a_ran (N := N) (P := P) (vl := vl) (R := R) h hn 1
  refine ⟨x + Int32.ofNat p, A1, C1, n + 1, ?_, ?_, t1, by omega, by omega, f1, p1, fc1⟩
  · unfold g_169
    simp only [e1, e_bd, e_bdn, e_st, e_li, e_bs, e_opn, e_ops, e_ob, e_vo, e_ia, e_eq, e_ne, e_lt, e_ge, e_gt, e_le, cond_true, cond_false, Bool.cond_decide, (AK_c hk p1).2.2.1]
  · unfold k_5
    simp only [ec1, e_bd, e_bdn, e_st, e_li, e_bs, e_opn, e_ops, e_ob, e_vo, e_ia, e_eq, e_ne, e_lt, e_ge, e_gt, e_le, cond_true, cond_false, Bool.cond_decide, hk.2.2.2.2, k_cls hk.1]
/-- bids, of any kind -/
def dB (N : Nat) (P : Nat → Option Nat) (vl : Option Nat) (R : List aC) (ci a : Nat) (x : Int32) (C : mS) : Option (Int32 × mS) := if ci = 0 then k_5 N P vl R a x C else if ci = 1 then k_5 N P vl R a x C else if ci = 3 then k_5 N P vl R a x C else if ci = 4 then k_38 N P vl R a x C else if ci = 6 then k_38 N P vl R a x C else if ci = 7 then k_60 N P vl R a x C else if ci = 8 then k_5 N P vl R a x C else none
theorem un1 {k : Nat} (hk : k ≤ 6) : u_un (Int32.ofNat k) 1 = decide (k = 1 ∨ k = 4) := by
  rcases (show k = 0 ∨ k = 1 ∨ k = 2 ∨ k = 3 ∨ k = 4 ∨ k = 5 ∨ k = 6 by omega) with rfl | rfl | rfl | rfl | rfl | rfl | rfl <;> decide
theorem un2 {k : Nat} (hk : k ≤ 6) : u_un (Int32.ofNat k) 2 = decide (k = 2 ∨ k = 5 ∨ k = 6) := by
  rcases (show k = 0 ∨ k = 1 ∨ k = 2 ∨ k = 3 ∨ k = 4 ∨ k = 5 ∨ k = 6 by omega) with rfl | rfl | rfl | rfl | rfl | rfl | rfl <;> decide
theorem a_bids {A C : mS} {n a k p v : Nat} (h : TT A C n) (hn : n ≤ 890) (hk : AK A R a k p v) (x : Int32) : AS (g_170 N x A) (dB N P vl R (k_cl k) a x C) A C n 20 := by
  have hk6 := hk.1
  have hK := hk.2.1
  unfold g_170
  rw [hK, m_un, un1 hk6]
  simp only [e_bd, e_bdn, e_st, e_li, e_bs, e_opn, e_ops, e_ob, e_vo, e_ia, e_eq, e_ne, e_lt, e_ge, e_gt, e_le, cond_true, cond_false, Bool.cond_decide]
  rcases (show (k = 1 ∨ k = 4) ∨ k = 5 ∨ (k = 0 ∨ k = 2 ∨ k = 3 ∨ k = 6) by omega) with c | c | c
  · rw [decide_eq_true c, if_neg (show ¬ b_i true = 0 by decide)]
    obtain ⟨A1, C1, e1, ec1, t1, f1, p1, fc1⟩ := a_ran (N := N) (P := P) (vl := vl) (R := R) h (by omega) 11
    obtain ⟨r, A2, C2, n2, e2, ec2, t2, l1, l2, f2, p2, fc2⟩ := a_pb (N := N) (P := P) (vl := vl) t1 (by omega) (AK_c hk p1) (x * 3)
    have hd : dB N P vl R (k_cl k) a x C = k_38 N P vl R a x C := by rcases c with rfl | rfl <;> rfl
    rw [hd]
    refine ⟨r, A2, C2, n2, ?_, ?_, t2, by omega, by omega, fr_tr f1 f2, f9_tr p1 p2, fr_tr fc1 fc2⟩
    · simp only [e1, e2, e_bd, e_bdn, e_st, e_li, e_bs, e_opn, e_ops, e_ob, e_vo, e_ia, e_eq, e_ne, e_lt, e_ge, e_gt, e_le, cond_true, cond_false, Bool.cond_decide]
    · unfold k_38
      simp only [ec1, hk.2.2.2.2, ec2, e_bd, e_bdn, e_st, e_li, e_bs, e_opn, e_ops, e_ob, e_vo, e_ia, e_eq, e_ne, e_lt, e_ge, e_gt, e_le, cond_true, cond_false, Bool.cond_decide]
  · subst c
    rw [decide_eq_false (by omega), if_pos (show b_i false = 0 from rfl), hK]
    obtain ⟨A1, C1, e1, ec1, t1, f1, p1, fc1⟩ := a_ran (N := N) (P := P) (vl := vl) (R := R) h (by omega) 51
    obtain ⟨r, A2, C2, n2, e2, ec2, t2, l1, l2, f2, p2, fc2⟩ := a_pb (N := N) (P := P) (vl := vl) t1 (by omega) (AK_c hk p1) x
    refine ⟨r ^^^ Int32.ofNat p, A2, C2, n2, ?_, ?_, t2, by omega, by omega, fr_tr f1 f2, f9_tr p1 p2, fr_tr fc1 fc2⟩
    · simp only [show ¬ ¬ Int32.ofNat 5 = 5 by decide, if_false, e1, e2, e_bd, e_bdn, e_st, e_li, e_bs, e_opn, e_ops, e_ob, e_vo, e_ia, e_eq, e_ne, e_lt, e_ge, e_gt, e_le, cond_true, cond_false, Bool.cond_decide, (AK_c (AK_c hk p1) p2).2.2.1]
    · show k_60 N P vl R a x C = _
      unfold k_60
      simp only [ec1, hk.2.2.2.2, ec2, e_bd, e_bdn, e_st, e_li, e_bs, e_opn, e_ops, e_ob, e_vo, e_ia, e_eq, e_ne, e_lt, e_ge, e_gt, e_le, cond_true, cond_false, Bool.cond_decide, k_cls hk6]
  · have hd : dB N P vl R (k_cl k) a x C = k_5 N P vl R a x C := by rcases c with rfl | rfl | rfl | rfl <;> rfl
    rw [decide_eq_false (by omega), if_pos (show b_i false = 0 from rfl), hK, hd, if_pos (show ¬ Int32.ofNat k = 5 by rw [show (5 : Int32) = Int32.ofNat 5 from rfl, o_eq (by omega) (by omega)]; omega)]
    obtain ⟨r, A2, C2, n2, e2, ec2, t2, l1, l2, f2, p2, fc2⟩ := a_pb (N := N) (P := P) (vl := vl) h (by omega) hk x
    exact ⟨r, A2, C2, n2, by simp only [e2, e_bd, e_bdn, e_st, e_li, e_bs, e_opn, e_ops, e_ob, e_vo, e_ia, e_eq, e_ne, e_lt, e_ge, e_gt, e_le, cond_true, cond_false, Bool.cond_decide], ec2, t2, l1, by omega, f2, p2, fc2⟩
/-- Bidder.pays -/
theorem a_pp {A C : mS} {n a k p v : Nat} (h : TT A C n) (hn : n ≤ 800) (hk : AK A R a k p v) (x : Int32) : ∃ (r : Int32) (A' C' : mS) (n' : Nat), g_171 N x A = some (r, A') ∧ k_6 N P vl R a x C = some (r, C') ∧ TT A' C' n' ∧ n ≤ n' ∧ n' ≤ n + 30 ∧ fr [9, 99] A A' ∧ f9 [21] A A' ∧ fr [13] C C' := by
  obtain ⟨A1, C1, e1, ec1, t1, f1, p1, fc1⟩ := a_ran (N := N) (P := P) (vl := vl) (R := R) h (by omega) 2
  obtain ⟨r, A2, C2, n2, e2, ec2, t2, l1, l2, f2, p2, fc2⟩ := a_bids (N := N) (P := P) (vl := vl) t1 (by omega) (AK_c hk p1) x
  unfold dB at ec2
  refine ⟨r - Int32.ofNat v, A2, C2, n2, ?_, ?_, t2, by omega, by omega, fr_tr f1 f2, f9_tr p1 p2, fr_tr fc1 fc2⟩
  · unfold g_171
    simp only [e1, e2, e_bd, e_bdn, e_st, e_li, e_bs, e_opn, e_ops, e_ob, e_vo, e_ia, e_eq, e_ne, e_lt, e_ge, e_gt, e_le, cond_true, cond_false, Bool.cond_decide, (AK_c (AK_c hk p1) p2).2.2.2.1]
  · unfold k_6
    simp only [ec1, hk.2.2.2.2, ec2, e_bd, e_bdn, e_st, e_li, e_bs, e_opn, e_ops, e_ob, e_vo, e_ia, e_eq, e_ne, e_lt, e_ge, e_gt, e_le, cond_true, cond_false, Bool.cond_decide, k_cls hk.1]
/-- League.pays -/
theorem a_lp {A C : mS} {n a k p v : Nat} (h : TT A C n) (hn : n ≤ 790) (hk : AK A R a k p v) (x : Int32) : ∃ (r : Int32) (A' C' : mS) (n' : Nat), g_172 N x A = some (r, A') ∧ k_35 N P vl R a x C = some (r, C') ∧ TT A' C' n' ∧ n ≤ n' ∧ n' ≤ n + 40 ∧ fr [9, 99] A A' ∧ f9 [21] A A' ∧ fr [13] C C' := by
  obtain ⟨A1, C1, e1, ec1, t1, f1, p1, fc1⟩ := a_ran (N := N) (P := P) (vl := vl) (R := R) h (by omega) 21
  obtain ⟨r, A2, C2, n2, e2, ec2, t2, l1, l2, f2, p2, fc2⟩ := a_pp (N := N) (P := P) (vl := vl) t1 (by omega) (AK_c hk p1) x
  refine ⟨-r, A2, C2, n2, ?_, ?_, t2, by omega, by omega, fr_tr f1 f2, f9_tr p1 p2, fr_tr fc1 fc2⟩
  · unfold g_172
    simp only [e1, e2, e_bd, e_bdn, e_st, e_li, e_bs, e_opn, e_ops, e_ob, e_vo, e_ia, e_eq, e_ne, e_lt, e_ge, e_gt, e_le, cond_true, cond_false, Bool.cond_decide]
  · unfold k_35
    simp only [ec1, hk.2.2.2.2, ec2, e_bd, e_bdn, e_st, e_li, e_bs, e_opn, e_ops, e_ob, e_vo, e_ia, e_eq, e_ne, e_lt, e_ge, e_gt, e_le, cond_true, cond_false, Bool.cond_decide]
def dP (N : Nat) (P : Nat → Option Nat) (vl : Option Nat) (R : List aC) (ci a : Nat) (x : Int32) (C : mS) : Option (Int32 × mS) := if ci = 0 then k_6 N P vl R a x C else if ci = 1 then k_6 N P vl R a x C else if ci = 3 then k_35 N P vl R a x C else if ci = 4 then k_6 N P vl R a x C else if ci = 6 then k_6 N P vl R a x C else if ci = 7 then k_35 N P vl R a x C else if ci = 8 then k_63 N P vl R a x C else none
/-- pays, of any kind -/
theorem a_pays {A C : mS} {n a k p v : Nat} (h : TT A C n) (hn : n ≤ 700) (hk : AK A R a k p v) (x : Int32) : ∃ (r : Int32) (A' C' : mS) (n' : Nat), g_173 N x A = some (r, A') ∧ dP N P vl R (k_cl k) a x C = some (r, C') ∧ TT A' C' n' ∧ n ≤ n' ∧ n' ≤ n + 50 ∧ fr [9, 99] A A' ∧ f9 [21] A A' ∧ fr [13] C C' := by
  have hk6 := hk.1
  have hK := hk.2.1
  unfold g_173
  rw [hK, m_un, un2 hk6]
  simp only [e_bd, e_bdn, e_st, e_li, e_bs, e_opn, e_ops, e_ob, e_vo, e_ia, e_eq, e_ne, e_lt, e_ge, e_gt, e_le, cond_true, cond_false, Bool.cond_decide]
  rcases (show k = 6 ∨ (k = 2 ∨ k = 5) ∨ (k = 0 ∨ k = 1 ∨ k = 3 ∨ k = 4) by omega) with c | c | c
  · subst c
    rw [if_neg (show ¬ ¬ Int32.ofNat 6 = 6 by decide)]
    obtain ⟨A1, C1, e1, ec1, t1, f1, p1, fc1⟩ := a_ran (N := N) (P := P) (vl := vl) (R := R) h (by omega) 61
    obtain ⟨r, A2, C2, n2, e2, ec2, t2, l1, l2, f2, p2, fc2⟩ := a_lp (N := N) (P := P) (vl := vl) t1 (by omega) (AK_c hk p1) x
    refine ⟨r + Int32.ofNat v, A2, C2, n2, ?_, ?_, t2, by omega, by omega, fr_tr f1 f2, f9_tr p1 p2, fr_tr fc1 fc2⟩
    · simp only [e1, e2, e_bd, e_bdn, e_st, e_li, e_bs, e_opn, e_ops, e_ob, e_vo, e_ia, e_eq, e_ne, e_lt, e_ge, e_gt, e_le, cond_true, cond_false, Bool.cond_decide, (AK_c (AK_c hk p1) p2).2.2.2.1]
    · show k_63 N P vl R a x C = _
      unfold k_63
      simp only [ec1, hk.2.2.2.2, ec2, e_bd, e_bdn, e_st, e_li, e_bs, e_opn, e_ops, e_ob, e_vo, e_ia, e_eq, e_ne, e_lt, e_ge, e_gt, e_le, cond_true, cond_false, Bool.cond_decide, k_cls hk6]
  · have hd : dP N P vl R (k_cl k) a x C = k_35 N P vl R a x C := by rcases c with rfl | rfl <;> rfl
    rw [hd, if_pos (show ¬ Int32.ofNat k = 6 by rw [show (6 : Int32) = Int32.ofNat 6 from rfl, o_eq (by omega) (by omega)]; omega), decide_eq_true (by omega), if_neg (show ¬ b_i true = 0 by decide)]
    obtain ⟨r, A2, C2, n2, e2, ec2, t2, l1, l2, f2, p2, fc2⟩ := a_lp (N := N) (P := P) (vl := vl) h (by omega) hk x
    exact ⟨r, A2, C2, n2, by simp only [e2, e_bd, e_bdn, e_st, e_li, e_bs, e_opn, e_ops, e_ob, e_vo, e_ia, e_eq, e_ne, e_lt, e_ge, e_gt, e_le, cond_true, cond_false, Bool.cond_decide], ec2, t2, l1, by omega, f2, p2, fc2⟩
  · have hd : dP N P vl R (k_cl k) a x C = k_6 N P vl R a x C := by rcases c with rfl | rfl | rfl | rfl <;> rfl
    rw [hd, if_pos (show ¬ Int32.ofNat k = 6 by rw [show (6 : Int32) = Int32.ofNat 6 from rfl, o_eq (by omega) (by omega)]; omega), decide_eq_false (by omega), if_pos (show b_i false = 0 from rfl)]
    obtain ⟨r, A2, C2, n2, e2, ec2, t2, l1, l2, f2, p2, fc2⟩ := a_pp (N := N) (P := P) (vl := vl) h (by omega) hk x
    exact ⟨r, A2, C2, n2, by simp only [e2, e_bd, e_bdn, e_st, e_li, e_bs, e_opn, e_ops, e_ob, e_vo, e_ia, e_eq, e_ne, e_lt, e_ge, e_gt, e_le, cond_true, cond_false, Bool.cond_decide], ec2, t2, l1, by omega, f2, p2, fc2⟩
/-- Bidder.tells -/
theorem a_pt {A C : mS} {n a k p v : Nat} (h : TT A C n) (hn : n ≤ 690) (hk : AK A R a k p v) (x : Int32) : ∃ (r : Int32) (A' C' : mS) (n' : Nat), g_174 N x A = some (r, A') ∧ k_7 N P vl R a x C = some (r, C') ∧ TT A' C' n' ∧ n ≤ n' ∧ n' ≤ n + 60 ∧ fr [9, 99] A A' ∧ f9 [21] A A' ∧ fr [13] C C' := by
  obtain ⟨A1, C1, e1, ec1, t1, f1, p1, fc1⟩ := a_ran (N := N) (P := P) (vl := vl) (R := R) h (by omega) 3
  obtain ⟨r, A2, C2, n2, e2, ec2, t2, l1, l2, f2, p2, fc2⟩ := a_pays (N := N) (P := P) (vl := vl) t1 (by omega) (AK_c hk p1) x
  unfold dP at ec2
  refine ⟨r * 2, A2, C2, n2, ?_, ?_, t2, by omega, by omega, fr_tr f1 f2, f9_tr p1 p2, fr_tr fc1 fc2⟩
  · unfold g_174
    simp only [e1, e2, e_bd, e_bdn, e_st, e_li, e_bs, e_opn, e_ops, e_ob, e_vo, e_ia, e_eq, e_ne, e_lt, e_ge, e_gt, e_le, cond_true, cond_false, Bool.cond_decide]
  · unfold k_7
    simp only [ec1, hk.2.2.2.2, ec2, e_bd, e_bdn, e_st, e_li, e_bs, e_opn, e_ops, e_ob, e_vo, e_ia, e_eq, e_ne, e_lt, e_ge, e_gt, e_le, cond_true, cond_false, Bool.cond_decide]
def dT (N : Nat) (P : Nat → Option Nat) (vl : Option Nat) (R : List aC) (ci a : Nat) (x : Int32) (C : mS) : Option (Int32 × mS) := if ci = 0 then k_2 N P vl R a x C else if ci = 1 then k_7 N P vl R a x C else if ci = 3 then k_7 N P vl R a x C else if ci = 4 then k_7 N P vl R a x C else if ci = 6 then k_57 N P vl R a x C else if ci = 7 then k_7 N P vl R a x C else if ci = 8 then k_7 N P vl R a x C else none
/-- tells, of any kind -/
theorem a_tells {A C : mS} {n a k p v : Nat} (h : TT A C n) (hn : n ≤ 600) (hk : AK A R a k p v) (x : Int32) : ∃ (r : Int32) (A' C' : mS) (n' : Nat), g_175 N x A = some (r, A') ∧ dT N P vl R (k_cl k) a x C = some (r, C') ∧ TT A' C' n' ∧ fr [9, 99] A A' ∧ f9 [21] A A' ∧ fr [13] C C' := by
  have hk6 := hk.1
  have hK := hk.2.1
  unfold g_175
  rw [hK]
  simp only [e_bd, e_bdn, e_st, e_li, e_bs, e_opn, e_ops, e_ob, e_vo, e_ia, e_eq, e_ne, e_lt, e_ge, e_gt, e_le, cond_true, cond_false, Bool.cond_decide]
  rcases (show k = 3 ∨ k = 4 ∨ (k = 0 ∨ k = 1 ∨ k = 2 ∨ k = 5 ∨ k = 6) by omega) with c | c | c
  · subst c
    rw [if_neg (show ¬ ¬ Int32.ofNat 3 = 3 by decide)]
    obtain ⟨A1, C1, e1, ec1, t1, f1, p1, fc1⟩ := a_ran (N := N) (P := P) (vl := vl) (R := R) h (by omega) 31
    obtain ⟨r, A2, C2, n2, e2, ec2, t2, l1, l2, f2, p2, fc2⟩ := a_pt (N := N) (P := P) (vl := vl) t1 (by omega) (AK_c hk p1) x
    refine ⟨r ^^^ 7, A2, C2, n2, ?_, ?_, t2, fr_tr f1 f2, f9_tr p1 p2, fr_tr fc1 fc2⟩
    · simp only [e1, e2, e_bd, e_bdn, e_st, e_li, e_bs, e_opn, e_ops, e_ob, e_vo, e_ia, e_eq, e_ne, e_lt, e_ge, e_gt, e_le, cond_true, cond_false, Bool.cond_decide]
    · show k_2 N P vl R a x C = _
      unfold k_2
      simp only [ec1, hk.2.2.2.2, ec2, e_bd, e_bdn, e_st, e_li, e_bs, e_opn, e_ops, e_ob, e_vo, e_ia, e_eq, e_ne, e_lt, e_ge, e_gt, e_le, cond_true, cond_false, Bool.cond_decide]
  · subst c
    rw [if_pos (show ¬ Int32.ofNat 4 = 3 by decide), if_neg (show ¬ ¬ Int32.ofNat 4 = 4 by decide)]
    obtain ⟨A1, C1, e1, ec1, t1, f1, p1, fc1⟩ := a_ran (N := N) (P := P) (vl := vl) (R := R) h (by omega) 41
    obtain ⟨r, A2, C2, n2, e2, ec2, t2, l1, l2, f2, p2, fc2⟩ := a_pt (N := N) (P := P) (vl := vl) t1 (by omega) (AK_c hk p1) (x - 1)
    obtain ⟨r3, A3, C3, n3, e3, ec3, t3, l3, l4, f3, p3, fc3⟩ := a_bids (N := N) (P := P) (vl := vl) t2 (by omega) (AK_c (AK_c hk p1) p2) 2
    have ec3' : k_38 N P vl R a 2 C2 = some (r3, C3) := ec3
    refine ⟨r + r3, A3, C3, n3, ?_, ?_, t3, fr_tr f1 (fr_tr f2 f3), f9_tr p1 (f9_tr p2 p3), fr_tr fc1 (fr_tr fc2 fc3)⟩
    · simp only [e1, e2, e3, e_bd, e_bdn, e_st, e_li, e_bs, e_opn, e_ops, e_ob, e_vo, e_ia, e_eq, e_ne, e_lt, e_ge, e_gt, e_le, cond_true, cond_false, Bool.cond_decide]
    · show k_57 N P vl R a x C = _
      unfold k_57
      simp only [ec1, hk.2.2.2.2, ec2, e_bd, e_bdn, e_st, e_li, e_bs, e_opn, e_ops, e_ob, e_vo, e_ia, e_eq, e_ne, e_lt, e_ge, e_gt, e_le, cond_true, cond_false, Bool.cond_decide]
      rw [if_pos (show k_cl 4 = 6 from rfl), ec3']
      rfl
  · have hd : dT N P vl R (k_cl k) a x C = k_7 N P vl R a x C := by rcases c with rfl | rfl | rfl | rfl | rfl <;> rfl
    rw [hd, if_pos (show ¬ Int32.ofNat k = 3 by rw [show (3 : Int32) = Int32.ofNat 3 from rfl, o_eq (by omega) (by omega)]; omega), if_pos (show ¬ Int32.ofNat k = 4 by rw [show (4 : Int32) = Int32.ofNat 4 from rfl, o_eq (by omega) (by omega)]; omega)]
    obtain ⟨r, A2, C2, n2, e2, ec2, t2, l1, l2, f2, p2, fc2⟩ := a_pt (N := N) (P := P) (vl := vl) h (by omega) hk x
    exact ⟨r, A2, C2, n2, by simp only [e2, e_bd, e_bdn, e_st, e_li, e_bs, e_opn, e_ops, e_ob, e_vo, e_ia, e_eq, e_ne, e_lt, e_ge, e_gt, e_le, cond_true, cond_false, Bool.cond_decide], ec2, t2, f2, p2, fc2⟩
variable {d : dS} {F : fS} {A C : mS} {ns nv nb nk : Nat}
theorem q_act (h : XR (A 0) C P vl R d F ns nv nb nk) (x1 x2 x3 : Int32) : ∃ r A' C' n, g_176 N x1 x2 x3 A = some (r, A') ∧ k_96 N P vl R x1 x2 x3 C = some (r, C') ∧ A' 0 = A 0 ∧ A' 1 = A 1 ∧ A' 99 4 = A 99 4 ∧ TT A' C' n ∧ fr [13] C C' := by
  obtain ⟨⟨hd, hf, hy, hM, hF, hC, hW⟩, -⟩ := h
  have hn := hd.2.2.2.1
  have k0 : (0 : Int32).toInt = 0 := rfl
  have k2 : (2 : Int32).toInt = 2 := rfl
  generalize hA0 : va_up A 99 (upd (A 99) 21 0) = A0
  generalize hC0 : va_up C 13 (upd (C 13) 0 0) = C0
  have f0 : fr [99] A A0 := by rw [← hA0]; exact fr_up fr_rfl (by simp)
  have fc0 : fr [13] C C0 := by rw [← hC0]; exact fr_up fr_rfl (by simp)
  have h04 : A0 99 4 = A 99 4 := by rw [← hA0, va_up_self, upd_ne _ _ (by decide)]
  have t0 : TT A0 C0 0 := ⟨by omega, by rw [← hA0, va_up_self, upd_self]; rfl, by rw [← hC0, va_up_self, upd_self]; rfl, fun j hj => by omega⟩
  have a00 : A0 0 = A 0 := fr_at f0 (by decide)
  have hC0' : CD C0 P vl R d := CD_fr hC fc0 (by decide) (by decide) (by decide)
  unfold g_176 k_96
  rw [hA0, hC0, m_pers hn (by rw [a00]; exact hM.2.1)]
  by_cases c1 : 0 ≤ x1.toInt ∧ x1.toInt < d_n d
  · rw [decide_eq_true c1]
    obtain ⟨p, hp, rfl⟩ := o_ex c1.1 c1.2
    obtain ⟨a, e1, ha⟩ := k_one (N := N) hn hC0' hp
    have hk6 := hd.2.2.2.2.1 p hp
    simp only [e_bd, e_bdn, e_st, e_li, e_bs, e_opn, e_ops, e_ob, e_vo, e_ia, e_eq, e_ne, e_lt, e_ge, e_gt, e_le, cond_true, cond_false, Bool.cond_decide, show ¬ b_i true = 0 by decide, if_false, e1, m_in, z_le, k0, k2]
    by_cases c2 : 0 ≤ x2.toInt ∧ x2.toInt ≤ 2
    · rw [decide_eq_true c2, if_pos (show ¬ b_i true = 0 by decide)]
      simp only [show (140 : Int32) + Int32.ofNat p = Int32.ofNat (140 + p) from o_add (p := 140), show a_in (Int32.ofNat (140 + p)) 947 = true by rw [o_in (by omega)]; simp; omega, o_cl (show 140 + p < 2147483648 by omega), show (148 : Int32) + Int32.ofNat p = Int32.ofNat (148 + p) from o_add (p := 148), show a_in (Int32.ofNat (148 + p)) 947 = true by rw [o_in (by omega)]; simp; omega, o_cl (show 148 + p < 2147483648 by omega), a00, hM.2.2.1 p hp, hM.2.2.2.1 p hp, e_bd, e_bdn, e_st, e_li, e_bs, e_opn, e_ops, e_ob, e_vo, e_ia, e_eq, e_ne, e_lt, e_ge, e_gt, e_le, cond_true, cond_false, Bool.cond_decide, ha]
      generalize hA2 : va_up (va_up A0 99 (upd (upd (A0 99) 22 (Int32.ofNat (d_kd d p))) 23 (Int32.ofNat p))) 99 (upd ((va_up A0 99 (upd (upd (A0 99) 22 (Int32.ofNat (d_kd d p))) 23 (Int32.ofNat p))) 99) 24 (Int32.ofNat (d_vv d p))) = A2
      have f2 : fr [99] A0 A2 := by rw [← hA2]; exact fr_up (fr_up fr_rfl (by simp)) (by simp)
      have h2 : ∀ f, f ≠ 22 → f ≠ 23 → f ≠ 24 → A2 99 f = A0 99 f := fun f h1 h3 h4 => by rw [← hA2, va_up_self, upd_ne _ _ h4, va_up_self, upd_ne _ _ h3, upd_ne _ _ h1]
      have t2 : TT A2 C0 0 := ⟨by omega, by rw [h2 21 (by decide) (by decide) (by decide)]; exact t0.2.1, t0.2.2.1, fun j hj => by omega⟩
      have hK : AK A2 R a (d_kd d p) p (d_vv d p) := ⟨hk6, by rw [← hA2, va_up_self, upd_ne _ _ (by decide), va_up_self, upd_ne _ _ (by decide), upd_self], by rw [← hA2, va_up_self, upd_ne _ _ (by decide), va_up_self, upd_self], by rw [← hA2, va_up_self, upd_self], ha⟩
      have fin : ∀ (A' C' : mS), fr [9, 99] A2 A' → f9 [21] A2 A' → fr [13] C0 C' → A' 0 = A 0 ∧ A' 1 = A 1 ∧ A' 99 4 = A 99 4 ∧ fr [13] C C' := fun A' C' g1 g2 g3 => ⟨by rw [fr_at g1 (by decide), fr_at f2 (by decide), fr_at f0 (by decide)], by rw [fr_at g1 (by decide), fr_at f2 (by decide), fr_at f0 (by decide)], by rw [g2 4 (by decide), h2 4 (by decide) (by decide) (by decide)]; exact h04, fr_tr fc0 g3⟩
      obtain ⟨q, hq, rfl⟩ := o_ex (x := x2) (n := 3) c2.1 (by omega)
      rcases (show q = 0 ∨ q = 1 ∨ q = 2 by omega) with rfl | rfl | rfl
      · rw [if_neg (show ¬ ¬ Int32.ofNat 0 = 0 by decide), show a_tsw 0 2 34 [16, 22, 28] (Int32.ofNat 0) = 16 by decide, if_pos rfl]
        obtain ⟨r, A3, C3, n3, e3, ec3, t3, -, -, g1, g2, g3⟩ := a_bids (N := N) (P := P) (vl := vl) t2 (by omega) hK x3
        unfold dB at ec3
        obtain ⟨u1, u2, u3, u4⟩ := fin A3 C3 g1 g2 g3
        exact ⟨r, A3, C3, n3, by simp only [e3, e_bd, e_bdn, e_st, e_li, e_bs, e_opn, e_ops, e_ob, e_vo, e_ia, e_eq, e_ne, e_lt, e_ge, e_gt, e_le, cond_true, cond_false, Bool.cond_decide], by simp only [ec3, e_bd, e_bdn, e_st, e_li, e_bs, e_opn, e_ops, e_ob, e_vo, e_ia, e_eq, e_ne, e_lt, e_ge, e_gt, e_le, cond_true, cond_false, Bool.cond_decide], u1, u2, u3, t3, u4⟩
      · rw [if_pos (show ¬ Int32.ofNat 1 = 0 by decide), if_neg (show ¬ ¬ Int32.ofNat 1 = 1 by decide), show a_tsw 0 2 34 [16, 22, 28] (Int32.ofNat 1) = 22 by decide, if_neg (by decide), if_pos rfl]
        obtain ⟨r, A3, C3, n3, e3, ec3, t3, -, -, g1, g2, g3⟩ := a_pays (N := N) (P := P) (vl := vl) t2 (by omega) hK x3
        unfold dP at ec3
        obtain ⟨u1, u2, u3, u4⟩ := fin A3 C3 g1 g2 g3
        exact ⟨r, A3, C3, n3, by simp only [e3, e_bd, e_bdn, e_st, e_li, e_bs, e_opn, e_ops, e_ob, e_vo, e_ia, e_eq, e_ne, e_lt, e_ge, e_gt, e_le, cond_true, cond_false, Bool.cond_decide], by simp only [ec3, e_bd, e_bdn, e_st, e_li, e_bs, e_opn, e_ops, e_ob, e_vo, e_ia, e_eq, e_ne, e_lt, e_ge, e_gt, e_le, cond_true, cond_false, Bool.cond_decide], u1, u2, u3, t3, u4⟩
      · rw [if_pos (show ¬ Int32.ofNat 2 = 0 by decide), if_pos (show ¬ Int32.ofNat 2 = 1 by decide), show a_tsw 0 2 34 [16, 22, 28] (Int32.ofNat 2) = 28 by decide, if_neg (by decide), if_neg (by decide), if_pos rfl]
        obtain ⟨r, A3, C3, n3, e3, ec3, t3, g1, g2, g3⟩ := a_tells (N := N) (P := P) (vl := vl) t2 (by omega) hK x3
        unfold dT at ec3
        obtain ⟨u1, u2, u3, u4⟩ := fin A3 C3 g1 g2 g3
        exact ⟨r, A3, C3, n3, by simp only [e3, e_bd, e_bdn, e_st, e_li, e_bs, e_opn, e_ops, e_ob, e_vo, e_ia, e_eq, e_ne, e_lt, e_ge, e_gt, e_le, cond_true, cond_false, Bool.cond_decide], by simp only [ec3, e_bd, e_bdn, e_st, e_li, e_bs, e_opn, e_ops, e_ob, e_vo, e_ia, e_eq, e_ne, e_lt, e_ge, e_gt, e_le, cond_true, cond_false, Bool.cond_decide], u1, u2, u3, t3, u4⟩
    · rw [decide_eq_false c2, if_neg (show ¬ ¬ b_i false = 0 by decide), show a_tsw 0 2 34 [16, 22, 28] x2 = 34 by unfold a_tsw; rw [if_pos (by omega)], if_neg (by decide), if_neg (by decide), if_neg (by decide), if_pos rfl]
      exact ⟨0, A0, C0, 0, rfl, rfl, a00, fr_at f0 (by decide), h04, t0, fc0⟩
  · rw [decide_eq_false c1, k_no hn hC0' c1]
    exact ⟨0, A0, C0, 0, by simp only [e_bd, e_bdn, e_st, e_li, e_bs, e_opn, e_ops, e_ob, e_vo, e_ia, e_eq, e_ne, e_lt, e_ge, e_gt, e_le, cond_true, cond_false, Bool.cond_decide, show b_i false = 0 from rfl, if_true], by simp only [e_bd, e_bdn, e_st, e_li, e_bs, e_opn, e_ops, e_ob, e_vo, e_ia, e_eq, e_ne, e_lt, e_ge, e_gt, e_le, cond_true, cond_false, Bool.cond_decide], a00, fr_at f0 (by decide), h04, t0, fc0⟩
theorem q_trc {n : Nat} (h : TT A C n) (x : Int32) : ∃ r, g_177 N x A = some (r, A) ∧ k_97 N P vl R x C = some (r, C) := by
  obtain ⟨hn, h1, h2, h3⟩ := h
  have k0 : (0 : Int32).toInt = 0 := rfl
  have k1 : (1 : Int32).toInt = 1 := rfl
  have k20 : (20 : Int32).toInt = 20 := rfl
  obtain ⟨m, hm1, hm2, hm3, hm4⟩ : ∃ m : Nat, m ≤ 20 ∧ m ≤ n ∧ (if (20 : Int32) ≤ Int32.ofNat n then (20 : Int32) else Int32.ofNat n) = Int32.ofNat m ∧ (if (20 : Int32) < Int32.ofNat n then (20 : Int32) else Int32.ofNat n) = Int32.ofNat m := by
    by_cases c : 20 ≤ n
    · refine ⟨20, by omega, c, ?_, ?_⟩
      · rw [if_pos (by rw [z_le, z_ofNat (by omega)]; omega)]; rfl
      · by_cases c2 : n = 20
        · subst c2; decide
        · rw [if_pos (by rw [z_lt, z_ofNat (by omega)]; omega)]; rfl
    · refine ⟨n, by omega, by omega, ?_, ?_⟩
      · rw [if_neg (by rw [z_le, z_ofNat (by omega)]; omega)]
      · rw [if_neg (by rw [z_lt, z_ofNat (by omega)]; omega)]
  have eg : g_177 N x A = g_177_10 N x x 0 (Int32.ofNat m) A := by
    unfold g_177
    simp only [e_bd, e_bdn, e_st, e_li, e_bs, e_opn, e_ops, e_ob, e_vo, e_ia, e_eq, e_ne, e_lt, e_ge, e_gt, e_le, cond_true, cond_false, Bool.cond_decide, h1]
    rw [← hm3]
    split <;> rfl
  rw [eg]
  unfold g_177_10 k_97
  simp only [m_in, e_bd, e_bdn, e_st, e_li, e_bs, e_opn, e_ops, e_ob, e_vo, e_ia, e_eq, e_ne, e_lt, e_ge, e_gt, e_le, cond_true, cond_false, Bool.cond_decide, h2, hm4]
  simp only [z_le, z_lt, k0]
  have hz : (Int32.ofNat m - 1).toInt = m - 1 := by rw [z_sub (by rw [z_ofNat (by omega)]; omega) (by rw [z_ofNat (by omega)]; omega), z_ofNat (by omega), k1]
  rw [hz, z_ofNat (by omega)]
  by_cases c : 0 ≤ x.toInt ∧ x.toInt ≤ (m : Int) - 1
  · rw [decide_eq_true c, if_neg (show ¬ b_i true = 0 by decide), if_neg (by omega), if_pos (by omega)]
    obtain ⟨q, hq, rfl⟩ := o_ex (x := x) (n := m) c.1 (by omega)
    simp only [show a_in (Int32.ofNat (q)) 20 = true by rw [o_in (by omega)]; simp; omega, o_cl (show q < 2147483648 by omega), show (1 : Int32) + Int32.ofNat q = Int32.ofNat (1 + q) from o_add (p := 1), show a_in (Int32.ofNat (1 + q)) 21 = true by rw [o_in (by omega)]; simp; omega, o_cl (show 1 + q < 2147483648 by omega), e_bd, e_bdn, e_st, e_li, e_bs, e_opn, e_ops, e_ob, e_vo, e_ia, e_eq, e_ne, e_lt, e_ge, e_gt, e_le, cond_true, cond_false, Bool.cond_decide, h3 q (by omega) (by omega)]
    exact ⟨_, rfl, rfl⟩
  · rw [decide_eq_false c, if_pos (show b_i false = 0 from rfl)]
    refine ⟨-1, rfl, ?_⟩
    split
    · rfl
    · rw [if_neg (by omega)]
end XA
