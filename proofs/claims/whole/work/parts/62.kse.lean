/-! 62.kse: the class asks, settles, opens -/
section KSE
variable {N : Nat} {d : dS} {F : fS} {C : mS} {P : Nat → Option Nat} {vl : Option Nat} {R : List aC} {B : Nat → Int32}
theorem k_as1 (hN : 200 ≤ N) (hd : d_ok d) (hf : f_ok d F) {p a : Nat} (hp : p < d_n d) (ha : bdr R a = some (k_cl (d_kd d p), Int32.ofNat (d_kd d p), Int32.ofNat p, Int32.ofNat (d_vv d p))) {m : Nat} : ∀ (r u : Nat) (C : mS), u + r = 4 → CS C P vl R d F → ∃ C', k_13_10 N P vl R (r + 1 + m) (Int32.ofNat p) a (Int32.ofNat u) C = some (0, C') ∧ fr [10, 12] C C' ∧ ∀ j, C' 10 j = if 4 * p + u ≤ j ∧ j < 4 * p + 4 then b_all d F j else C 10 j := by
  have hn := hd.2.2.2.1
  intro r
  induction r with
  | zero =>
    intro u C hu hC
    obtain rfl : u = 4 := by omega
    refine ⟨C, ?_, fr_rfl, fun j => by rw [if_neg (by omega)]⟩
    rw [show 0 + 1 + m = m + 1 by omega]
    show k_13_10b _ _ _ _ _ _ _ _ _ = _
    unfold k_13_10b
    simp only [e_bd, e_bdn, e_st, e_li, e_bs, e_opn, e_ops, e_ob, e_vo, e_ia, e_eq, e_ne, e_lt, e_ge, e_gt, e_le, cond_true, cond_false, Bool.cond_decide, show (4 : Int32) ≤ Int32.ofNat 4 by decide, if_true]
  | succ r ih =>
    intro u C hu hC
    obtain ⟨C1, e1, g1⟩ := k_wish hN hd hC hp ha (show u < 4 by omega)
    have S1 := CS12 hC g1
    have e2 := k_pb (N := N) (x := b_wi d F p u) hd hf S1 hp (show u < 4 by omega)
    generalize hC2 : va_up C1 10 (upd (C1 10) (4 * p + u) (b_kp (f_pu F p) (b_wi d F p u))) = C2 at e2
    have g2 : fr [10, 12] C C2 := by rw [← hC2]; exact fr_up (fr_mono g1 (by simp)) (by simp)
    obtain ⟨C3, e3, g3, h3⟩ := ih (u + 1) C2 (by omega) (CS_fr hC g2 (by decide) (by decide) (by decide) (by decide) (by decide))
    refine ⟨C3, ?_, fr_tr g2 g3, ?_⟩
    · rw [show r + 1 + 1 + m = (r + 1 + m) + 1 by omega]
      show k_13_10b _ _ _ _ _ _ _ _ _ = _
      unfold k_13_10b
      simp only [e_bd, e_bdn, e_st, e_li, e_bs, e_opn, e_ops, e_ob, e_vo, e_ia, e_eq, e_ne, e_lt, e_ge, e_gt, e_le, cond_true, cond_false, Bool.cond_decide, show ¬ (4 : Int32) ≤ Int32.ofNat (u) by rw [show (4 : Int32) = Int32.ofNat 4 from rfl, o_le (by omega) (by omega)]; omega, if_false, ha, e1, e2, show Int32.ofNat (u) + 1 = Int32.ofNat (u + 1) from o_add (q := 1)]
      exact e3
    · intro j
      rw [h3 j, ← hC2, va_up_self]
      by_cases c1 : 4 * p + (u + 1) ≤ j ∧ j < 4 * p + 4
      · rw [if_pos c1, if_pos (by omega)]
      · rw [if_neg c1]
        by_cases c2 : j = 4 * p + u
        · subst c2
          rw [upd_self, if_pos (by omega)]
          show _ = b_kp _ _
          rw [show (4 * p + u) / 4 = p by omega, show (4 * p + u) % 4 = u by omega]
        · rw [upd_ne _ _ c2, if_neg (by omega), fr_at g1 (by decide)]
/-- ask -/
theorem k_ask (hN : 200 ≤ N) (hd : d_ok d) (hf : f_ok d F) (hC : CS C P vl R d F) {p : Nat} (hp : p < d_n d) : ∃ C', k_13 N P vl R (Int32.ofNat p) C = some (0, C') ∧ fr [10, 12] C C' ∧ ∀ j, C' 10 j = if 4 * p ≤ j ∧ j < 4 * p + 4 then b_all d F j else C 10 j := by
  obtain ⟨a, e1, ha⟩ := k_one (N := N) hd.2.2.2.1 hC.1 hp
  obtain ⟨C1, e2, g2, h2⟩ := k_as1 (N := N) (m := N - 5) hN hd hf hp ha 4 0 C (by omega) hC
  rw [show 4 + 1 + (N - 5) = N by omega] at e2
  refine ⟨C1, ?_, g2, h2⟩
  unfold k_13
  simp only [e1, e_bd, e_bdn, e_st, e_li, e_bs, e_opn, e_ops, e_ob, e_vo, e_ia, e_eq, e_ne, e_lt, e_ge, e_gt, e_le, cond_true, cond_false, Bool.cond_decide]
  exact e2
theorem k_fn (hd : d_ok d) (hf : f_ok d F) (hC : CS C P vl R d F) : k_20 N P vl R C = some (f_nx d F, C) := by
  have hfn := hd.2.2.2.2.2.2.2.1
  have htu := hf.2.2.1
  have k0 : (0 : Int32).toInt = 0 := rfl
  unfold k_20 k_73 f_nx
  rw [hC.2.2.2.1]
  simp only [e_bd, e_bdn, e_st, e_li, e_bs, e_opn, e_ops, e_ob, e_vo, e_ia, e_eq, e_ne, e_lt, e_ge, e_gt, e_le, cond_true, cond_false, Bool.cond_decide, hC.1.2.2.2.2.1]
  by_cases c : f_tu F < Int32.ofNat (d_fn d)
  · have c1 : ¬ f_tu F < 0 := by rw [z_lt]; omega
    have c2 : ¬ Int32.ofNat (d_fn d) ≤ f_tu F := by rw [z_lt] at c; rw [z_le]; omega
    have c3 : a_in (f_tu F) 12 = true := by rw [z_in]; rw [z_lt, z_ofNat (by omega)] at c; simp; omega
    rw [if_pos (show 0 ≤ f_tu F ∧ f_tu F < Int32.ofNat (d_fn d) from ⟨by rw [z_le]; omega, c⟩)]
    simp only [c1, c2, c3, if_false, e_bd, e_bdn, e_st, e_li, e_bs, e_opn, e_ops, e_ob, e_vo, e_ia, e_eq, e_ne, e_lt, e_ge, e_gt, e_le, cond_true, cond_false, Bool.cond_decide]
    rw [hC.1.2.2.2.2.2]
    rw [z_cl]; rw [z_lt, z_ofNat (by omega)] at c; omega
  · have c1 : ¬ f_tu F < 0 := by rw [z_lt]; omega
    have c2 : Int32.ofNat (d_fn d) ≤ f_tu F := by rw [z_lt] at c; rw [z_le]; omega
    rw [if_neg (show ¬ (0 ≤ f_tu F ∧ f_tu F < Int32.ofNat (d_fn d)) from fun h => c h.2)]
    simp only [c1, c2, if_false, if_true, e_bd, e_bdn, e_st, e_li, e_bs, e_opn, e_ops, e_ob, e_vo, e_ia, e_eq, e_ne, e_lt, e_ge, e_gt, e_le, cond_true, cond_false, Bool.cond_decide]
theorem k_se1 (hn : d_n d ≤ 8) {w b : Nat} (hw : w < 4) (hb : b ≤ w) {rc : Int32 → Int32 → mS → Option (Int32 × mS)} {m : Nat} : ∀ (r p : Nat) (C : mS), p + r = d_n d → C 90 12 = Int32.ofNat (d_n d) → (∀ j, j < 4 * d_n d → C 10 j = B j) → C 11 w = b_sm B w p → (∀ v, v < w → C 11 v = b_S d B v) → ∃ C', k_15_14 N P vl R rc (r + 1 + m) (Int32.ofNat b) (Int32.ofNat w) (Int32.ofNat p) C = rc (Int32.ofNat (if b_S d B b < b_S d B w then w else b)) (Int32.ofNat (w + 1)) C' ∧ fr [11] C C' ∧ ∀ v, v ≤ w → C' 11 v = b_S d B v := by
  intro r
  induction r with
  | zero =>
    intro p C hp h11 h5 h6 h7
    obtain rfl : p = d_n d := by omega
    have h8 : ∀ v, v ≤ w → C 11 v = b_S d B v := fun v hv => by
      by_cases c : v = w
      · subst c; exact h6
      · exact h7 v (by omega)
    refine ⟨C, ?_, fr_rfl, h8⟩
    rw [show 0 + 1 + m = m + 1 by omega]
    show k_15_14b _ _ _ _ _ _ _ _ _ _ = _
    unfold k_15_14b
    simp only [e_bd, e_bdn, e_st, e_li, e_bs, e_opn, e_ops, e_ob, e_vo, e_ia, e_eq, e_ne, e_lt, e_ge, e_gt, e_le, cond_true, cond_false, Bool.cond_decide, h11, z_le, Int.le_refl, if_true, show a_in (Int32.ofNat (w)) 4 = true by rw [o_in (by omega)]; simp; omega, show a_in (Int32.ofNat (b)) 4 = true by rw [o_in (by omega)]; simp; omega, o_cl (show w < 2147483648 by omega), o_cl (show b < 2147483648 by omega), show Int32.ofNat (w) + 1 = Int32.ofNat (w + 1) from o_add (q := 1), h8 w (Nat.le_refl _), h8 b hb, z_lt]
    by_cases c : (b_S d B b).toInt < (b_S d B w).toInt
    · rw [if_neg (by omega), if_pos c]
    · rw [if_pos (by omega), if_neg c]
  | succ r ih =>
    intro p C hp h11 h5 h6 h7
    generalize hC1 : va_up C 11 (upd (C 11) w (C 11 w + B (4 * p + w))) = C1
    have f1 : fr [11] C C1 := by rw [← hC1]; exact fr_up fr_rfl (by simp)
    obtain ⟨C2, e2, f2, h2⟩ := ih (p + 1) C1 (by omega) (by rw [fr_at f1 (by decide)]; exact h11) (by rw [fr_at f1 (by decide)]; exact h5) (by rw [← hC1, va_up_self, upd_self, h6]; rfl) (fun v hv => by rw [← hC1, va_up_self, upd_ne _ _ (by omega)]; exact h7 v hv)
    refine ⟨C2, ?_, fr_tr f1 f2, h2⟩
    rw [show r + 1 + 1 + m = (r + 1 + m) + 1 by omega]
    show k_15_14b _ _ _ _ _ _ _ _ _ _ = _
    unfold k_15_14b
    simp only [e_bd, e_bdn, e_st, e_li, e_bs, e_opn, e_ops, e_ob, e_vo, e_ia, e_eq, e_ne, e_lt, e_ge, e_gt, e_le, cond_true, cond_false, Bool.cond_decide, h11, show ¬ Int32.ofNat (d_n d) ≤ Int32.ofNat (p) by rw [o_le (by omega) (by omega)]; omega, if_false, show a_in (Int32.ofNat (w)) 4 = true by rw [o_in (by omega)]; simp; omega, o_cl (show w < 2147483648 by omega), show Int32.ofNat (p) * 4 + Int32.ofNat (w) = Int32.ofNat (4 * (p) + w) by rw [show (4 : Int32) = Int32.ofNat 4 from rfl, o_mul, o_add, Nat.mul_comm], show a_in (Int32.ofNat (4 * p + w)) 32 = true by rw [o_in (by omega)]; simp; omega, o_cl (show 4 * p + w < 2147483648 by omega), h5 (4 * p + w) (by omega), show Int32.ofNat (p) + 1 = Int32.ofNat (p + 1) from o_add (q := 1), hC1]
    exact e2
theorem bi_nx (S : Nat → Int32) (w : Nat) : (if S (b_bi S (w - 1)) < S w then w else b_bi S (w - 1)) = b_bi S w := by
  cases w with
  | zero =>
    show (if S 0 < S 0 then 0 else 0) = 0
    split <;> rfl
  | succ w => rfl
theorem k_se2 (hN : 200 ≤ N) (hn : d_n d ≤ 8) {m : Nat} : ∀ (r w : Nat) (C : mS), w + r = 4 → C 90 12 = Int32.ofNat (d_n d) → (∀ j, j < 4 * d_n d → C 10 j = B j) → (∀ v, v < w → C 11 v = b_S d B v) → ∃ C', k_15_4 N P vl R (r + 1 + m) (Int32.ofNat (b_bi (b_S d B) (w - 1))) (Int32.ofNat w) C = k_15_4b N P vl R (k_15_4 N P vl R m) (Int32.ofNat (b_bi (b_S d B) 3)) 4 C' ∧ fr [11] C C' ∧ ∀ v, v < 4 → C' 11 v = b_S d B v := by
  intro r
  induction r with
  | zero =>
    intro w C hw h11 h5 h6
    obtain rfl : w = 4 := by omega
    refine ⟨C, ?_, fr_rfl, h6⟩
    rw [show 0 + 1 + m = m + 1 by omega]
    rfl
  | succ r ih =>
    intro w C hw h11 h5 h6
    generalize hC0 : va_up C 11 (upd (C 11) w 0) = C0
    have f0 : fr [11] C C0 := by rw [← hC0]; exact fr_up fr_rfl (by simp)
    have hb := bi_le (b_S d B) (w - 1)
    obtain ⟨C1, e1, f1, h1⟩ := k_se1 (N := N) (P := P) (vl := vl) (R := R) (B := B) hn (show w < 4 by omega) (show b_bi (b_S d B) (w - 1) ≤ w by omega) (rc := k_15_4 N P vl R (r + 1 + m)) (m := N - (d_n d + 1)) (d_n d) 0 C0 (by omega) (by rw [fr_at f0 (by decide)]; exact h11) (by rw [fr_at f0 (by decide)]; exact h5) (by rw [← hC0, va_up_self, upd_self]; rfl) (fun v hv => by rw [← hC0, va_up_self, upd_ne _ _ (by omega)]; exact h6 v hv)
    have f01 := fr_tr f0 f1
    obtain ⟨C2, e2, f2, h3⟩ := ih (w + 1) C1 (by omega) (by rw [fr_at f01 (by decide)]; exact h11) (by rw [fr_at f01 (by decide)]; exact h5) (fun v hv => h1 v (by omega))
    refine ⟨C2, ?_, fr_tr f01 f2, h3⟩
    rw [show d_n d + 1 + (N - (d_n d + 1)) = N by omega, bi_nx] at e1
    rw [show r + 1 + 1 + m = (r + 1 + m) + 1 by omega]
    refine Eq.trans ?_ (e1.trans e2)
    show k_15_4b _ _ _ _ _ _ _ _ = _
    unfold k_15_4b
    simp only [e_bd, e_bdn, e_st, e_li, e_bs, e_opn, e_ops, e_ob, e_vo, e_ia, e_eq, e_ne, e_lt, e_ge, e_gt, e_le, cond_true, cond_false, Bool.cond_decide, show ¬ (4 : Int32) ≤ Int32.ofNat (w) by rw [show (4 : Int32) = Int32.ofNat 4 from rfl, o_le (by omega) (by omega)]; omega, if_false, show a_in (Int32.ofNat (w)) 4 = true by rw [o_in (by omega)]; simp; omega, o_cl (show w < 2147483648 by omega), hC0]
    rfl
/-- behind settle -/
def CO (C : mS) (d : dS) (F : fS) (B : Nat → Int32) : Prop := (∀ j, j < 4 * d_n d → C 10 j = B j) ∧ (∀ w, w < 4 → C 11 w = b_S d B w) ∧ C 92 9 = b_so d F B ∧ C 92 5 = b_i (b_any d B)
theorem CO_fr {C' : mS} {S : List Nat} (h : CO C d F B) (hf : fr S C C') (h5 : 10 ∉ S) (h6 : 11 ∉ S) (h9 : 92 ∉ S) : CO C' d F B := by
  unfold CO
  rw [fr_at hf h5, fr_at hf h6, fr_at hf h9]
  exact h
theorem k_set (hN : 200 ≤ N) (hd : d_ok d) (hf : f_ok d F) (hC : CS C P vl R d F) (h5 : ∀ j, j < 4 * d_n d → C 10 j = B j) : ∃ C', k_15 N P vl R C = some (0, C') ∧ fr [11, 92] C C' ∧ f2 [5, 9] C C' ∧ CO C' d F B := by
  have hn := hd.2.2.2.1
  obtain ⟨C1, e1, f1, h1⟩ := k_se2 (N := N) (P := P) (vl := vl) (R := R) (B := B) (m := N - 5) hN hn 4 0 C (by omega) hC.1.2.1 h5 (fun v hv => by omega)
  rw [show 4 + 1 + (N - 5) = N by omega] at e1
  unfold k_15
  rw [show (0 : Int32) = Int32.ofNat 0 from rfl]
  refine (fun (h : ∃ C', k_15_4b N P vl R (k_15_4 N P vl R (N - 5)) (Int32.ofNat (b_bi (b_S d B) 3)) 4 C1 = some (0, C') ∧ _) => by obtain ⟨C', h1, h2⟩ := h; exact ⟨C', e1.trans h1, h2⟩) ?_
  have hb := bi_le (b_S d B) 3
  have F1 : fr [11, 92] C C1 := fr_mono f1 (by simp)
  have P1 : f2 [5, 9] C C1 := f2_fr f1 (by decide)
  unfold k_15_4b
  simp only [e_bd, e_bdn, e_st, e_li, e_bs, e_opn, e_ops, e_ob, e_vo, e_ia, e_eq, e_ne, e_lt, e_ge, e_gt, e_le, cond_true, cond_false, Bool.cond_decide, show (4 : Int32) ≤ 4 by decide, if_true, show a_in (Int32.ofNat (b_bi (b_S d B) 3)) 4 = true by rw [o_in (by omega)]; simp; omega, o_cl (show b_bi (b_S d B) 3 < 2147483648 by omega), h1 (b_bi (b_S d B) 3) (by omega)]
  by_cases c : b_S d B (b_bi (b_S d B) 3) ≤ 0
  · have ca : b_any d B = false := by unfold b_any; rw [decide_eq_false_iff_not, z_lt]; rw [z_le] at c; omega
    simp only [c, if_true, k_15_58, e_bd, e_bdn, e_st, e_li, e_bs, e_opn, e_ops, e_ob, e_vo, e_ia, e_eq, e_ne, e_lt, e_ge, e_gt, e_le, cond_true, cond_false, Bool.cond_decide, show (decide ((0 : Int32) = 0) || decide ((0 : Int32) = 1)) = true by decide]
    generalize hC3 : va_up C1 92 (upd (C1 92) 5 0) = C3
    have e5 : C3 92 5 = 0 := by rw [← hC3, va_up_self, upd_self]
    have F3 : fr [11, 92] C C3 := by rw [← hC3]; exact fr_up F1 (by simp)
    have P3 : f2 [5, 9] C C3 := by rw [← hC3]; exact f2_up P1 (by simp)
    have S3 := CS_f2 hC F3 (by decide) (by decide) (by decide) (by decide) P3 (by decide) (by decide) (by decide)
    rw [if_pos e5, k_fn hd hf S3]
    simp only [e_bd, e_bdn, e_st, e_li, e_bs, e_opn, e_ops, e_ob, e_vo, e_ia, e_eq, e_ne, e_lt, e_ge, e_gt, e_le, cond_true, cond_false, Bool.cond_decide]
    refine ⟨_, rfl, fr_up F3 (by simp), f2_up P3 (by simp), ?_, ?_, ?_, ?_⟩
    · intro j hj
      rw [va_up_ne _ _ (by decide), fr_at F3 (by decide)]
      exact h5 j hj
    · intro w hw
      rw [va_up_ne _ _ (by decide), ← hC3, va_up_ne _ _ (by decide)]
      exact h1 w hw
    · rw [va_up_self, upd_self]
      unfold b_so
      rw [ca]
      rfl
    · rw [va_up_self, upd_ne _ _ (by decide), ca]
      exact e5
  · have ca : b_any d B = true := by unfold b_any; rw [decide_eq_true_iff, z_lt]; rw [z_le] at c; omega
    simp only [c, if_false, k_15_58, e_bd, e_bdn, e_st, e_li, e_bs, e_opn, e_ops, e_ob, e_vo, e_ia, e_eq, e_ne, e_lt, e_ge, e_gt, e_le, cond_true, cond_false, Bool.cond_decide, show (decide ((1 : Int32) = 0) || decide ((1 : Int32) = 1)) = true by decide]
    generalize hC3 : va_up C1 92 (upd (C1 92) 5 1) = C3
    have e5 : C3 92 5 = 1 := by rw [← hC3, va_up_self, upd_self]
    have F3 : fr [11, 92] C C3 := by rw [← hC3]; exact fr_up F1 (by simp)
    have P3 : f2 [5, 9] C C3 := by rw [← hC3]; exact f2_up P1 (by simp)
    rw [if_neg (by rw [e5]; decide)]
    refine ⟨_, rfl, fr_up F3 (by simp), f2_up P3 (by simp), ?_, ?_, ?_, ?_⟩
    · intro j hj
      rw [va_up_ne _ _ (by decide), fr_at F3 (by decide)]
      exact h5 j hj
    · intro w hw
      rw [va_up_ne _ _ (by decide), ← hC3, va_up_ne _ _ (by decide)]
      exact h1 w hw
    · rw [va_up_self, upd_self]
      unfold b_so
      rw [ca]
      rfl
    · rw [va_up_self, upd_ne _ _ (by decide), ca]
      exact e5
theorem k_op1 (hN : 200 ≤ N) (hd : d_ok d) (hf : f_ok d F) {m : Nat} : ∀ (r p : Nat) (C : mS), p + r = d_n d → CS C P vl R d F → (∀ j, j < 4 * p → C 10 j = b_all d F j) → ∃ C', k_12_2 N P vl R (r + 1 + m) (Int32.ofNat p) C = some (0, C') ∧ fr [10, 11, 12, 92] C C' ∧ f2 [5, 9] C C' ∧ CO C' d F (b_all d F) := by
  have hn := hd.2.2.2.1
  intro r
  induction r with
  | zero =>
    intro p C hp hC h5
    obtain rfl : p = d_n d := by omega
    obtain ⟨C1, e1, f1, p1, o1⟩ := k_set hN hd hf hC h5
    refine ⟨C1, ?_, fr_mono f1 (by simp), p1, o1⟩
    rw [show 0 + 1 + m = m + 1 by omega]
    show k_12_2b _ _ _ _ _ _ _ = _
    unfold k_12_2b
    simp only [e_bd, e_bdn, e_st, e_li, e_bs, e_opn, e_ops, e_ob, e_vo, e_ia, e_eq, e_ne, e_lt, e_ge, e_gt, e_le, cond_true, cond_false, Bool.cond_decide, hC.1.2.1, z_le, Int.le_refl, if_true, e1]
  | succ r ih =>
    intro p C hp hC h5
    obtain ⟨C1, e1, f1, h1⟩ := k_ask hN hd hf hC (show p < d_n d by omega)
    obtain ⟨C2, e2, g2, p2, o2⟩ := ih (p + 1) C1 (by omega) (CS_fr hC f1 (by decide) (by decide) (by decide) (by decide) (by decide)) (fun j hj => by
      rw [h1 j]
      split
      · rfl
      · exact h5 j (by omega))
    refine ⟨C2, ?_, fr_tr (fr_mono f1 (by simp)) g2, f2_tr (f2_fr f1 (by decide)) p2, o2⟩
    rw [show r + 1 + 1 + m = (r + 1 + m) + 1 by omega]
    show k_12_2b _ _ _ _ _ _ _ = _
    unfold k_12_2b
    simp only [e_bd, e_bdn, e_st, e_li, e_bs, e_opn, e_ops, e_ob, e_vo, e_ia, e_eq, e_ne, e_lt, e_ge, e_gt, e_le, cond_true, cond_false, Bool.cond_decide, hC.1.2.1, show ¬ Int32.ofNat (d_n d) ≤ Int32.ofNat (p) by rw [o_le (by omega) (by omega)]; omega, if_false, e1, show Int32.ofNat (p) + 1 = Int32.ofNat (p + 1) from o_add (q := 1)]
    exact e2
/-- open -/
theorem k_open (hN : 200 ≤ N) (hd : d_ok d) (hf : f_ok d F) (hC : CS C P vl R d F) : ∃ C', k_12 N P vl R C = some (0, C') ∧ fr [10, 11, 12, 92] C C' ∧ f2 [5, 9] C C' ∧ CO C' d F (b_all d F) ∧ CS C' P vl R d F := by
  have hn := hd.2.2.2.1
  obtain ⟨C', e, f, p, o⟩ := k_op1 (N := N) (m := N - (d_n d + 1)) hN hd hf (d_n d) 0 C (by omega) hC (fun j hj => by omega)
  rw [show d_n d + 1 + (N - (d_n d + 1)) = N by omega] at e
  exact ⟨C', e, f, p, o, CS_f2 hC f (by decide) (by decide) (by decide) (by decide) p (by decide) (by decide) (by decide)⟩
end KSE
