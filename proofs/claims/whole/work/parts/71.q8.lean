/-! 71.q8: leagues -/
/-- the bids if p and q bid half of worth to both -/
def t_B (d : dS) (F : fS) (p q : Nat) : Nat → Int32 := fun j => if j / 4 = p ∨ j / 4 = q then b_kp (f_pu F (j / 4)) ((w_now d F p (Int32.ofNat (j % 4)) + w_now d F q (Int32.ofNat (j % 4))) / 2) else b_all d F j
section Q8
variable {N : Nat} {d : dS} {F : fS} {A C : mS} {P : Nat → Option Nat} {vl : Option Nat} {R : List aC}
theorem tB_ok (hf : f_ok d F) {p q : Nat} : B_ok d (t_B d F p q) := by
  intro j hj
  unfold t_B
  split
  · have h := hf.2.2.2 (j / 4) (by omega)
    have h2 := kp_ok (b := (w_now d F p (Int32.ofNat (j % 4)) + w_now d F q (Int32.ofNat (j % 4))) / 2) h.1
    omega
  · exact B_all hf j hj
theorem m_le1 (hN : 200 ≤ N) (hd : d_ok d) (hf : f_ok d F) {p q : Nat} (hp : p < d_n d) (hq : q < d_n d) (hpq : p ≠ q) {rc13 : Int32 → Int32 → Int32 → Int32 → mS → Option (Int32 × mS)} {rc23 : Int32 → Int32 → Int32 → Int32 → Int32 → mS → Option (Int32 × mS)} {x1 x2 x3 x6 : Int32} {A0 : mS} {m : Nat} : ∀ (r w : Nat) (A : mS), w + r = 4 → LM A0 A d F → (∀ j, j < 4 * d_n d → A 5 j = if (j / 4 = p ∨ j / 4 = q) ∧ j % 4 < w then t_B d F p q j else b_all d F j) → ∃ A', g_160_43 N rc13 rc23 (r + 1 + m) x1 x2 x3 (Int32.ofNat p) (Int32.ofNat q) x6 (Int32.ofNat w) A = g_160_43b N rc13 rc23 (g_160_43 N rc13 rc23 m) x1 x2 x3 (Int32.ofNat p) (Int32.ofNat q) x6 4 A' ∧ LM A0 A' d F ∧ (∀ j, j < 4 * d_n d → A' 5 j = t_B d F p q j) := by
  have hn := hd.2.2.2.1
  intro r
  induction r with
  | zero =>
    intro w A hw hL h5
    obtain rfl : w = 4 := by omega
    refine ⟨A, ?_, hL, fun j hj => ?_⟩
    · rw [show 0 + 1 + m = m + 1 by omega]
      rfl
    · rw [h5 j hj]
      by_cases c : j / 4 = p ∨ j / 4 = q
      · rw [if_pos ⟨c, by omega⟩]
      · rw [if_neg (fun h => c h.1)]
        unfold t_B
        rw [if_neg c]
  | succ r ih =>
    intro w A hw hL h5
    obtain ⟨A1, e1, f1⟩ := m_now (w := Int32.ofNat w) hN hd hL.1 hp
    have M1 := MS_fr hL.1 f1 (by decide)
    obtain ⟨A2, e2, f2⟩ := m_now (w := Int32.ofNat w) hN hd M1 hq
    have M2 := MS_fr M1 f2 (by decide)
    have e3 := m_kept (N := N) (b := (w_now d F p (Int32.ofNat w) + w_now d F q (Int32.ofNat w)) / 2) (show p < 8 by omega) M2
    generalize hH : (w_now d F p (Int32.ofNat w) + w_now d F q (Int32.ofNat w)) / 2 = H at e3
    generalize hA3 : va_up A2 5 (upd (A2 5) (4 * p + w) (b_kp (f_pu F p) H)) = A3
    have f3 : fr [3, 4, 5] A A3 := by rw [← hA3]; exact fr_up (fr_mono (fr_tr f1 f2) (by simp)) (by simp)
    have M3 := MS_fr hL.1 f3 (by decide)
    have e4 := m_kept (N := N) (b := H) (show q < 8 by omega) M3
    generalize hA4 : va_up A3 5 (upd (A3 5) (4 * q + w) (b_kp (f_pu F q) H)) = A4
    have f4 : fr [3, 4, 5] A A4 := by rw [← hA4]; exact fr_up f3 (by simp)
    have M4 := MS_fr hL.1 f4 (by decide)
    have a25 : A2 5 = A 5 := by rw [fr_at f2 (by decide), fr_at f1 (by decide)]
    obtain ⟨A5, e5, L5, h55⟩ := ih (w + 1) A4 (by omega) ⟨M4, fr_tr hL.2.1 (fr_mono f4 (by simp)), f9_tr hL.2.2 (f9_fr f4 (by decide))⟩ (by
      intro j hj
      rw [← hA4, va_up_self]
      by_cases c1 : j = 4 * q + w
      · subst c1
        rw [upd_self, if_pos ⟨.inr (by omega), by omega⟩]
        unfold t_B
        rw [if_pos (.inr (by omega)), show (4 * q + w) / 4 = q by omega, show (4 * q + w) % 4 = w by omega, hH]
      · rw [upd_ne _ _ c1, ← hA3, va_up_self]
        by_cases c2 : j = 4 * p + w
        · subst c2
          rw [upd_self, if_pos ⟨.inl (by omega), by omega⟩]
          unfold t_B
          rw [if_pos (.inl (by omega)), show (4 * p + w) / 4 = p by omega, show (4 * p + w) % 4 = w by omega, hH]
        · rw [upd_ne _ _ c2, a25, h5 j hj]
          by_cases c3 : (j / 4 = p ∨ j / 4 = q) ∧ j % 4 < w
          · rw [if_pos c3, if_pos ⟨c3.1, by omega⟩]
          · rw [if_neg c3, if_neg (by omega)])
    refine ⟨A5, ?_, L5, h55⟩
    rw [show r + 1 + 1 + m = (r + 1 + m) + 1 by omega]
    refine Eq.trans ?_ e5
    show g_160_43b _ _ _ _ _ _ _ _ _ _ _ _ = _
    unfold g_160_43b
    simp only [e_bd, e_bdn, e_st, e_li, e_bs, e_opn, e_ops, e_ob, e_vo, e_ia, e_eq, e_ne, e_lt, e_ge, e_gt, e_le, cond_true, cond_false, Bool.cond_decide, show ¬ (4 : Int32) ≤ Int32.ofNat (w) by rw [show (4 : Int32) = Int32.ofNat 4 from rfl, o_le (by omega) (by omega)]; omega, if_false, e1, e2, hH, e3, show (4 : Int32) * Int32.ofNat (p) + Int32.ofNat (w) = Int32.ofNat (4 * (p) + w) by rw [show (4 : Int32) = Int32.ofNat 4 from rfl, o_mul, o_add], show (4 : Int32) * Int32.ofNat (q) + Int32.ofNat (w) = Int32.ofNat (4 * (q) + w) by rw [show (4 : Int32) = Int32.ofNat 4 from rfl, o_mul, o_add], show a_in (Int32.ofNat (4 * p + w)) 32 = true by rw [o_in (by omega)]; simp; omega, o_cl (show 4 * p + w < 2147483648 by omega), show a_in (Int32.ofNat (4 * q + w)) 32 = true by rw [o_in (by omega)]; simp; omega, o_cl (show 4 * q + w < 2147483648 by omega), hA3, e4, hA4, show Int32.ofNat (w) + 1 = Int32.ofNat (w + 1) from o_add (q := 1)]
theorem k_le1 (hN : 200 ≤ N) (hd : d_ok d) (hf : f_ok d F) {p q : Nat} (hp : p < d_n d) (hq : q < d_n d) (hpq : p ≠ q) {C0 : mS} {m : Nat} : ∀ (r w : Nat) (C : mS), w + r = 4 → CS C P vl R d F → fr [10, 12] C0 C → (∀ j, j < 4 * d_n d → C 10 j = if (j / 4 = p ∨ j / 4 = q) ∧ j % 4 < w then t_B d F p q j else b_all d F j) → ∃ C', k_26_2 N P vl R (r + 1 + m) (Int32.ofNat p) (Int32.ofNat q) (Int32.ofNat w) C = k_26_2b N P vl R (k_26_2 N P vl R m) (Int32.ofNat p) (Int32.ofNat q) 4 C' ∧ CS C' P vl R d F ∧ fr [10, 12] C0 C' ∧ (∀ j, j < 4 * d_n d → C' 10 j = t_B d F p q j) := by
  have hn := hd.2.2.2.1
  intro r
  induction r with
  | zero =>
    intro w C hw hC hf0 h5
    obtain rfl : w = 4 := by omega
    refine ⟨C, ?_, hC, hf0, fun j hj => ?_⟩
    · rw [show 0 + 1 + m = m + 1 by omega]
      rfl
    · rw [h5 j hj]
      by_cases c : j / 4 = p ∨ j / 4 = q
      · rw [if_pos ⟨c, by omega⟩]
      · rw [if_neg (fun h => c h.1)]
        unfold t_B
        rw [if_neg c]
  | succ r ih =>
    intro w C hw hC hf0 h5
    obtain ⟨C1, e1, f1⟩ := k_wt (w := Int32.ofNat w) hN hd hC hp
    have S1 := CS12 hC f1
    obtain ⟨C2, e2, f2⟩ := k_wt (w := Int32.ofNat w) hN hd S1 hq
    have S2 := CS12 S1 f2
    have e3 := k_pb (N := N) (x := (w_now d F p (Int32.ofNat w) + w_now d F q (Int32.ofNat w)) / 2) hd hf S2 hp (show w < 4 by omega)
    generalize hH : (w_now d F p (Int32.ofNat w) + w_now d F q (Int32.ofNat w)) / 2 = H at e3
    generalize hC3 : va_up C2 10 (upd (C2 10) (4 * p + w) (b_kp (f_pu F p) H)) = C3 at e3
    have f3 : fr [10, 12] C C3 := by rw [← hC3]; exact fr_up (fr_mono (fr_tr f1 f2) (by simp)) (by simp)
    have S3 := CS_fr hC f3 (by decide) (by decide) (by decide) (by decide) (by decide)
    have e4 := k_pb (N := N) (x := H) hd hf S3 hq (show w < 4 by omega)
    generalize hC4 : va_up C3 10 (upd (C3 10) (4 * q + w) (b_kp (f_pu F q) H)) = C4 at e4
    have f4 : fr [10, 12] C C4 := by rw [← hC4]; exact fr_up f3 (by simp)
    have S4 := CS_fr hC f4 (by decide) (by decide) (by decide) (by decide) (by decide)
    have a25 : C2 10 = C 10 := by rw [fr_at f2 (by decide), fr_at f1 (by decide)]
    obtain ⟨C5, e5, s5, g5, h55⟩ := ih (w + 1) C4 (by omega) S4 (fr_tr hf0 f4) (by
      intro j hj
      rw [← hC4, va_up_self]
      by_cases c1 : j = 4 * q + w
      · subst c1
        rw [upd_self, if_pos ⟨.inr (by omega), by omega⟩]
        unfold t_B
        rw [if_pos (.inr (by omega)), show (4 * q + w) / 4 = q by omega, show (4 * q + w) % 4 = w by omega, hH]
      · rw [upd_ne _ _ c1, ← hC3, va_up_self]
        by_cases c2 : j = 4 * p + w
        · subst c2
          rw [upd_self, if_pos ⟨.inl (by omega), by omega⟩]
          unfold t_B
          rw [if_pos (.inl (by omega)), show (4 * p + w) / 4 = p by omega, show (4 * p + w) % 4 = w by omega, hH]
        · rw [upd_ne _ _ c2, a25, h5 j hj]
          by_cases c3 : (j / 4 = p ∨ j / 4 = q) ∧ j % 4 < w
          · rw [if_pos c3, if_pos ⟨c3.1, by omega⟩]
          · rw [if_neg c3, if_neg (by omega)])
    refine ⟨C5, ?_, s5, g5, h55⟩
    rw [show r + 1 + 1 + m = (r + 1 + m) + 1 by omega]
    refine Eq.trans ?_ e5
    show k_26_2b _ _ _ _ _ _ _ _ _ = _
    unfold k_26_2b
    simp only [e_bd, e_bdn, e_st, e_li, e_bs, e_opn, e_ops, e_ob, e_vo, e_ia, e_eq, e_ne, e_lt, e_ge, e_gt, e_le, cond_true, cond_false, Bool.cond_decide, show ¬ (4 : Int32) ≤ Int32.ofNat (w) by rw [show (4 : Int32) = Int32.ofNat 4 from rfl, o_le (by omega) (by omega)]; omega, if_false, e1, e2, hH, e3, e4, show Int32.ofNat (w) + 1 = Int32.ofNat (w + 1) from o_add (q := 1)]
/-- gainTogether -/
theorem k_tog (hN : 200 ≤ N) (hd : d_ok d) (hf : f_ok d F) (hC : CS C P vl R d F) (h10 : ∀ j, j < 4 * d_n d → C 10 j = b_all d F j) {p q : Nat} (hp : p < d_n d) (hq : q < d_n d) (hpq : p ≠ q) : ∃ C', k_26 N P vl R (Int32.ofNat p) (Int32.ofNat q) C = some (b_gn d F (t_B d F p q) p + b_gn d F (t_B d F p q) q, C') ∧ CS C' P vl R d F ∧ fr [10, 11, 12, 92] C C' ∧ (∀ j, j < 4 * d_n d → C' 10 j = b_all d F j) := by
  have hn := hd.2.2.2.1
  obtain ⟨C1, e1, s1, f1, h1⟩ := k_le1 (N := N) (C0 := C) (m := N - 5) hN hd hf hp hq hpq 4 0 C (by omega) hC fr_rfl (fun j hj => by rw [if_neg (by omega)]; exact h10 j hj)
  rw [show 4 + 1 + (N - 5) = N by omega] at e1
  obtain ⟨C2, e2, f2, p2, o2⟩ := k_set hN hd hf s1 h1
  have s2 := CS_f2 s1 f2 (by decide) (by decide) (by decide) (by decide) p2 (by decide) (by decide) (by decide)
  obtain ⟨C3, e3, f3⟩ := k_gain hN hd hf (tB_ok hf) s2 o2 hp
  have s3 := CS12 s2 f3
  have o3 := CO_fr o2 f3 (by decide) (by decide) (by decide)
  obtain ⟨C4, e4, f4⟩ := k_gain hN hd hf (tB_ok hf) s3 o3 hq
  have s4 := CS12 s3 f4
  obtain ⟨C5, e5, f5, h5⟩ := k_ask hN hd hf s4 hp
  have s5 := CS_fr s4 f5 (by decide) (by decide) (by decide) (by decide) (by decide)
  obtain ⟨C6, e6, f6, h6⟩ := k_ask hN hd hf s5 hq
  have s6 := CS_fr s5 f6 (by decide) (by decide) (by decide) (by decide) (by decide)
  refine ⟨C6, ?_, s6, fr_tr (fr_mono f1 (by simp)) (fr_tr (fr_mono f2 (by simp)) (fr_tr (fr_mono f3 (by simp)) (fr_tr (fr_mono f4 (by simp)) (fr_tr (fr_mono f5 (by simp)) (fr_mono f6 (by simp)))))), ?_⟩
  · have e1' : k_26_2 N P vl R N (Int32.ofNat p) (Int32.ofNat q) 0 C = _ := e1
    unfold k_26
    rw [e1']
    unfold k_26_2b
    simp only [e_bd, e_bdn, e_st, e_li, e_bs, e_opn, e_ops, e_ob, e_vo, e_ia, e_eq, e_ne, e_lt, e_ge, e_gt, e_le, cond_true, cond_false, Bool.cond_decide, show (4 : Int32) ≤ 4 by decide, if_true, e2, e3, e4, e5, e6]
  · intro j hj
    rw [h6 j]
    split
    · rfl
    · rename_i c1
      rw [h5 j]
      split
      · rfl
      · rename_i c2
        rw [fr_at f4 (by decide), fr_at f3 (by decide), o2.1 j hj]
        unfold t_B
        rw [if_neg (by omega)]
/-- many and first go together -/
def LF (many first : Int32) (k : Nat) : Prop := (many = 0 ∧ first = -5) ∨ ∃ a, 0 < a ∧ a ≤ k ∧ many = Int32.ofNat a ∧ ¬ first = -5
theorem q_le1 (hN : 200 ≤ N) (hd : d_ok d) (hf : f_ok d F) {A0 C0 : mS} {p : Nat} (hp : p < d_n d) (h14 : ∀ q, q < d_n d → C0 14 q = b_gn d F (b_all d F) q) {x1 : Int32} {rcM : Int32 → Int32 → Int32 → Int32 → mS → Option (Int32 × mS)} {rcC : Int32 → Int32 → Int32 → Int32 → mS → Option (Int32 × mS)} {m m' : Nat} :
    ∀ (r q : Nat) (A C : mS) (many first : Int32), q + r = d_n d → p < q → LF many first (8 * p + q) → LM A0 A d F → CS C P vl R d F → fr [10, 11, 12, 92] C0 C → (∀ j, j < 4 * d_n d → C 10 j = b_all d F j) →
    ∃ (many' first' : Int32) (A' C' : mS), g_160_23 N rcM (r + 1 + m) x1 many first (Int32.ofNat p) (Int32.ofNat q) A = rcM x1 many' first' (Int32.ofNat (p + 1)) A' ∧ k_89_45 N P vl R rcC (r + 1 + m') x1 many first (Int32.ofNat p) (Int32.ofNat q) C = rcC x1 many' first' (Int32.ofNat (p + 1)) C' ∧ LF many' first' (8 * p + d_n d) ∧ LM A0 A' d F ∧ CS C' P vl R d F ∧ fr [10, 11, 12, 92] C0 C' ∧ (∀ j, j < 4 * d_n d → C' 10 j = b_all d F j) := by
  have hn := hd.2.2.2.1
  intro r
  induction r with
  | zero =>
    intro q A C many first hq hpq hLF hL hC hf0 h10
    obtain rfl : q = d_n d := by omega
    refine ⟨many, first, A, C, ?_, ?_, hLF, hL, hC, hf0, h10⟩
    · rw [show 0 + 1 + m = m + 1 by omega]
      show g_160_23b _ _ _ _ _ _ _ _ _ = _
      unfold g_160_23b
      simp only [e_bd, e_bdn, e_st, e_li, e_bs, e_opn, e_ops, e_ob, e_vo, e_ia, e_eq, e_ne, e_lt, e_ge, e_gt, e_le, cond_true, cond_false, Bool.cond_decide, hL.1.1.2.1, z_le, Int.le_refl, if_true, show Int32.ofNat (p) + 1 = Int32.ofNat (p + 1) from o_add (q := 1)]
    · rw [show 0 + 1 + m' = m' + 1 by omega]
      show k_89_45b _ _ _ _ _ _ _ _ _ _ _ _ = _
      unfold k_89_45b
      simp only [e_bd, e_bdn, e_st, e_li, e_bs, e_opn, e_ops, e_ob, e_vo, e_ia, e_eq, e_ne, e_lt, e_ge, e_gt, e_le, cond_true, cond_false, Bool.cond_decide, hC.1.2.1, z_le, Int.le_refl, if_true, show Int32.ofNat (p) + 1 = Int32.ofNat (p + 1) from o_add (q := 1)]
  | succ r ih =>
    intro q A C many first hq hpq hLF hL hC hf0 h10
    have hqn : q < d_n d := by omega
    have hne : p ≠ q := by omega
    obtain ⟨A1, e1, f1, h1⟩ := m_tb hN hd hf hL.1
    have M1 := MS_fr hL.1 f1 (by decide)
    obtain ⟨A2, e2, f2, p2, O2⟩ := m_se hN hd hf (B_all hf) M1 h1
    have M2 := MS_fr M1 f2 (by decide)
    obtain ⟨A3, e3, f3⟩ := m_gain hN hd hf (B_all hf) M2 O2 hp
    have M3 := MS_fr M2 f3 (by decide)
    have O3 := MO_fr O2 f3 (by decide) (by decide) (by decide)
    obtain ⟨A4, e4, f4⟩ := m_gain hN hd hf (B_all hf) M3 O3 hqn
    have M4 := MS_fr M3 f4 (by decide)
    have L4 : LM A0 A4 d F := ⟨M4, fr_tr hL.2.1 (fr_tr (fr_mono f1 (by simp)) (fr_tr (fr_mono f2 (by simp)) (fr_tr (fr_mono f3 (by simp)) (fr_mono f4 (by simp))))), f9_tr hL.2.2 (f9_tr (f9_fr f1 (by decide)) (f9_tr p2 (f9_tr (f9_fr f3 (by decide)) (f9_fr f4 (by decide)))))⟩
    obtain ⟨A5, e5, L5, h55⟩ := m_le1 (N := N) (A0 := A0) (rc13 := rcM) (rc23 := g_160_23 N rcM (r + 1 + m)) (x1 := x1) (x2 := many) (x3 := first) (x6 := b_gn d F (b_all d F) p + b_gn d F (b_all d F) q) (m := N - 5) hN hd hf hp hqn hne 4 0 A4 (by omega) L4 (fun j hj => by rw [if_neg (by omega), fr_at f4 (by decide), fr_at f3 (by decide)]; exact O2.1 j hj)
    rw [show 4 + 1 + (N - 5) = N by omega] at e5
    obtain ⟨A6, e6, f6, p6, O6⟩ := m_se hN hd hf (tB_ok hf) L5.1 h55
    have M6 := MS_fr L5.1 f6 (by decide)
    obtain ⟨A7, e7, f7⟩ := m_gain hN hd hf (tB_ok hf) M6 O6 hp
    have M7 := MS_fr M6 f7 (by decide)
    have O7 := MO_fr O6 f7 (by decide) (by decide) (by decide)
    obtain ⟨A8, e8, f8⟩ := m_gain hN hd hf (tB_ok hf) M7 O7 hqn
    have M8 := MS_fr M7 f8 (by decide)
    have L8 : LM A0 A8 d F := ⟨M8, fr_tr L5.2.1 (fr_tr (fr_mono f6 (by simp)) (fr_tr (fr_mono f7 (by simp)) (fr_mono f8 (by simp)))), f9_tr L5.2.2 (f9_tr p6 (f9_tr (f9_fr f7 (by decide)) (f9_fr f8 (by decide))))⟩
    obtain ⟨C1, ec1, s1, g1, hc1⟩ := k_tog hN hd hf hC h10 hp hqn hne
    have g01 := fr_tr hf0 g1
    have h14p : C1 14 p = b_gn d F (b_all d F) p := by rw [fr_at g01 (by decide)]; exact h14 p hp
    have h14q : C1 14 q = b_gn d F (b_all d F) q := by rw [fr_at g01 (by decide)]; exact h14 q hqn
    have e5' : g_160_43 N rcM (g_160_23 N rcM (r + 1 + m)) N x1 many first (Int32.ofNat p) (Int32.ofNat q) (b_gn d F (b_all d F) p + b_gn d F (b_all d F) q) 0 A4 = _ := e5
    generalize hG : b_gn d F (t_B d F p q) p + b_gn d F (t_B d F p q) q = G at ec1
    generalize hI : b_gn d F (b_all d F) p + b_gn d F (b_all d F) q = I at e5'
    by_cases c : G ≤ I
    · obtain ⟨many', first', A', C', t1, t2, t3, t4, t5, t6, t7⟩ := ih (q + 1) A8 C1 many first (by omega) (by omega) (by
        rcases hLF with h | ⟨a, ha1, ha2, ha3, ha4⟩
        · exact .inl h
        · exact .inr ⟨a, ha1, by omega, ha3, ha4⟩) L8 s1 g01 hc1
      refine ⟨many', first', A', C', ?_, ?_, t3, t4, t5, t6, t7⟩
      · rw [← t1, show r + 1 + 1 + m = (r + 1 + m) + 1 by omega]
        show g_160_23b _ _ _ _ _ _ _ _ _ = _
        unfold g_160_23b
        simp only [e_bd, e_bdn, e_st, e_li, e_bs, e_opn, e_ops, e_ob, e_vo, e_ia, e_eq, e_ne, e_lt, e_ge, e_gt, e_le, cond_true, cond_false, Bool.cond_decide, hL.1.1.2.1, show ¬ Int32.ofNat (d_n d) ≤ Int32.ofNat (q) by rw [o_le (by omega) (by omega)]; omega, if_false, e1, e2, e3, e4, hI]
        rw [e5']
        unfold g_160_43b g_160_98 g_160_105
        simp only [e_bd, e_bdn, e_st, e_li, e_bs, e_opn, e_ops, e_ob, e_vo, e_ia, e_eq, e_ne, e_lt, e_ge, e_gt, e_le, cond_true, cond_false, Bool.cond_decide, show (4 : Int32) ≤ 4 by decide, if_true, e6, e7, e8, hG, c, Int32.add_zero, show Int32.ofNat (q) + 1 = Int32.ofNat (q + 1) from o_add (q := 1)]
      · rw [← t2, show r + 1 + 1 + m' = (r + 1 + m') + 1 by omega]
        show k_89_45b _ _ _ _ _ _ _ _ _ _ _ _ = _
        unfold k_89_45b
        simp only [e_bd, e_bdn, e_st, e_li, e_bs, e_opn, e_ops, e_ob, e_vo, e_ia, e_eq, e_ne, e_lt, e_ge, e_gt, e_le, cond_true, cond_false, Bool.cond_decide, hC.1.2.1, show ¬ Int32.ofNat (d_n d) ≤ Int32.ofNat (q) by rw [o_le (by omega) (by omega)]; omega, if_false, ec1, show a_in (Int32.ofNat (p)) 8 = true by rw [o_in (by omega)]; simp; omega, o_cl (show p < 2147483648 by omega), show a_in (Int32.ofNat (q)) 8 = true by rw [o_in (by omega)]; simp; omega, o_cl (show q < 2147483648 by omega), h14p, h14q, hI, c, if_true, show Int32.ofNat (q) + 1 = Int32.ofNat (q + 1) from o_add (q := 1)]
    · have h10 : (10 : Int32) * Int32.ofNat p + Int32.ofNat q = Int32.ofNat (10 * p + q) := by
        rw [show (10 : Int32) = Int32.ofNat 10 from rfl, o_mul, o_add]
      have hn5 : ¬ Int32.ofNat (10 * p + q) = -5 := by
        rw [z_eq, z_ofNat (by omega), show (-5 : Int32).toInt = -5 from rfl]; omega
      obtain ⟨many', first', A', C', t1, t2, t3, t4, t5, t6, t7⟩ := ih (q + 1) A8 C1 (many + 1) (if many = 0 then Int32.ofNat (10 * p + q) else first) (by omega) (by omega) (by
        rcases hLF with ⟨h, -⟩ | ⟨a, ha1, ha2, ha3, ha4⟩
        · rw [if_pos h, h]
          exact .inr ⟨1, by omega, by omega, rfl, hn5⟩
        · have hz : ¬ many = 0 := by rw [ha3, show (0 : Int32) = Int32.ofNat 0 from rfl, o_eq (by omega) (by omega)]; omega
          rw [if_neg hz]
          exact .inr ⟨a + 1, by omega, by omega, by rw [ha3]; exact o_add (q := 1), ha4⟩) L8 s1 g01 hc1
      refine ⟨many', first', A', C', ?_, ?_, t3, t4, t5, t6, t7⟩
      · rw [← t1, show r + 1 + 1 + m = (r + 1 + m) + 1 by omega]
        show g_160_23b _ _ _ _ _ _ _ _ _ = _
        unfold g_160_23b
        simp only [e_bd, e_bdn, e_st, e_li, e_bs, e_opn, e_ops, e_ob, e_vo, e_ia, e_eq, e_ne, e_lt, e_ge, e_gt, e_le, cond_true, cond_false, Bool.cond_decide, hL.1.1.2.1, show ¬ Int32.ofNat (d_n d) ≤ Int32.ofNat (q) by rw [o_le (by omega) (by omega)]; omega, if_false, e1, e2, e3, e4, hI]
        rw [e5']
        unfold g_160_43b g_160_98 g_160_105
        simp only [e_bd, e_bdn, e_st, e_li, e_bs, e_opn, e_ops, e_ob, e_vo, e_ia, e_eq, e_ne, e_lt, e_ge, e_gt, e_le, cond_true, cond_false, Bool.cond_decide, show (4 : Int32) ≤ 4 by decide, if_true, e6, e7, e8, hG, c, if_false, show ¬ (1 : Int32) = 0 by decide, show Int32.ofNat (q) + 1 = Int32.ofNat (q + 1) from o_add (q := 1), h10]
        rcases hLF with ⟨h, h'⟩ | ⟨a, ha1, ha2, ha3, ha4⟩
        · rw [if_pos h, if_neg (by simp [h'])]
        · have hz : ¬ many = 0 := by rw [ha3, show (0 : Int32) = Int32.ofNat 0 from rfl, o_eq (by omega) (by omega)]; omega
          rw [if_neg hz, if_pos ha4]
      · rw [← t2, show r + 1 + 1 + m' = (r + 1 + m') + 1 by omega]
        show k_89_45b _ _ _ _ _ _ _ _ _ _ _ _ = _
        unfold k_89_45b
        simp only [e_bd, e_bdn, e_st, e_li, e_bs, e_opn, e_ops, e_ob, e_vo, e_ia, e_eq, e_ne, e_lt, e_ge, e_gt, e_le, cond_true, cond_false, Bool.cond_decide, hC.1.2.1, show ¬ Int32.ofNat (d_n d) ≤ Int32.ofNat (q) by rw [o_le (by omega) (by omega)]; omega, if_false, ec1, show a_in (Int32.ofNat (p)) 8 = true by rw [o_in (by omega)]; simp; omega, o_cl (show p < 2147483648 by omega), show a_in (Int32.ofNat (q)) 8 = true by rw [o_in (by omega)]; simp; omega, o_cl (show q < 2147483648 by omega), h14p, h14q, hI, c, show Int32.ofNat (q) + 1 = Int32.ofNat (q + 1) from o_add (q := 1), h10]
        by_cases hz : many = 0
        · rw [if_neg (by simp [hz]), if_pos hz]
        · rw [if_pos hz, if_neg hz]
theorem q_le2 (hN : 200 ≤ N) (hd : d_ok d) (hf : f_ok d F) {A0 C0 : mS} (h14 : ∀ q, q < d_n d → C0 14 q = b_gn d F (b_all d F) q) {x1 : Int32} {m m' : Nat} :
    ∀ (r p : Nat) (A C : mS) (many first : Int32), p + r = d_n d → LF many first (8 * p) → LM A0 A d F → CS C P vl R d F → fr [10, 11, 12, 92] C0 C → (∀ j, j < 4 * d_n d → C 10 j = b_all d F j) →
    ∃ (v : Int32) (A' C' : mS), g_160_13 N (r + 1 + m) x1 many first (Int32.ofNat p) A = some (v, A') ∧ k_89_36 N P vl R (r + 1 + m') x1 many first (Int32.ofNat p) C = some (v, C') ∧ LM A0 A' d F ∧ fr [10, 11, 12, 92] C0 C' := by
  have hn := hd.2.2.2.1
  intro r
  induction r with
  | zero =>
    intro p A C many first hp hLF hL hC hf0 h10
    obtain rfl : p = d_n d := by omega
    refine ⟨if x1 = 0 then many else first, A, C, ?_, ?_, hL, hf0⟩
    · rw [show 0 + 1 + m = m + 1 by omega]
      show g_160_13b _ _ _ _ _ _ _ = _
      unfold g_160_13b
      simp only [e_bd, e_bdn, e_st, e_li, e_bs, e_opn, e_ops, e_ob, e_vo, e_ia, e_eq, e_ne, e_lt, e_ge, e_gt, e_le, cond_true, cond_false, Bool.cond_decide, hL.1.1.2.1, z_le, Int.le_refl, if_true]
      by_cases c : x1 = 0
      · simp only [c, not_true, if_false, if_true]
      · simp only [c, not_false_eq_true, if_false, if_true]
    · rw [show 0 + 1 + m' = m' + 1 by omega]
      show k_89_36b _ _ _ _ _ _ _ _ _ _ = _
      unfold k_89_36b
      simp only [e_bd, e_bdn, e_st, e_li, e_bs, e_opn, e_ops, e_ob, e_vo, e_ia, e_eq, e_ne, e_lt, e_ge, e_gt, e_le, cond_true, cond_false, Bool.cond_decide, hC.1.2.1, z_le, Int.le_refl, if_true]
      by_cases c : x1 = 0
      · simp only [c, not_true, if_false, if_true]
      · simp only [c, not_false_eq_true, if_false, if_true]
  | succ r ih =>
    intro p A C many first hp hLF hL hC hf0 h10
    obtain ⟨many', first', A1, C1, e1, ec1, t3, t4, t5, t6, t7⟩ := q_le1 (N := N) (A0 := A0) (C0 := C0) (p := p) (x1 := x1) (rcM := g_160_13 N (r + 1 + m)) (rcC := k_89_36 N P vl R (r + 1 + m')) (m := N - (d_n d - (p + 1) + 1)) (m' := N - (d_n d - (p + 1) + 1)) hN hd hf (by omega) h14 (d_n d - (p + 1)) (p + 1) A C many first (by omega) (by omega) (by
      rcases hLF with h | ⟨a, ha1, ha2, ha3, ha4⟩
      · exact .inl h
      · exact .inr ⟨a, ha1, by omega, ha3, ha4⟩) hL hC hf0 h10
    rw [show d_n d - (p + 1) + 1 + (N - (d_n d - (p + 1) + 1)) = N by omega] at e1 ec1
    obtain ⟨v, A2, C2, e2, ec2, u1, u2⟩ := ih (p + 1) A1 C1 many' first' (by omega) (by
      rcases t3 with h | ⟨a, ha1, ha2, ha3, ha4⟩
      · exact .inl h
      · exact .inr ⟨a, ha1, by omega, ha3, ha4⟩) t4 t5 t6 t7
    refine ⟨v, A2, C2, ?_, ?_, u1, u2⟩
    · rw [show r + 1 + 1 + m = (r + 1 + m) + 1 by omega]
      refine Eq.trans ?_ (e1.trans e2)
      show g_160_13b _ _ _ _ _ _ _ = _
      unfold g_160_13b
      simp only [e_bd, e_bdn, e_st, e_li, e_bs, e_opn, e_ops, e_ob, e_vo, e_ia, e_eq, e_ne, e_lt, e_ge, e_gt, e_le, cond_true, cond_false, Bool.cond_decide, hL.1.1.2.1, show ¬ Int32.ofNat (d_n d) ≤ Int32.ofNat (p) by rw [o_le (by omega) (by omega)]; omega, if_false, show Int32.ofNat (p) + 1 = Int32.ofNat (p + 1) from o_add (q := 1)]
    · rw [show r + 1 + 1 + m' = (r + 1 + m') + 1 by omega]
      refine Eq.trans ?_ (ec1.trans ec2)
      show k_89_36b _ _ _ _ _ _ _ _ _ _ = _
      unfold k_89_36b
      simp only [e_bd, e_bdn, e_st, e_li, e_bs, e_opn, e_ops, e_ob, e_vo, e_ia, e_eq, e_ne, e_lt, e_ge, e_gt, e_le, cond_true, cond_false, Bool.cond_decide, hC.1.2.1, show ¬ Int32.ofNat (d_n d) ≤ Int32.ofNat (p) by rw [o_le (by omega) (by omega)]; omega, if_false, show Int32.ofNat (p) + 1 = Int32.ofNat (p + 1) from o_add (q := 1)]
theorem k_le0 (hN : 200 ≤ N) (hd : d_ok d) (hf : f_ok d F) {x1 : Int32} {C0 : mS} {m : Nat} : ∀ (r p : Nat) (C : mS), p + r = d_n d → CS C P vl R d F → CO C d F (b_all d F) → fr [12, 14] C0 C → (∀ q, q < p → C 14 q = b_gn d F (b_all d F) q) → ∃ C', k_89_15 N P vl R (r + 1 + m) x1 (Int32.ofNat p) C = k_89_36 N P vl R N x1 0 (-5) 0 C' ∧ CS C' P vl R d F ∧ CO C' d F (b_all d F) ∧ fr [12, 14] C0 C' ∧ (∀ q, q < d_n d → C' 14 q = b_gn d F (b_all d F) q) := by
  have hn := hd.2.2.2.1
  intro r
  induction r with
  | zero =>
    intro p C hp hC hO hf0 h14
    obtain rfl : p = d_n d := by omega
    refine ⟨C, ?_, hC, hO, hf0, h14⟩
    rw [show 0 + 1 + m = m + 1 by omega]
    show k_89_15b _ _ _ _ _ _ _ _ = _
    unfold k_89_15b
    simp only [e_bd, e_bdn, e_st, e_li, e_bs, e_opn, e_ops, e_ob, e_vo, e_ia, e_eq, e_ne, e_lt, e_ge, e_gt, e_le, cond_true, cond_false, Bool.cond_decide, hC.1.2.1, z_le, Int.le_refl, if_true]
  | succ r ih =>
    intro p C hp hC hO hf0 h14
    obtain ⟨C1, e1, f1⟩ := k_gain hN hd hf (B_all hf) hC hO (show p < d_n d by omega)
    generalize hC2 : va_up C1 14 (upd (C1 14) p (b_gn d F (b_all d F) p)) = C2
    have f2 : fr [12, 14] C C2 := by rw [← hC2]; exact fr_up (fr_mono f1 (by simp)) (by simp)
    obtain ⟨C3, e3, t1, t2, t3, t4⟩ := ih (p + 1) C2 (by omega) (CS_fr hC f2 (by decide) (by decide) (by decide) (by decide) (by decide)) (CO_fr hO f2 (by decide) (by decide) (by decide)) (fr_tr hf0 f2) (fun q hq => by
      rw [← hC2, va_up_self]
      by_cases c : q = p
      · subst c; rw [upd_self]
      · rw [upd_ne _ _ c, fr_at f1 (by decide)]; exact h14 q (by omega))
    refine ⟨C3, ?_, t1, t2, t3, t4⟩
    rw [← e3, show r + 1 + 1 + m = (r + 1 + m) + 1 by omega]
    show k_89_15b _ _ _ _ _ _ _ _ = _
    unfold k_89_15b
    simp only [e_bd, e_bdn, e_st, e_li, e_bs, e_opn, e_ops, e_ob, e_vo, e_ia, e_eq, e_ne, e_lt, e_ge, e_gt, e_le, cond_true, cond_false, Bool.cond_decide, hC.1.2.1, show ¬ Int32.ofNat (d_n d) ≤ Int32.ofNat (p) by rw [o_le (by omega) (by omega)]; omega, if_false, e1, show a_in (Int32.ofNat (p)) 8 = true by rw [o_in (by omega)]; simp; omega, o_cl (show p < 2147483648 by omega), hC2, show Int32.ofNat (p) + 1 = Int32.ofNat (p + 1) from o_add (q := 1)]
theorem q_leag (hN : 200 ≤ N) (hd : d_ok d) (hf : f_ok d F) (hM : MS A d F) (hC : CD C P vl R d) (hW : WF C F) (x1 : Int32) : ∃ r A' C', g_160 N x1 A = some (r, A') ∧ k_89 N P vl R x1 C = some (r, C') ∧ QM A A' ∧ QC C C' := by
  have hn := hd.2.2.2.1
  have k0 : (0 : Int32).toInt = 0 := rfl
  have k1 : (1 : Int32).toInt = 1 := rfl
  unfold g_160 k_89
  simp only [m_in, e_bd, e_bdn, e_st, e_li, e_bs, e_opn, e_ops, e_ob, e_vo, e_ia, e_eq, e_ne, e_lt, e_ge, e_gt, e_le, cond_true, cond_false, Bool.cond_decide, z_le, z_lt, k0, k1]
  by_cases c1 : 0 ≤ x1.toInt ∧ x1.toInt ≤ 1
  · rw [decide_eq_true c1, if_pos (show ¬ b_i true = 0 by decide), if_neg (show ¬ x1.toInt < 0 by omega), if_pos (show x1.toInt ≤ 1 by omega)]
    obtain ⟨C1, ec1, sc1, fc1⟩ := k_beg (N := N) hC hW
    obtain ⟨C2, ec2, fc2, -, oc2, sc2⟩ := k_open hN hd hf sc1
    obtain ⟨C3, ec3, sc3, oc3, fc3, h14⟩ := k_le0 (N := N) (x1 := x1) (C0 := C2) (m := N - (d_n d + 1)) hN hd hf (d_n d) 0 C2 (by omega) sc2 oc2 fr_rfl (fun q hq => by omega)
    rw [show d_n d + 1 + (N - (d_n d + 1)) = N by omega] at ec3
    obtain ⟨v, A2, C4, e2, ec4, L2, fc4⟩ := q_le2 (N := N) (A0 := A) (C0 := C3) (x1 := x1) (m := N - (d_n d + 1)) (m' := N - (d_n d + 1)) hN hd hf h14 (d_n d) 0 A C3 0 (-5) (by omega) (.inl ⟨rfl, rfl⟩) ⟨hM, fr_rfl, fun _ _ => rfl⟩ sc3 fr_rfl oc3.1
    rw [show d_n d + 1 + (N - (d_n d + 1)) = N by omega] at e2 ec4
    refine ⟨v, A2, C4, e2, ?_, QM_f9 L2.2.1 (by decide) (by decide) (by decide) L2.2.2 (by decide) (by decide), fr_mono (fr_tr (fr_mono fc1 (T := [9, 10, 11, 12, 14, 92]) (by simp)) (fr_tr (fr_mono fc2 (by simp)) (fr_tr (fr_mono fc3 (by simp)) (fr_mono fc4 (by simp))))) (by simp)⟩
    simp only [ec1, ec2, e_bd, e_bdn, e_st, e_li, e_bs, e_opn, e_ops, e_ob, e_vo, e_ia, e_eq, e_ne, e_lt, e_ge, e_gt, e_le, cond_true, cond_false, Bool.cond_decide]
    exact ec3.trans ec4
  · rw [decide_eq_false c1, if_neg (show ¬ ¬ b_i false = 0 by decide)]
    refine ⟨-1, A, C, rfl, ?_, QM_rfl, fr_rfl⟩
    split
    · rfl
    · rw [if_neg (by omega)]
end Q8
