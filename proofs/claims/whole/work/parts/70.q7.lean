/-! 70.q7: bounds of a gain; truly -/
theorem z_dbd {x y : Int32} {K : Int} (hK : K ≤ 1000000) (h1 : -K ≤ x.toInt) (h2 : x.toInt ≤ K) (hy : 0 < y.toInt) : -K ≤ (x / y).toInt ∧ (x / y).toInt ≤ K := by
  have h3 : (x.toInt.tdiv y.toInt).natAbs ≤ x.toInt.natAbs := by
    rw [Int.natAbs_tdiv]
    exact Nat.div_le_self _ _
  rw [Int32.toInt_div, Int.bmod_eq_of_le] <;> omega
section BD
variable {d : dS} {F : fS} {B : Nat → Int32}
theorem sw_ok {b : Nat → Int32} : ∀ (V : List cl) (x : Int32), (∀ c, c ∈ V → c_ok c) → -100000 + 100 * (V.length : Int) ≤ x.toInt → x.toInt ≤ 100000 - 100 * (V.length : Int) → x.toInt - 100 * V.length ≤ (s_w b V x).toInt ∧ (s_w b V x).toInt ≤ x.toInt + 100 * V.length := by
  intro V
  induction V with
  | nil => intro x _ _ _; simp [s_w]
  | cons c V ih =>
    intro x hok h1 h2
    simp only [List.length_cons] at h1 h2 ⊢
    have hc := (hok c List.mem_cons_self).2.2
    have ha := c_am_z hc
    have hb : -100 ≤ (c_am c).toInt ∧ (c_am c).toInt ≤ 100 := by
      split at ha <;> omega
    simp only [s_w]
    split
    · have he : (x + c_am c).toInt = x.toInt + (c_am c).toInt := z_add (by omega) (by omega)
      have := ih (x + c_am c) (fun c' h' => hok c' (List.mem_cons_of_mem _ h')) (by omega) (by omega)
      omega
    · have := ih x (fun c' h' => hok c' (List.mem_cons_of_mem _ h')) (by omega) (by omega)
      omega
theorem wa_ok (hd : d_ok d) (p : Nat) (w y dy : Int32) : -1000 ≤ (w_at d p w y dy).toInt ∧ (w_at d p w y dy).toInt ≤ 1000 := by
  have k0 : (0 : Int32).toInt = 0 := rfl
  have hl := hd.1.1
  have := sw_ok (b := w_by w y dy (Int32.ofNat p) (Int32.ofNat (d_kd d p))) (d_V d) 0 hd.1.2 (by omega) (by omega)
  unfold w_at
  omega
theorem nd_ok (hn : d_n d ≤ 8) (hB : B_ok d B) {so : Int32} : ∀ k, k ≤ 4 → 0 ≤ (b_2nd (b_S d B) so k).toInt ∧ (b_2nd (b_S d B) so k).toInt ≤ 8000 := by
  intro k
  induction k with
  | zero => intro _; exact ⟨show (0 : Int) ≤ (0 : Int32).toInt by decide, show (0 : Int32).toInt ≤ 8000 by decide⟩
  | succ k ih =>
    intro hk
    have h1 := ih (by omega)
    have h2 := S_ok hn hB (show k < 4 by omega)
    simp only [b_2nd, i_mx]
    split
    · exact h1
    · split
      · exact h2
      · exact h1
theorem pay_hi (hd : d_ok d) (hf : f_ok d F) (hB : B_ok d B) {p : Nat} (hp : p < d_n d) : (b_pay d F B p).toInt ≤ 100000 := by
  have hn := hd.2.2.2.1
  have k0 : (0 : Int32).toInt = 0 := rfl
  obtain ⟨q, hq, hso⟩ := so_ok (B := B) hd hf
  have h1 := mo_ok hn hB hp 4 (by omega)
  have h2 := S_ok hn hB hq
  have h3 := hB (4 * p + q) (by omega)
  have h4 := nd_ok (so := Int32.ofNat q) hn hB 4 (by omega)
  unfold b_pay b_hm
  rw [hso, o_cl (by omega)]
  split
  · rename_i ha
    split
    · have e1 : (b_S d B q - B (4 * p + q)).toInt = (b_S d B q).toInt - (B (4 * p + q)).toInt := z_sub (by omega) (by omega)
      rw [z_sub (by omega) (by omega)]
      omega
    · split
      · have hcp := cnt_pos (F := F) hd hB ha
        rw [hso, o_cl (by omega)] at hcp
        have hcl := cnt_le (B := B) (so := q) (d_n d)
        have e1 : (b_S d B q - b_2nd (b_S d B) (Int32.ofNat q) 4).toInt = (b_S d B q).toInt - (b_2nd (b_S d B) (Int32.ofNat q) 4).toInt := z_sub (by omega) (by omega)
        have e2 := z_dbd (x := b_S d B q - b_2nd (b_S d B) (Int32.ofNat q) 4) (y := Int32.ofNat (b_cnt B q (d_n d))) (K := 8000) (by omega) (by omega) (by omega) (by rw [z_ofNat (by omega)]; omega)
        generalize (b_S d B q - b_2nd (b_S d B) (Int32.ofNat q) 4) / Int32.ofNat (b_cnt B q (d_n d)) = z at e2
        have e3 : (B (4 * p + q) - z).toInt = (B (4 * p + q)).toInt - z.toInt := z_sub (by omega) (by omega)
        unfold i_mx
        split <;> omega
      · omega
  · omega
theorem gn_ok (hd : d_ok d) (hf : f_ok d F) (hB : B_ok d B) {p : Nat} (hp : p < d_n d) : -200000 ≤ (b_gn d F B p).toInt ∧ (b_gn d F B p).toInt ≤ 200000 := by
  have h1 := pay_ok hd hf hB hp
  have h2 := pay_hi hd hf hB hp
  have h3 := wa_ok hd p (b_so d F B) (f_ah F) (f_dy F)
  unfold b_gn w_now
  rw [z_sub (by omega) (by omega)]
  omega
end BD
section Q7
variable {N : Nat} {d : dS} {F : fS} {A C : mS} {P : Nat → Option Nat} {vl : Option Nat} {R : List aC}
/-- gainByLie -/
theorem k_lie (hN : 200 ≤ N) (hd : d_ok d) (hf : f_ok d F) {B : Nat → Int32} (hC : CS C P vl R d F) (h10 : ∀ j, j < 4 * d_n d → C 10 j = B j) {p w : Nat} (hp : p < d_n d) (hw : w < 4) {b : Int32} (hB : B_ok d (upd B (4 * p + w) b)) : ∃ C', k_25 N P vl R (Int32.ofNat p) (Int32.ofNat w) b C = some (b_gn d F (upd B (4 * p + w) b) p, C') ∧ CS C' P vl R d F ∧ fr [10, 11, 12, 92] C C' ∧ (∀ j, j < 4 * d_n d → C' 10 j = B j) := by
  have hn := hd.2.2.2.1
  generalize hC2 : va_up C 10 (upd (C 10) (4 * p + w) b) = C2
  have f2 : fr [10] C C2 := by rw [← hC2]; exact fr_up fr_rfl (by simp)
  have s2 := CS_fr hC f2 (by decide) (by decide) (by decide) (by decide) (by decide)
  obtain ⟨C3, e3, f3, p3, o3⟩ := k_set (N := N) (B := upd B (4 * p + w) b) hN hd hf s2 (fun j hj => by
    rw [← hC2, va_up_self]
    by_cases c : j = 4 * p + w
    · subst c; rw [upd_self, upd_self]
    · rw [upd_ne _ _ c, upd_ne _ _ c]; exact h10 j hj)
  have s3 := CS_f2 s2 f3 (by decide) (by decide) (by decide) (by decide) p3 (by decide) (by decide) (by decide)
  obtain ⟨C4, e4, f4⟩ := k_gain hN hd hf hB s3 o3 hp
  have s4 := CS12 s3 f4
  have f24 : fr [10, 11, 12, 92] C C4 := fr_tr (fr_mono f2 (by simp)) (fr_tr (fr_mono f3 (by simp)) (fr_mono f4 (by simp)))
  have g4 : fr [10] C4 (va_up C4 10 (upd (C4 10) (4 * p + w) (B (4 * p + w)))) := fr_up fr_rfl (by simp)
  refine ⟨va_up C4 10 (upd (C4 10) (4 * p + w) (B (4 * p + w))), ?_, CS_fr s4 g4 (by decide) (by decide) (by decide) (by decide) (by decide), fr_up f24 (by simp), ?_⟩
  · unfold k_25
    simp only [e_bd, e_bdn, e_st, e_li, e_bs, e_opn, e_ops, e_ob, e_vo, e_ia, e_eq, e_ne, e_lt, e_ge, e_gt, e_le, cond_true, cond_false, Bool.cond_decide, show Int32.ofNat (p) * 4 + Int32.ofNat (w) = Int32.ofNat (4 * (p) + w) by rw [show (4 : Int32) = Int32.ofNat 4 from rfl, o_mul, o_add, Nat.mul_comm], show a_in (Int32.ofNat (4 * p + w)) 32 = true by rw [o_in (by omega)]; simp; omega, o_cl (show 4 * p + w < 2147483648 by omega), h10 (4 * p + w) (by omega), hC2, e3, e4]
  · intro j hj
    rw [va_up_self]
    by_cases c : j = 4 * p + w
    · subst c; rw [upd_self]
    · rw [upd_ne _ _ c, fr_at f4 (by decide), o3.1 j hj, upd_ne _ _ c]
theorem lie_ok {B : Nat → Int32} (hB : B_ok d B) {k b : Nat} (hb : b ≤ 40) : B_ok d (upd B k (Int32.ofNat b)) := by
  intro j hj
  by_cases c : j = k
  · subst c; rw [upd_self, z_ofNat (by omega)]; omega
  · rw [upd_ne _ _ c]; exact hB j hj
/-- the model's state while lies are tried: all but the bids and what follows of them stands as in A0 -/
def LM (A0 A : mS) (d : dS) (F : fS) : Prop := MS A d F ∧ fr [3, 4, 5, 6, 99] A0 A ∧ f9 [14, 15] A0 A
theorem q_tr1 (hN : 200 ≤ N) (hd : d_ok d) (hf : f_ok d F) {A0 C0 : mS} {B : Nat → Int32} (hB : B_ok d B) {p w h : Nat} (hp : p < d_n d) (hw : w < 4) (hh : h ≤ 40) (hh1 : h = 40 ∨ (f_pu F p).toInt = h) (hh2 : (h : Int) ≤ (f_pu F p).toInt) {x2 is : Int32} (his : -200000 ≤ is.toInt ∧ is.toInt ≤ 200000) {rcM : Int32 → Int32 → Int32 → Int32 → Int32 → Int32 → Int32 → mS → Option (Int32 × mS)} {rcC : Int32 → Int32 → Int32 → Int32 → Int32 → Int32 → Int32 → Int32 → mS → Option (Int32 × mS)} {m m' : Nat} :
    ∀ (r b : Nat) (A C : mS) (X we bi : Int32), b + r = h + 1 → LM A0 A d F → (∀ j, j < 4 * d_n d → j ≠ 4 * p + w → A 5 j = B j) → CS C P vl R d F → fr [10, 11, 12, 92] C0 C → (∀ j, j < 4 * d_n d → C 10 j = B j) → (-200000 ≤ X.toInt ∧ X.toInt ≤ 200000) →
    ∃ (X' we' bi' : Int32) (A' C' : mS), g_158_41 N rcM (r + 1 + m) (Int32.ofNat p) x2 is (X - is) we bi (Int32.ofNat w) (B (4 * p + w)) (Int32.ofNat b) A = rcM (Int32.ofNat p) x2 is (X' - is) we' bi' (Int32.ofNat (w + 1)) A' ∧ k_87_43 N P vl R rcC (r + 1 + m') (Int32.ofNat p) x2 is X we bi (Int32.ofNat h) (Int32.ofNat w) (Int32.ofNat b) C = rcC (Int32.ofNat p) x2 is X' we' bi' (Int32.ofNat h) (Int32.ofNat (w + 1)) C' ∧ LM A0 A' d F ∧ (∀ j, j < 4 * d_n d → A' 5 j = B j) ∧ CS C' P vl R d F ∧ fr [10, 11, 12, 92] C0 C' ∧ (∀ j, j < 4 * d_n d → C' 10 j = B j) ∧ (-200000 ≤ X'.toInt ∧ X'.toInt ≤ 200000) := by
  have hn := hd.2.2.2.1
  have hpu := hf.2.2.2 p hp
  have k40 : (40 : Int32).toInt = 40 := rfl
  intro r
  induction r with
  | zero =>
    intro b A C X we bi hb hL h5 hC hf0 h10 hX
    obtain rfl : b = h + 1 := by omega
    have hpA : A 0 (3 + p) = f_pu F p := hL.1.2.2.2.2 p (by omega)
    have f1 : fr [5] A (va_up A 5 (upd (A 5) (4 * p + w) (B (4 * p + w)))) := fr_up fr_rfl (by simp)
    refine ⟨X, we, bi, va_up A 5 (upd (A 5) (4 * p + w) (B (4 * p + w))), C, ?_, ?_, ⟨MS_fr hL.1 f1 (by decide), fr_tr hL.2.1 (fr_mono f1 (by simp)), f9_tr hL.2.2 (f9_fr f1 (by decide))⟩, ?_, hC, hf0, h10, hX⟩
    · rw [show 0 + 1 + m = m + 1 by omega]
      show g_158_41b _ _ _ _ _ _ _ _ _ _ _ _ _ = _
      unfold g_158_41b g_158_92
      simp only [e_bd, e_bdn, e_st, e_li, e_bs, e_opn, e_ops, e_ob, e_vo, e_ia, e_eq, e_ne, e_lt, e_ge, e_gt, e_le, cond_true, cond_false, Bool.cond_decide, show (3 : Int32) + Int32.ofNat p = Int32.ofNat (3 + p) from o_add (p := 3), show a_in (Int32.ofNat (3 + p)) 947 = true by rw [o_in (by omega)]; simp; omega, o_cl (show 3 + p < 2147483648 by omega), hpA, show (4 : Int32) * Int32.ofNat (p) + Int32.ofNat (w) = Int32.ofNat (4 * (p) + w) by rw [show (4 : Int32) = Int32.ofNat 4 from rfl, o_mul, o_add], show a_in (Int32.ofNat (4 * p + w)) 32 = true by rw [o_in (by omega)]; simp; omega, o_cl (show 4 * p + w < 2147483648 by omega), show Int32.ofNat (w) + 1 = Int32.ofNat (w + 1) from o_add (q := 1), z_lt, k40, z_ofNat (show h + 1 < 2147483648 by omega)]
      rcases hh1 with c | c
      · rw [if_pos (by omega)]
      · split
        · rfl
        · rw [if_pos (by omega)]
    · rw [show 0 + 1 + m' = m' + 1 by omega]
      show k_87_43b _ _ _ _ _ _ _ _ _ _ _ _ _ _ _ _ = _
      unfold k_87_43b
      simp only [e_bd, e_bdn, e_st, e_li, e_bs, e_opn, e_ops, e_ob, e_vo, e_ia, e_eq, e_ne, e_lt, e_ge, e_gt, e_le, cond_true, cond_false, Bool.cond_decide, show Int32.ofNat h < Int32.ofNat (h + 1) by rw [o_lt (by omega) (by omega)]; omega, if_true, show Int32.ofNat (w) + 1 = Int32.ofNat (w + 1) from o_add (q := 1)]
    · intro j hj
      rw [va_up_self]
      by_cases c : j = 4 * p + w
      · subst c; rw [upd_self]
      · rw [upd_ne _ _ c]; exact h5 j hj c
  | succ r ih =>
    intro b A C X we bi hb hL h5 hC hf0 h10 hX
    have hpA : A 0 (3 + p) = f_pu F p := hL.1.2.2.2.2 p (by omega)
    have hBl := lie_ok (k := 4 * p + w) (b := b) hB (by omega)
    generalize hA1 : va_up A 5 (upd (A 5) (4 * p + w) (Int32.ofNat b)) = A1
    have f1 : fr [5] A A1 := by rw [← hA1]; exact fr_up fr_rfl (by simp)
    have M1 := MS_fr hL.1 f1 (by decide)
    obtain ⟨A2, e2, f2, p2, O2⟩ := m_se (N := N) (B := upd B (4 * p + w) (Int32.ofNat b)) hN hd hf hBl M1 (fun j hj => by
      rw [← hA1, va_up_self]
      by_cases c : j = 4 * p + w
      · subst c; rw [upd_self, upd_self]
      · rw [upd_ne _ _ c, upd_ne _ _ c]; exact h5 j hj c)
    have M2 := MS_fr M1 f2 (by decide)
    obtain ⟨A3, e3, f3⟩ := m_gain hN hd hf hBl M2 O2 hp
    have M3 := MS_fr M2 f3 (by decide)
    have L3 : LM A0 A3 d F := ⟨M3, fr_tr hL.2.1 (fr_tr (fr_mono f1 (by simp)) (fr_tr (fr_mono f2 (by simp)) (fr_mono f3 (by simp)))), f9_tr hL.2.2 (f9_tr (f9_fr f1 (by decide)) (f9_tr p2 (f9_fr f3 (by decide))))⟩
    have h35 : ∀ j, j < 4 * d_n d → j ≠ 4 * p + w → A3 5 j = B j := fun j hj c => by rw [fr_at f3 (by decide), O2.1 j hj, upd_ne _ _ c]
    obtain ⟨C1, ec1, s1, g1, hc1⟩ := k_lie (N := N) (b := Int32.ofNat b) hN hd hf hC h10 hp hw hBl
    have hg := gn_ok hd hf hBl hp
    generalize hG : b_gn d F (upd B (4 * p + w) (Int32.ofNat b)) p = G at e3 ec1 hg
    have hle : (G - is ≤ X - is) ↔ (G ≤ X) := by
      rw [z_le, z_le, z_sub (by omega) (by omega), z_sub (by omega) (by omega)]; omega
    by_cases c : G ≤ X
    · obtain ⟨X', we', bi', A', C', e4, ec4, q1, q2, q3, q4, q5, q6⟩ := ih (b + 1) A3 C1 X we bi (by omega) L3 h35 s1 (fr_tr hf0 g1) hc1 hX
      refine ⟨X', we', bi', A', C', ?_, ?_, q1, q2, q3, q4, q5, q6⟩
      · rw [← e4, show r + 1 + 1 + m = (r + 1 + m) + 1 by omega]
        show g_158_41b _ _ _ _ _ _ _ _ _ _ _ _ _ = _
        unfold g_158_41b g_158_75 g_158_82
        simp only [e_bd, e_bdn, e_st, e_li, e_bs, e_opn, e_ops, e_ob, e_vo, e_ia, e_eq, e_ne, e_lt, e_ge, e_gt, e_le, cond_true, cond_false, Bool.cond_decide, show (3 : Int32) + Int32.ofNat p = Int32.ofNat (3 + p) from o_add (p := 3), show a_in (Int32.ofNat (3 + p)) 947 = true by rw [o_in (by omega)]; simp; omega, o_cl (show 3 + p < 2147483648 by omega), hpA, show (4 : Int32) * Int32.ofNat (p) + Int32.ofNat (w) = Int32.ofNat (4 * (p) + w) by rw [show (4 : Int32) = Int32.ofNat 4 from rfl, o_mul, o_add], show a_in (Int32.ofNat (4 * p + w)) 32 = true by rw [o_in (by omega)]; simp; omega, o_cl (show 4 * p + w < 2147483648 by omega), hA1, e2, e3, hle, c, if_true, show Int32.ofNat (b) + 1 = Int32.ofNat (b + 1) from o_add (q := 1), show ¬ (40 : Int32) < Int32.ofNat b by rw [z_lt, k40, z_ofNat (by omega)]; omega, show ¬ f_pu F p < Int32.ofNat b by rw [z_lt, z_ofNat (by omega)]; omega, if_false]
      · rw [← ec4, show r + 1 + 1 + m' = (r + 1 + m') + 1 by omega]
        show k_87_43b _ _ _ _ _ _ _ _ _ _ _ _ _ _ _ _ = _
        unfold k_87_43b
        simp only [e_bd, e_bdn, e_st, e_li, e_bs, e_opn, e_ops, e_ob, e_vo, e_ia, e_eq, e_ne, e_lt, e_ge, e_gt, e_le, cond_true, cond_false, Bool.cond_decide, show ¬ Int32.ofNat h < Int32.ofNat b by rw [o_lt (by omega) (by omega)]; omega, if_false, ec1, c, if_true, show Int32.ofNat (b) + 1 = Int32.ofNat (b + 1) from o_add (q := 1)]
    · obtain ⟨X', we', bi', A', C', e4, ec4, q1, q2, q3, q4, q5, q6⟩ := ih (b + 1) A3 C1 G (Int32.ofNat w) (Int32.ofNat b) (by omega) L3 h35 s1 (fr_tr hf0 g1) hc1 hg
      refine ⟨X', we', bi', A', C', ?_, ?_, q1, q2, q3, q4, q5, q6⟩
      · rw [← e4, show r + 1 + 1 + m = (r + 1 + m) + 1 by omega]
        show g_158_41b _ _ _ _ _ _ _ _ _ _ _ _ _ = _
        unfold g_158_41b g_158_75 g_158_82
        simp only [e_bd, e_bdn, e_st, e_li, e_bs, e_opn, e_ops, e_ob, e_vo, e_ia, e_eq, e_ne, e_lt, e_ge, e_gt, e_le, cond_true, cond_false, Bool.cond_decide, show (3 : Int32) + Int32.ofNat p = Int32.ofNat (3 + p) from o_add (p := 3), show a_in (Int32.ofNat (3 + p)) 947 = true by rw [o_in (by omega)]; simp; omega, o_cl (show 3 + p < 2147483648 by omega), hpA, show (4 : Int32) * Int32.ofNat (p) + Int32.ofNat (w) = Int32.ofNat (4 * (p) + w) by rw [show (4 : Int32) = Int32.ofNat 4 from rfl, o_mul, o_add], show a_in (Int32.ofNat (4 * p + w)) 32 = true by rw [o_in (by omega)]; simp; omega, o_cl (show 4 * p + w < 2147483648 by omega), hA1, e2, e3, hle, c, if_false, show Int32.ofNat (b) + 1 = Int32.ofNat (b + 1) from o_add (q := 1), show ¬ (40 : Int32) < Int32.ofNat b by rw [z_lt, k40, z_ofNat (by omega)]; omega, show ¬ f_pu F p < Int32.ofNat b by rw [z_lt, z_ofNat (by omega)]; omega]
      · rw [← ec4, show r + 1 + 1 + m' = (r + 1 + m') + 1 by omega]
        show k_87_43b _ _ _ _ _ _ _ _ _ _ _ _ _ _ _ _ = _
        unfold k_87_43b
        simp only [e_bd, e_bdn, e_st, e_li, e_bs, e_opn, e_ops, e_ob, e_vo, e_ia, e_eq, e_ne, e_lt, e_ge, e_gt, e_le, cond_true, cond_false, Bool.cond_decide, show ¬ Int32.ofNat h < Int32.ofNat b by rw [o_lt (by omega) (by omega)]; omega, if_false, ec1, c, show Int32.ofNat (b) + 1 = Int32.ofNat (b + 1) from o_add (q := 1)]
theorem q_tr2 (hN : 200 ≤ N) (hd : d_ok d) (hf : f_ok d F) {A0 C0 : mS} {B : Nat → Int32} (hB : B_ok d B) {p h : Nat} (hp : p < d_n d) (hh : h ≤ 40) (hh1 : h = 40 ∨ (f_pu F p).toInt = h) (hh2 : (h : Int) ≤ (f_pu F p).toInt) {x2 is : Int32} (his : -200000 ≤ is.toInt ∧ is.toInt ≤ 200000) {m m' : Nat} :
    ∀ (r w : Nat) (A C : mS) (X we bi : Int32), w + r = 4 → LM A0 A d F → (∀ j, j < 4 * d_n d → A 5 j = B j) → CS C P vl R d F → fr [10, 11, 12, 92] C0 C → (∀ j, j < 4 * d_n d → C 10 j = B j) → (-200000 ≤ X.toInt ∧ X.toInt ≤ 200000) →
    ∃ (v : Int32) (A' C' : mS), g_158_27 N (r + 1 + m) (Int32.ofNat p) x2 is (X - is) we bi (Int32.ofNat w) A = some (v, A') ∧ k_87_38 N P vl R (r + 1 + m') (Int32.ofNat p) x2 is X we bi (Int32.ofNat h) (Int32.ofNat w) C = some (v, C') ∧ LM A0 A' d F ∧ fr [10, 11, 12, 92] C0 C' := by
  have hn := hd.2.2.2.1
  intro r
  induction r with
  | zero =>
    intro w A C X we bi hw hL h5 hC hf0 h10 hX
    obtain rfl : w = 4 := by omega
    refine ⟨if x2 = 0 then X - is else if x2 = 1 then we else bi, A, C, ?_, ?_, hL, hf0⟩
    · rw [show 0 + 1 + m = m + 1 by omega]
      show g_158_27b _ _ _ _ _ _ _ _ _ _ = _
      unfold g_158_27b
      simp only [e_bd, e_bdn, e_st, e_li, e_bs, e_opn, e_ops, e_ob, e_vo, e_ia, e_eq, e_ne, e_lt, e_ge, e_gt, e_le, cond_true, cond_false, Bool.cond_decide, show (4 : Int32) ≤ Int32.ofNat 4 by decide, if_true]
      by_cases c : x2 = 0
      · simp only [c, not_true, if_false, if_true]
      · by_cases c2 : x2 = 1
        · simp only [c2, show ¬ (1 : Int32) = 0 by decide, not_true, not_false_eq_true, if_false, if_true]
        · simp only [c, c2, not_false_eq_true, if_false, if_true]
    · rw [show 0 + 1 + m' = m' + 1 by omega]
      show k_87_38b _ _ _ _ _ _ _ _ _ _ _ _ _ _ = _
      unfold k_87_38b
      simp only [e_bd, e_bdn, e_st, e_li, e_bs, e_opn, e_ops, e_ob, e_vo, e_ia, e_eq, e_ne, e_lt, e_ge, e_gt, e_le, cond_true, cond_false, Bool.cond_decide, show (4 : Int32) ≤ Int32.ofNat 4 by decide, if_true]
      by_cases c : x2 = 0
      · simp only [c, not_true, if_false, if_true]
      · by_cases c2 : x2 = 1
        · simp only [c2, show ¬ (1 : Int32) = 0 by decide, not_true, not_false_eq_true, if_false, if_true]
        · simp only [c, c2, not_false_eq_true, if_false, if_true]
  | succ r ih =>
    intro w A C X we bi hw hL h5 hC hf0 h10 hX
    obtain ⟨X', we', bi', A1, C1, e1, ec1, q1, q2, q3, q4, q5, q6⟩ := q_tr1 (N := N) (A0 := A0) (C0 := C0) (x2 := x2) (rcM := g_158_27 N (r + 1 + m)) (rcC := k_87_38 N P vl R (r + 1 + m')) (m := N - (h + 1 + 1)) (m' := N - (h + 1 + 1)) hN hd hf hB hp (show w < 4 by omega) hh hh1 hh2 his (h + 1) 0 A C X we bi (by omega) hL (fun j hj _ => h5 j hj) hC hf0 h10 hX
    rw [show h + 1 + 1 + (N - (h + 1 + 1)) = N by omega] at e1 ec1
    obtain ⟨v, A2, C2, e2, ec2, t1, t2⟩ := ih (w + 1) A1 C1 X' we' bi' (by omega) q1 q2 q3 q4 q5 q6
    refine ⟨v, A2, C2, ?_, ?_, t1, t2⟩
    · rw [show r + 1 + 1 + m = (r + 1 + m) + 1 by omega]
      refine Eq.trans ?_ (e1.trans e2)
      show g_158_27b _ _ _ _ _ _ _ _ _ _ = _
      unfold g_158_27b
      simp only [e_bd, e_bdn, e_st, e_li, e_bs, e_opn, e_ops, e_ob, e_vo, e_ia, e_eq, e_ne, e_lt, e_ge, e_gt, e_le, cond_true, cond_false, Bool.cond_decide, show ¬ (4 : Int32) ≤ Int32.ofNat (w) by rw [show (4 : Int32) = Int32.ofNat 4 from rfl, o_le (by omega) (by omega)]; omega, if_false, show (4 : Int32) * Int32.ofNat (p) + Int32.ofNat (w) = Int32.ofNat (4 * (p) + w) by rw [show (4 : Int32) = Int32.ofNat 4 from rfl, o_mul, o_add], show a_in (Int32.ofNat (4 * p + w)) 32 = true by rw [o_in (by omega)]; simp; omega, o_cl (show 4 * p + w < 2147483648 by omega), h5 (4 * p + w) (by omega)]
      rfl
    · rw [show r + 1 + 1 + m' = (r + 1 + m') + 1 by omega]
      refine Eq.trans ?_ (ec1.trans ec2)
      show k_87_38b _ _ _ _ _ _ _ _ _ _ _ _ _ _ = _
      unfold k_87_38b
      simp only [e_bd, e_bdn, e_st, e_li, e_bs, e_opn, e_ops, e_ob, e_vo, e_ia, e_eq, e_ne, e_lt, e_ge, e_gt, e_le, cond_true, cond_false, Bool.cond_decide, show ¬ (4 : Int32) ≤ Int32.ofNat (w) by rw [show (4 : Int32) = Int32.ofNat 4 from rfl, o_le (by omega) (by omega)]; omega, if_false]
      rfl
theorem q_truly (hN : 200 ≤ N) (hd : d_ok d) (hf : f_ok d F) (hM : MS A d F) (hC : CD C P vl R d) (hW : WF C F) (x1 x2 : Int32) : ∃ r A' C', g_158 N x1 x2 A = some (r, A') ∧ k_87 N P vl R x1 x2 C = some (r, C') ∧ QM A A' ∧ QC C C' := by
  have hn := hd.2.2.2.1
  have k0 : (0 : Int32).toInt = 0 := rfl
  have k2 : (2 : Int32).toInt = 2 := rfl
  have k40 : (40 : Int32).toInt = 40 := rfl
  unfold g_158 k_87
  rw [m_pers hn hM.1.2.1, k_is hn hC]
  by_cases c1 : 0 ≤ x1.toInt ∧ x1.toInt < d_n d
  · rw [decide_eq_true c1]
    simp only [e_bd, e_bdn, e_st, e_li, e_bs, e_opn, e_ops, e_ob, e_vo, e_ia, e_eq, e_ne, e_lt, e_ge, e_gt, e_le, cond_true, cond_false, Bool.cond_decide, show ¬ b_i true = 0 by decide, if_false, m_in, z_le, z_lt, k0, k2]
    by_cases c2 : 0 ≤ x2.toInt ∧ x2.toInt ≤ 2
    · rw [decide_eq_true c2, if_pos (show ¬ b_i true = 0 by decide), if_neg (show ¬ x2.toInt < 0 by omega), if_pos (show x2.toInt ≤ 2 by omega)]
      obtain ⟨p, hp, rfl⟩ := o_ex c1.1 c1.2
      obtain ⟨A1, e1, f1, h1⟩ := m_tb hN hd hf hM
      have M1 := MS_fr hM f1 (by decide)
      obtain ⟨A2, e2, f2, p2, O2⟩ := m_se hN hd hf (B_all hf) M1 h1
      have M2 := MS_fr M1 f2 (by decide)
      obtain ⟨A3, e3, f3⟩ := m_gain hN hd hf (B_all hf) M2 O2 hp
      have M3 := MS_fr M2 f3 (by decide)
      obtain ⟨C1, ec1, sc1, fc1⟩ := k_beg (N := N) hC hW
      obtain ⟨C2, ec2, fc2, -, oc2, sc2⟩ := k_open hN hd hf sc1
      obtain ⟨C3, ec3, fc3⟩ := k_gain hN hd hf (B_all hf) sc2 oc2 hp
      have sc3 := CS12 sc2 fc3
      have hpu := hf.2.2.2 p hp
      have ec4 : k_21 N P vl R (Int32.ofNat p) C3 = some (f_pu F p, C3) := by
        unfold k_21
        simp only [e_bd, e_bdn, e_st, e_li, e_bs, e_opn, e_ops, e_ob, e_vo, e_ia, e_eq, e_ne, e_lt, e_ge, e_gt, e_le, cond_true, cond_false, Bool.cond_decide, show a_in (Int32.ofNat (p)) 8 = true by rw [o_in (by omega)]; simp; omega, o_cl (show p < 2147483648 by omega), sc3.2.2.2.2 p (by omega)]
      obtain ⟨h, hh, hh1, hh2, hhe⟩ : ∃ h : Nat, h ≤ 40 ∧ (h = 40 ∨ (f_pu F p).toInt = h) ∧ (h : Int) ≤ (f_pu F p).toInt ∧ (if f_pu F p < 40 then f_pu F p else 40) = Int32.ofNat h := by
        by_cases c : f_pu F p < 40
        · rw [if_pos c]
          rw [z_lt, k40] at c
          exact ⟨(f_pu F p).toInt.toNat, by omega, .inr (by omega), by omega, o_of hpu.1 rfl⟩
        · rw [if_neg c]
          rw [z_lt, k40] at c
          exact ⟨40, by omega, .inl rfl, by omega, rfl⟩
      simp only [z_lt] at hhe
      have hg := gn_ok hd hf (B_all hf) hp
      have L3 : LM A A3 d F := ⟨M3, fr_tr (fr_mono f1 (by simp)) (fr_tr (fr_mono f2 (by simp)) (fr_mono f3 (by simp))), f9_tr (f9_fr f1 (by decide)) (f9_tr p2 (f9_fr f3 (by decide)))⟩
      obtain ⟨v, A4, C4, e4, ec5, L4, fc4⟩ := q_tr2 (N := N) (A0 := A) (C0 := C3) (x2 := x2) (is := b_gn d F (b_all d F) p) (P := P) (vl := vl) (R := R) (m := N - 5) (m' := N - 5) hN hd hf (B_all hf) hp hh hh1 hh2 hg 4 0 A3 C3 (b_gn d F (b_all d F) p) (-5) (-5) (by omega) L3 (fun j hj => by rw [fr_at f3 (by decide)]; exact O2.1 j hj) sc3 fr_rfl (fun j hj => by rw [fr_at fc3 (by decide)]; exact oc2.1 j hj) hg
      rw [show 4 + 1 + (N - 5) = N by omega] at e4 ec5
      rw [Int32.sub_self] at e4
      refine ⟨v, A4, C4, ?_, ?_, QM_f9 L4.2.1 (by decide) (by decide) (by decide) L4.2.2 (by decide) (by decide), fr_mono (fr_tr (fr_mono fc1 (T := [9, 10, 11, 12, 92]) (by simp)) (fr_tr (fr_mono fc2 (by simp)) (fr_tr (fr_mono fc3 (by simp)) (fr_mono fc4 (by simp))))) (by simp)⟩
      · simp only [e1, e2, e3, e_bd, e_bdn, e_st, e_li, e_bs, e_opn, e_ops, e_ob, e_vo, e_ia, e_eq, e_ne, e_lt, e_ge, e_gt, e_le, cond_true, cond_false, Bool.cond_decide]
        exact e4
      · simp only [ec1, ec2, ec3, ec4, e_bd, e_bdn, e_st, e_li, e_bs, e_opn, e_ops, e_ob, e_vo, e_ia, e_eq, e_ne, e_lt, e_ge, e_gt, e_le, cond_true, cond_false, Bool.cond_decide, hhe]
        exact ec5
    · rw [decide_eq_false c2, if_neg (show ¬ ¬ b_i false = 0 by decide)]
      refine ⟨-1, A, C, rfl, ?_, QM_rfl, fr_rfl⟩
      split
      · rfl
      · rw [if_neg (by omega)]
  · rw [decide_eq_false c1]
    exact ⟨-1, A, C, by simp only [e_bd, e_bdn, e_st, e_li, e_bs, e_opn, e_ops, e_ob, e_vo, e_ia, e_eq, e_ne, e_lt, e_ge, e_gt, e_le, cond_true, cond_false, Bool.cond_decide, show b_i false = 0 from rfl, if_true], by simp only [e_bd, e_bdn, e_st, e_li, e_bs, e_opn, e_ops, e_ob, e_vo, e_ia, e_eq, e_ne, e_lt, e_ge, e_gt, e_le, cond_true, cond_false, Bool.cond_decide, show b_i false = 0 from rfl, if_true], QM_rfl, fr_rfl⟩
end Q7
