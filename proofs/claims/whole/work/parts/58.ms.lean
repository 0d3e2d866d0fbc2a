/-! 58.ms: bounds; the model sells -/
def B_ok (d : dS) (B : Nat → Int32) : Prop := ∀ j, j < 4 * d_n d → 0 ≤ (B j).toInt ∧ (B j).toInt < 1000
theorem kp_ok {pu b : Int32} (h : 0 ≤ pu.toInt) : 0 ≤ (b_kp pu b).toInt ∧ (b_kp pu b).toInt ≤ pu.toInt := by
  unfold b_kp
  have k0 : (0 : Int32).toInt = 0 := rfl
  split
  · omega
  · rename_i c1
    split
    · omega
    · rename_i c2
      rw [z_lt] at c1 c2
      omega
theorem B_all {d : dS} {F : fS} (hf : f_ok d F) : B_ok d (b_all d F) := by
  intro j hj
  have hp : j / 4 < d_n d := by omega
  have h := hf.2.2.2 (j / 4) hp
  have h2 := kp_ok (b := b_wi d F (j / 4) (j % 4)) h.1
  have h3 : b_all d F j = b_kp (f_pu F (j / 4)) (b_wi d F (j / 4) (j % 4)) := rfl
  rw [h3]
  omega
theorem sm_ok {d : dS} {B : Nat → Int32} (hn : d_n d ≤ 8) (hB : B_ok d B) {w : Nat} (hw : w < 4) : ∀ k, k ≤ d_n d → 0 ≤ (b_sm B w k).toInt ∧ (b_sm B w k).toInt ≤ 1000 * k := by
  intro k
  induction k with
  | zero => intro _; exact ⟨show (0 : Int) ≤ (0 : Int32).toInt by decide, show (0 : Int32).toInt ≤ 1000 * ((0 : Nat) : Int) by decide⟩
  | succ k ih =>
    intro hk
    have h1 := ih (by omega)
    have h2 := hB (4 * k + w) (by omega)
    simp only [b_sm]
    rw [z_add (by omega) (by omega)]
    omega
theorem S_ok {d : dS} {B : Nat → Int32} (hn : d_n d ≤ 8) (hB : B_ok d B) {w : Nat} (hw : w < 4) : 0 ≤ (b_S d B w).toInt ∧ (b_S d B w).toInt ≤ 8000 := by
  have := sm_ok hn hB hw (d_n d) (Nat.le_refl _)
  unfold b_S
  omega
theorem fnx_ok {d : dS} {F : fS} (hd : d_ok d) (hf : f_ok d F) : ∃ q, q < 4 ∧ f_nx d F = Int32.ofNat q := by
  unfold f_nx
  split
  · rename_i c
    have h3 := hf.2.2.1
    have hfn := hd.2.2.2.2.2.2.2.1
    rw [z_le, z_lt, z_ofNat (by omega)] at c
    have h := hd.2.2.2.2.2.2.2.2 (f_tu F).toNatClampNeg (by rw [z_cl]; omega)
    exact ⟨(d_fo d (f_tu F).toNatClampNeg).toInt.toNat, by omega, o_of h.1 rfl⟩
  · exact ⟨0, by omega, rfl⟩
theorem so_ok {d : dS} {F : fS} {B : Nat → Int32} (hd : d_ok d) (hf : f_ok d F) : ∃ q, q < 4 ∧ b_so d F B = Int32.ofNat q := by
  unfold b_so
  split
  · exact ⟨_, Nat.lt_succ_of_le (bi_le _ 3), rfl⟩
  · exact fnx_ok hd hf
section MSL
variable {N : Nat} {d : dS} {F : fS} {A : mS} {B : Nat → Int32}
theorem m_fn (hd : d_ok d) (hf : f_ok d F) (hM : MS A d F) : g_136 N A = some (f_nx d F, A) := by
  have hfn := hd.2.2.2.2.2.2.2.1
  have h13 := hM.1.2.2.2.2.2.1
  have h2 := hM.2.2.2.1
  have htu := hf.2.2.1
  have ht : f_tu F = Int32.ofNat (f_tu F).toInt.toNat := o_of htu.1 rfl
  generalize hq : (f_tu F).toInt.toNat = q at ht
  unfold g_136 f_nx
  rw [h13, h2, ht]
  by_cases c : d_fn d = 0
  · have e : Int32.ofNat (d_fn d) = 0 := by rw [c]; rfl
    simp only [e_bd, e_bdn, e_st, e_li, e_bs, e_opn, e_ops, e_ob, e_vo, e_ia, e_eq, e_ne, e_lt, e_ge, e_gt, e_le, cond_true, cond_false, Bool.cond_decide, e, not_true, if_false]
    rw [if_neg]
    rw [z_lt, show (0 : Int32).toInt = 0 from rfl, z_le, z_ofNat (by omega)]
    omega
  · have e : ¬ Int32.ofNat (d_fn d) = 0 := by rw [show (0 : Int32) = Int32.ofNat 0 from rfl, o_eq (by omega) (by omega)]; exact c
    have hq2 : q < d_fn d := by omega
    have e2 : a_in (Int32.ofNat (188 + q)) 947 = true := by rw [o_in (by omega)]; simp; omega
    simp only [e_bd, e_bdn, e_st, e_li, e_bs, e_opn, e_ops, e_ob, e_vo, e_ia, e_eq, e_ne, e_lt, e_ge, e_gt, e_le, cond_true, cond_false, Bool.cond_decide, e, not_false_eq_true, if_true, o_rem (show q < 2147483648 by omega) (show d_fn d < 2147483648 by omega) (show 0 < d_fn d by omega), Nat.mod_eq_of_lt hq2, show (188 : Int32) + Int32.ofNat q = Int32.ofNat (188 + q) from o_add (p := 188), e2, o_cl (show 188 + q < 2147483648 by omega), hM.1.2.2.2.2.2.2 q hq2]
    rw [if_pos, o_cl (by omega)]
    rw [z_lt, z_le, show (0 : Int32).toInt = 0 from rfl, z_ofNat (by omega), z_ofNat (by omega)]
    omega
theorem m_tb1 (hN : 200 ≤ N) (hd : d_ok d) (hf : f_ok d F) {p : Nat} (hp : p < d_n d) {rc : Int32 → mS → Option (Int32 × mS)} {m : Nat} : ∀ (r u : Nat) (A : mS), u + r = 4 → MS A d F → ∃ A', g_147_10 N rc (r + 1 + m) (Int32.ofNat p) (Int32.ofNat u) A = rc (Int32.ofNat (p + 1)) A' ∧ fr [3, 4, 5] A A' ∧ ∀ j, A' 5 j = if 4 * p + u ≤ j ∧ j < 4 * p + 4 then b_all d F j else A 5 j := by
  have hn := hd.2.2.2.1
  intro r
  induction r with
  | zero =>
    intro u A hu hM
    obtain rfl : u = 4 := by omega
    refine ⟨A, ?_, fr_rfl, fun j => by rw [if_neg (by omega)]⟩
    rw [show 0 + 1 + m = m + 1 by omega]
    show g_147_10b _ _ _ _ _ _ = _
    unfold g_147_10b
    simp only [e_bd, e_bdn, e_st, e_li, e_bs, e_opn, e_ops, e_ob, e_vo, e_ia, e_eq, e_ne, e_lt, e_ge, e_gt, e_le, cond_true, cond_false, Bool.cond_decide, show (4 : Int32) ≤ Int32.ofNat 4 by decide, if_true, show Int32.ofNat p + 1 = Int32.ofNat (p + 1) from o_add (q := 1)]
  | succ r ih =>
    intro u A hu hM
    obtain ⟨A1, e1, f1⟩ := m_bid hN hd hf hM hp (show u < 4 by omega)
    have M1 := MS_fr hM f1 (by decide)
    have hge : ¬ (4 : Int32) ≤ Int32.ofNat u := by rw [show (4 : Int32) = Int32.ofNat 4 from rfl, o_le (by omega) (by omega)]; omega
    have hin : a_in (Int32.ofNat (4 * p + u)) 32 = true := by rw [o_in (by omega)]; simp; omega
    have f2 : fr [3, 4, 5] A (va_up A1 5 (upd (A1 5) (4 * p + u) (b_kp (f_pu F p) (b_wi d F p u)))) := fr_up (fr_mono f1 (by simp)) (by simp)
    obtain ⟨A', e2, f3, h5⟩ := ih (u + 1) _ (by omega) (MS_fr hM f2 (by decide))
    refine ⟨A', ?_, fr_tr f2 f3, ?_⟩
    · rw [show r + 1 + 1 + m = (r + 1 + m) + 1 by omega]
      show g_147_10b _ _ _ _ _ _ = _
      unfold g_147_10b
      simp only [e_bd, e_bdn, e_st, e_li, e_bs, e_opn, e_ops, e_ob, e_vo, e_ia, e_eq, e_ne, e_lt, e_ge, e_gt, e_le, cond_true, cond_false, Bool.cond_decide, hge, if_false, e1, show (4 : Int32) * Int32.ofNat p + Int32.ofNat u = Int32.ofNat (4 * p + u) by rw [show (4 : Int32) = Int32.ofNat 4 from rfl, o_mul, o_add], hin, o_cl (show 4 * p + u < 2147483648 by omega), show Int32.ofNat u + 1 = Int32.ofNat (u + 1) from o_add (q := 1)]
      exact e2
    · intro j
      rw [h5 j, va_up_self]
      by_cases c1 : 4 * p + (u + 1) ≤ j ∧ j < 4 * p + 4
      · rw [if_pos c1, if_pos (by omega)]
      · rw [if_neg c1]
        by_cases c2 : j = 4 * p + u
        · subst c2
          rw [upd_self, if_pos (by omega)]
          show _ = b_kp _ _
          rw [show (4 * p + u) / 4 = p by omega, show (4 * p + u) % 4 = u by omega]
        · rw [upd_ne _ _ c2, if_neg (by omega), fr_at f1 (by decide)]
theorem m_tb2 (hN : 200 ≤ N) (hd : d_ok d) (hf : f_ok d F) {m : Nat} : ∀ (r p : Nat) (A : mS), p + r = d_n d → MS A d F → (∀ j, j < 4 * p → A 5 j = b_all d F j) → ∃ A', g_147_2 N (r + 1 + m) (Int32.ofNat p) A = some (0, A') ∧ fr [3, 4, 5] A A' ∧ ∀ j, j < 4 * d_n d → A' 5 j = b_all d F j := by
  have hn := hd.2.2.2.1
  intro r
  induction r with
  | zero =>
    intro p A hp hM h5
    obtain rfl : p = d_n d := by omega
    refine ⟨A, ?_, fr_rfl, h5⟩
    rw [show 0 + 1 + m = m + 1 by omega]
    show g_147_2b _ _ _ _ = _
    unfold g_147_2b
    simp only [e_bd, e_bdn, e_st, e_li, e_bs, e_opn, e_ops, e_ob, e_vo, e_ia, e_eq, e_ne, e_lt, e_ge, e_gt, e_le, cond_true, cond_false, Bool.cond_decide, hM.1.2.1, z_le, Int.le_refl, if_true]
  | succ r ih =>
    intro p A hp hM h5
    obtain ⟨A1, e1, f1, h1⟩ := m_tb1 (N := N) hN hd hf (show p < d_n d by omega) (rc := g_147_2 N (r + 1 + m)) (m := N - 5) 4 0 A (by omega) hM
    obtain ⟨A2, e2, f2, h2⟩ := ih (p + 1) A1 (by omega) (MS_fr hM f1 (by decide)) (fun j hj => by
      rw [h1 j]
      split
      · rfl
      · exact h5 j (by omega))
    refine ⟨A2, ?_, fr_tr f1 f2, h2⟩
    rw [show r + 1 + 1 + m = (r + 1 + m) + 1 by omega]
    show g_147_2b _ _ _ _ = _
    unfold g_147_2b
    have hge : ¬ Int32.ofNat (d_n d) ≤ Int32.ofNat p := by rw [o_le (by omega) (by omega)]; omega
    simp only [e_bd, e_bdn, e_st, e_li, e_bs, e_opn, e_ops, e_ob, e_vo, e_ia, e_eq, e_ne, e_lt, e_ge, e_gt, e_le, cond_true, cond_false, Bool.cond_decide, hM.1.2.1, hge, if_false]
    rw [show 4 + 1 + (N - 5) = N by omega] at e1
    exact e1.trans e2
/-- takesBids -/
theorem m_tb (hN : 200 ≤ N) (hd : d_ok d) (hf : f_ok d F) (hM : MS A d F) : ∃ A', g_147 N A = some (0, A') ∧ fr [3, 4, 5] A A' ∧ ∀ j, j < 4 * d_n d → A' 5 j = b_all d F j := by
  have hn := hd.2.2.2.1
  obtain ⟨A', e, f, h⟩ := m_tb2 (N := N) (m := N - (d_n d + 1)) hN hd hf (d_n d) 0 A (by omega) hM (fun j hj => by omega)
  rw [show d_n d + 1 + (N - (d_n d + 1)) = N by omega] at e
  exact ⟨A', e, f, h⟩
def f9 (T : List Nat) (A A' : mS) : Prop := ∀ f, f ∉ T → A' 99 f = A 99 f
theorem f9_tr {T : List Nat} {A B D : mS} (h1 : f9 T A B) (h2 : f9 T B D) : f9 T A D := fun j hj => (h2 j hj).trans (h1 j hj)
theorem f9_fr {T S : List Nat} {A B : mS} (h : fr S A B) (hs : 99 ∉ S) : f9 T A B := fun j _ => by rw [h 99 hs]
theorem f9_up {T : List Nat} {A B : mS} {f : Nat} {x : Int32} (h : f9 T A B) (hf : f ∈ T) : f9 T A (va_up B 99 (upd (B 99) f x)) := fun i hi => by
  have hne : i ≠ f := fun e => hi (by rw [e]; exact hf)
  rw [va_up_self, upd_ne _ _ hne]
  exact h i hi
theorem m_se1 (hn : d_n d ≤ 8) {w : Nat} (hw : w < 4) {rc : Int32 → mS → Option (Int32 × mS)} {m : Nat} : ∀ (r p : Nat) (A : mS), p + r = d_n d → A 0 11 = Int32.ofNat (d_n d) → (∀ j, j < 4 * d_n d → A 5 j = B j) → A 6 w = b_sm B w p → ∃ A', g_148_12 N rc (r + 1 + m) (Int32.ofNat w) (Int32.ofNat p) A = rc (Int32.ofNat (w + 1)) A' ∧ fr [6] A A' ∧ A' 6 w = b_S d B w ∧ ∀ v, v ≠ w → A' 6 v = A 6 v := by
  intro r
  induction r with
  | zero =>
    intro p A hp h11 h5 h6
    obtain rfl : p = d_n d := by omega
    refine ⟨A, ?_, fr_rfl, h6, fun _ _ => rfl⟩
    rw [show 0 + 1 + m = m + 1 by omega]
    show g_148_12b _ _ _ _ _ _ = _
    unfold g_148_12b
    simp only [e_bd, e_bdn, e_st, e_li, e_bs, e_opn, e_ops, e_ob, e_vo, e_ia, e_eq, e_ne, e_lt, e_ge, e_gt, e_le, cond_true, cond_false, Bool.cond_decide, h11, z_le, Int.le_refl, if_true, show Int32.ofNat w + 1 = Int32.ofNat (w + 1) from o_add (q := 1)]
  | succ r ih =>
    intro p A hp h11 h5 h6
    have f1 : fr [6] A (va_up A 6 (upd (A 6) w (A 6 w + B (4 * p + w)))) := fr_up fr_rfl (by simp)
    obtain ⟨A2, e2, f2, h2, h3⟩ := ih (p + 1) (va_up A 6 (upd (A 6) w (A 6 w + B (4 * p + w)))) (by omega) (by rw [fr_at f1 (by decide)]; exact h11) (by rw [fr_at f1 (by decide)]; exact h5) (by rw [va_up_self, upd_self, h6]; rfl)
    refine ⟨A2, ?_, fr_tr f1 f2, h2, fun v hv => by rw [h3 v hv, va_up_self, upd_ne _ _ hv]⟩
    rw [show r + 1 + 1 + m = (r + 1 + m) + 1 by omega]
    show g_148_12b _ _ _ _ _ _ = _
    unfold g_148_12b
    have hge : ¬ Int32.ofNat (d_n d) ≤ Int32.ofNat p := by rw [o_le (by omega) (by omega)]; omega
    have hin : a_in (Int32.ofNat (4 * p + w)) 32 = true := by rw [o_in (by omega)]; simp; omega
    have hin2 : a_in (Int32.ofNat w) 4 = true := by rw [o_in (by omega)]; simp; omega
    simp only [e_bd, e_bdn, e_st, e_li, e_bs, e_opn, e_ops, e_ob, e_vo, e_ia, e_eq, e_ne, e_lt, e_ge, e_gt, e_le, cond_true, cond_false, Bool.cond_decide, h11, hge, if_false, hin2, o_cl (show w < 2147483648 by omega), show (4 : Int32) * Int32.ofNat p + Int32.ofNat w = Int32.ofNat (4 * p + w) by rw [show (4 : Int32) = Int32.ofNat 4 from rfl, o_mul, o_add], hin, o_cl (show 4 * p + w < 2147483648 by omega), h5 (4 * p + w) (by omega), show Int32.ofNat p + 1 = Int32.ofNat (p + 1) from o_add (q := 1)]
    exact e2
theorem m_se2 (hN : 200 ≤ N) (hn : d_n d ≤ 8) {m : Nat} : ∀ (r w : Nat) (A : mS), w + r = 4 → A 0 11 = Int32.ofNat (d_n d) → (∀ j, j < 4 * d_n d → A 5 j = B j) → (∀ v, v < w → A 6 v = b_S d B v) → ∃ A', g_148_2 N (r + 1 + m) (Int32.ofNat w) A = g_148_42 N N 1 (va_up A' 99 (upd (A' 99) 14 0)) ∧ fr [6] A A' ∧ ∀ v, v < 4 → A' 6 v = b_S d B v := by
  intro r
  induction r with
  | zero =>
    intro w A hw h11 h5 h6
    obtain rfl : w = 4 := by omega
    refine ⟨A, ?_, fr_rfl, h6⟩
    rw [show 0 + 1 + m = m + 1 by omega]
    show g_148_2b _ _ _ _ = _
    unfold g_148_2b
    simp only [e_bd, e_bdn, e_st, e_li, e_bs, e_opn, e_ops, e_ob, e_vo, e_ia, e_eq, e_ne, e_lt, e_ge, e_gt, e_le, cond_true, cond_false, Bool.cond_decide, show (4 : Int32) ≤ Int32.ofNat 4 by decide, if_true]
  | succ r ih =>
    intro w A hw h11 h5 h6
    have f0 : fr [6] A (va_up A 6 (upd (A 6) w 0)) := fr_up fr_rfl (by simp)
    obtain ⟨A1, e1, f1, h1, h2⟩ := m_se1 (N := N) (B := B) hn (show w < 4 by omega) (rc := g_148_2 N (r + 1 + m)) (m := N - (d_n d + 1)) (d_n d) 0 (va_up A 6 (upd (A 6) w 0)) (by omega) (by rw [fr_at f0 (by decide)]; exact h11) (by rw [fr_at f0 (by decide)]; exact h5) (by rw [va_up_self, upd_self]; rfl)
    have f01 := fr_tr f0 f1
    obtain ⟨A2, e2, f2, h3⟩ := ih (w + 1) A1 (by omega) (by rw [fr_at f01 (by decide)]; exact h11) (by rw [fr_at f01 (by decide)]; exact h5) (fun v hv => by
      by_cases c : v = w
      · subst c; exact h1
      · rw [h2 v c, va_up_self, upd_ne _ _ c]
        exact h6 v (by omega))
    refine ⟨A2, ?_, fr_tr f01 f2, h3⟩
    rw [show r + 1 + 1 + m = (r + 1 + m) + 1 by omega]
    show g_148_2b _ _ _ _ = _
    unfold g_148_2b
    have hge : ¬ (4 : Int32) ≤ Int32.ofNat w := by rw [show (4 : Int32) = Int32.ofNat 4 from rfl, o_le (by omega) (by omega)]; omega
    have hin2 : a_in (Int32.ofNat w) 4 = true := by rw [o_in (by omega)]; simp; omega
    simp only [e_bd, e_bdn, e_st, e_li, e_bs, e_opn, e_ops, e_ob, e_vo, e_ia, e_eq, e_ne, e_lt, e_ge, e_gt, e_le, cond_true, cond_false, Bool.cond_decide, hge, if_false, hin2, o_cl (show w < 2147483648 by omega)]
    rw [show d_n d + 1 + (N - (d_n d + 1)) = N by omega] at e1
    exact e1.trans e2
theorem m_se3 {k n : Nat} (hk : k < 3) (h6 : ∀ v, v < 4 → A 6 v = b_S d B v) (h14 : A 99 14 = Int32.ofNat (b_bi (b_S d B) k)) : g_148_42 N (n + 1) (Int32.ofNat (k + 1)) A = g_148_42 N n (Int32.ofNat (k + 1 + 1)) (va_up A 99 (upd (A 99) 14 (Int32.ofNat (b_bi (b_S d B) (k + 1))))) := by
  show g_148_42b _ _ _ _ = _
  unfold g_148_42b
  have hb := bi_le (b_S d B) k
  have hge : ¬ (4 : Int32) ≤ Int32.ofNat (k + 1) := by rw [show (4 : Int32) = Int32.ofNat 4 from rfl, o_le (by omega) (by omega)]; omega
  have hin : a_in (Int32.ofNat (k + 1)) 4 = true := by rw [o_in (by omega)]; simp; omega
  have hin2 : a_in (Int32.ofNat (b_bi (b_S d B) k)) 4 = true := by rw [o_in (by omega)]; simp; omega
  simp only [e_bd, e_bdn, e_st, e_li, e_bs, e_opn, e_ops, e_ob, e_vo, e_ia, e_eq, e_ne, e_lt, e_ge, e_gt, e_le, cond_true, cond_false, Bool.cond_decide, hge, if_false, hin, h14, hin2, o_cl (show k + 1 < 2147483648 by omega), o_cl (show b_bi (b_S d B) k < 2147483648 by omega), h6 (k + 1) (by omega), h6 (b_bi (b_S d B) k) (by omega), show Int32.ofNat (k + 1) + 1 = Int32.ofNat (k + 1 + 1) from o_add (q := 1), b_bi]
  by_cases c : b_S d B (b_bi (b_S d B) k) < b_S d B (k + 1)
  · have c' : ¬ b_S d B (k + 1) ≤ b_S d B (b_bi (b_S d B) k) := by rw [z_lt] at c; rw [z_le]; omega
    rw [if_neg c', if_pos c]
  · have c' : b_S d B (k + 1) ≤ b_S d B (b_bi (b_S d B) k) := by rw [z_lt] at c; rw [z_le]; omega
    rw [if_pos c', if_neg c]
/-- behind sells -/
def MO (A : mS) (d : dS) (F : fS) (B : Nat → Int32) : Prop := (∀ j, j < 4 * d_n d → A 5 j = B j) ∧ (∀ w, w < 4 → A 6 w = b_S d B w) ∧ A 99 14 = b_so d F B ∧ A 99 15 = b_i (!b_any d B)
theorem MO_fr {A' : mS} {S : List Nat} (h : MO A d F B) (hf : fr S A A') (h5 : 5 ∉ S) (h6 : 6 ∉ S) (h9 : 99 ∉ S) : MO A' d F B := by
  unfold MO
  rw [fr_at hf h5, fr_at hf h6, fr_at hf h9]
  exact h
/-- sells -/
theorem m_se (hN : 200 ≤ N) (hd : d_ok d) (hf : f_ok d F) (hB : B_ok d B) (hM : MS A d F) (h5 : ∀ j, j < 4 * d_n d → A 5 j = B j) : ∃ A', g_148 N A = some (0, A') ∧ fr [6, 99] A A' ∧ f9 [14, 15] A A' ∧ MO A' d F B := by
  have hn := hd.2.2.2.1
  obtain ⟨n, rfl⟩ : ∃ n, N = n + 4 := ⟨N - 4, by omega⟩
  obtain ⟨A1, e1, f1, h1⟩ := m_se2 (N := n + 4) (B := B) (m := n - 1) hN hn 4 0 A (by omega) hM.1.2.1 h5 (fun v hv => by omega)
  rw [show 4 + 1 + (n - 1) = n + 4 by omega] at e1
  have s9 : ∀ (X : mS) (x : Int32), (va_up X 99 (upd (X 99) 14 x)) 6 = X 6 := fun X x => va_up_ne _ _ (by decide)
  have g1 : ∀ (X : mS) (x y : Int32), va_up (va_up X 99 (upd (X 99) 14 x)) 99 (upd ((va_up X 99 (upd (X 99) 14 x)) 99) 14 y) = va_up X 99 (upd (X 99) 14 y) := by
    intro X x y
    funext i
    by_cases c : i = 99
    · subst c
      rw [va_up_self, va_up_self, va_up_self]
      funext q
      by_cases c2 : q = 14
      · subst c2; rw [upd_self, upd_self]
      · rw [upd_ne _ _ c2, upd_ne _ _ c2, upd_ne _ _ c2]
    · rw [va_up_ne _ _ c, va_up_ne _ _ c, va_up_ne _ _ c]
  have h6 : ∀ x v, v < 4 → (va_up A1 99 (upd (A1 99) 14 x)) 6 v = b_S d B v := fun x v hv => by rw [s9]; exact h1 v hv
  have h14 : ∀ x, (va_up A1 99 (upd (A1 99) 14 x)) 99 14 = x := fun x => by rw [va_up_self, upd_self]
  have e2 : g_148 (n + 4) A = g_148_42 (n + 4) (n + 1) (Int32.ofNat 4) (va_up A1 99 (upd (A1 99) 14 (Int32.ofNat (b_bi (b_S d B) 3)))) := by
    refine e1.trans ?_
    rw [show (1 : Int32) = Int32.ofNat (0 + 1) from rfl, show (0 : Int32) = Int32.ofNat (b_bi (b_S d B) 0) from rfl]
    rw [m_se3 (n := n + 3) (k := 0) (by omega) (h6 _) (h14 _), g1, m_se3 (n := n + 2) (k := 1) (by omega) (h6 _) (h14 _), g1, m_se3 (n := n + 1) (k := 2) (by omega) (h6 _) (h14 _), g1]
  rw [e2]
  generalize hA2 : va_up A1 99 (upd (A1 99) 14 (Int32.ofNat (b_bi (b_S d B) 3))) = A2
  have q6 : ∀ v, v < 4 → A2 6 v = b_S d B v := by rw [← hA2]; exact h6 _
  have q14 : A2 99 14 = Int32.ofNat (b_bi (b_S d B) 3) := by rw [← hA2]; exact h14 _
  have f2 : fr [6, 99] A A2 := by rw [← hA2]; exact fr_up (fr_mono f1 (by simp)) (by simp)
  have p2 : f9 [14, 15] A A2 := by rw [← hA2]; exact f9_up (f9_fr f1 (by decide)) (by simp)
  show ∃ A', g_148_42b _ _ _ _ = _ ∧ _
  unfold g_148_42b
  have hb := bi_le (b_S d B) 3
  have hin2 : a_in (Int32.ofNat (b_bi (b_S d B) 3)) 4 = true := by rw [o_in (by omega)]; simp; omega
  have hS := S_ok hn hB (show b_bi (b_S d B) 3 < 4 by omega)
  simp only [e_bd, e_bdn, e_st, e_li, e_bs, e_opn, e_ops, e_ob, e_vo, e_ia, e_eq, e_ne, e_lt, e_ge, e_gt, e_le, cond_true, cond_false, Bool.cond_decide, show (4 : Int32) ≤ Int32.ofNat 4 by decide, if_true, q14, hin2, o_cl (show b_bi (b_S d B) 3 < 2147483648 by omega), q6 (b_bi (b_S d B) 3) (by omega)]
  have k0 : (0 : Int32).toInt = 0 := rfl
  by_cases c : b_S d B (b_bi (b_S d B) 3) = 0
  · have ca : b_any d B = false := by unfold b_any; rw [decide_eq_false_iff_not, z_lt, c]; omega
    simp only [c, not_true, if_false, g_148_73, e_bd, e_bdn, e_st, e_li, e_bs, e_opn, e_ops, e_ob, e_vo, e_ia, e_eq, e_ne, e_lt, e_ge, e_gt, e_le, cond_true, cond_false, Bool.cond_decide, show (decide ((1 : Int32) = 0) || decide ((1 : Int32) = 1)) = true by decide, va_up_self, upd_self, show ¬ (1 : Int32) = 0 by decide]
    generalize hA3 : va_up A2 99 (upd (A2 99) 15 1) = A3
    have f3 : fr [6, 99] A A3 := by rw [← hA3]; exact fr_up f2 (by simp)
    have p3 : f9 [14, 15] A A3 := by rw [← hA3]; exact f9_up p2 (by simp)
    rw [m_fn hd hf (MS_fr hM f3 (by decide))]
    simp only [e_bd, e_bdn, e_st, e_li, e_bs, e_opn, e_ops, e_ob, e_vo, e_ia, e_eq, e_ne, e_lt, e_ge, e_gt, e_le, cond_true, cond_false, Bool.cond_decide]
    refine ⟨_, rfl, fr_up f3 (by simp), f9_up p3 (by simp), ?_, ?_, ?_, ?_⟩
    · intro j hj
      rw [va_up_ne _ _ (by decide), fr_at f3 (by decide)]
      exact h5 j hj
    · intro w hw
      rw [va_up_ne _ _ (by decide), ← hA3, va_up_ne _ _ (by decide)]
      exact q6 w hw
    · rw [va_up_self, upd_self]
      unfold b_so
      rw [ca]
      rfl
    · rw [va_up_self, upd_ne _ _ (by decide), ← hA3, va_up_self, upd_self, ca]
      rfl
  · have ca : b_any d B = true := by unfold b_any; rw [decide_eq_true_iff, z_lt]; rw [z_eq] at c; omega
    simp only [c, not_false_eq_true, if_true, g_148_73, e_bd, e_bdn, e_st, e_li, e_bs, e_opn, e_ops, e_ob, e_vo, e_ia, e_eq, e_ne, e_lt, e_ge, e_gt, e_le, cond_true, cond_false, Bool.cond_decide, show (decide ((0 : Int32) = 0) || decide ((0 : Int32) = 1)) = true by decide]
    generalize hA3 : va_up A2 99 (upd (A2 99) 15 0) = A3
    have e15 : A3 99 15 = 0 := by rw [← hA3, va_up_self, upd_self]
    rw [if_pos e15]
    have f3 : fr [6, 99] A A3 := by rw [← hA3]; exact fr_up f2 (by simp)
    have p3 : f9 [14, 15] A A3 := by rw [← hA3]; exact f9_up p2 (by simp)
    have e14 : A3 99 14 = Int32.ofNat (b_bi (b_S d B) 3) := by rw [← hA3, va_up_self, upd_ne _ _ (by decide)]; exact q14
    refine ⟨_, rfl, fr_up f3 (by simp), f9_up p3 (by simp), ?_, ?_, ?_, ?_⟩
    · intro j hj
      rw [va_up_ne _ _ (by decide), fr_at f3 (by decide)]
      exact h5 j hj
    · intro w hw
      rw [va_up_ne _ _ (by decide), ← hA3, va_up_ne _ _ (by decide)]
      exact q6 w hw
    · rw [va_up_self, upd_self]
      unfold b_so
      rw [ca]
      exact e14
    · rw [va_up_self, upd_ne _ _ (by decide), ← hA3, va_up_self, upd_self, ca]
      rfl
end MSL
