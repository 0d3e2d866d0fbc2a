/-! 63.kcl: what the class lets pay; it closes an evening -/
section KCL
variable {N : Nat} {d : dS} {F : fS} {C : mS} {P : Nat → Option Nat} {vl : Option Nat} {R : List aC} {B : Nat → Int32}
theorem k_bo (hn : d_n d ≤ 8) (hO : CO C d F B) {p w : Nat} (hp : p < d_n d) (hw : w < 4) : k_22 N P vl R (Int32.ofNat p) (Int32.ofNat w) C = some (B (4 * p + w), C) := by
  unfold k_22
  simp only [e_bd, e_bdn, e_st, e_li, e_bs, e_opn, e_ops, e_ob, e_vo, e_ia, e_eq, e_ne, e_lt, e_ge, e_gt, e_le, cond_true, cond_false, Bool.cond_decide, show Int32.ofNat (p) * 4 + Int32.ofNat (w) = Int32.ofNat (4 * (p) + w) by rw [show (4 : Int32) = Int32.ofNat 4 from rfl, o_mul, o_add, Nat.mul_comm], show a_in (Int32.ofNat (4 * p + w)) 32 = true by rw [o_in (by omega)]; simp; omega, o_cl (show 4 * p + w < 2147483648 by omega), hO.1 (4 * p + w) (by omega)]
theorem k_ha1 (hn : d_n d ≤ 8) (hO : CO C d F B) {p : Nat} (hp : p < d_n d) {k n : Nat} (hk : k < 4) : k_17_4 N P vl R (n + 1) (Int32.ofNat p) (b_mo (b_S d B) B p k) (Int32.ofNat k) C = k_17_4 N P vl R n (Int32.ofNat p) (b_mo (b_S d B) B p (k + 1)) (Int32.ofNat (k + 1)) C := by
  show k_17_4b _ _ _ _ _ _ _ _ _ = _
  unfold k_17_4b
  simp only [e_bd, e_bdn, e_st, e_li, e_bs, e_opn, e_ops, e_ob, e_vo, e_ia, e_eq, e_ne, e_lt, e_ge, e_gt, e_le, cond_true, cond_false, Bool.cond_decide, show ¬ (4 : Int32) ≤ Int32.ofNat (k) by rw [show (4 : Int32) = Int32.ofNat 4 from rfl, o_le (by omega) (by omega)]; omega, if_false, show a_in (Int32.ofNat (k)) 4 = true by rw [o_in (by omega)]; simp; omega, o_cl (show k < 2147483648 by omega), hO.2.1 k hk, k_bo hn hO hp hk, show Int32.ofNat (k) + 1 = Int32.ofNat (k + 1) from o_add (q := 1)]
  rfl
theorem k_harm (hN : 200 ≤ N) (hd : d_ok d) (hf : f_ok d F) (hO : CO C d F B) {p : Nat} (hp : p < d_n d) : k_17 N P vl R (Int32.ofNat p) C = some (b_hm d F B p, C) := by
  have hn := hd.2.2.2.1
  obtain ⟨n, rfl⟩ : ∃ n, N = n + 5 := ⟨N - 5, by omega⟩
  obtain ⟨q, hq, hso⟩ := so_ok (B := B) hd hf
  unfold k_17
  rw [show k_17_4 (n + 5) P vl R (n + 5) (Int32.ofNat p) (0 : Int32) (0 : Int32) C = k_17_4 (n + 5) P vl R (n + 4 + 1) (Int32.ofNat p) (b_mo (b_S d B) B p 0) (Int32.ofNat 0) C from rfl, k_ha1 hn hO hp (by omega), k_ha1 (n := n + 3) hn hO hp (by omega), k_ha1 (n := n + 2) hn hO hp (by omega), k_ha1 (n := n + 1) hn hO hp (by omega)]
  show k_17_4b _ _ _ _ _ _ _ _ _ = _
  unfold k_17_4b b_hm
  rw [hO.2.2.1, hso]
  simp only [e_bd, e_bdn, e_st, e_li, e_bs, e_opn, e_ops, e_ob, e_vo, e_ia, e_eq, e_ne, e_lt, e_ge, e_gt, e_le, cond_true, cond_false, Bool.cond_decide, show (4 : Int32) ≤ Int32.ofNat (0 + 1 + 1 + 1 + 1) by decide, if_true, show a_in (Int32.ofNat (q)) 4 = true by rw [o_in (by omega)]; simp; omega, o_cl (show q < 2147483648 by omega), k_bo hn hO hp hq, hO.2.1 q hq]
theorem k_p21 (hO : CO C d F B) {x1 : Int32} {k n : Nat} (hk : k < 4) : k_18_22 N P vl R (n + 1) x1 (b_2nd (b_S d B) (b_so d F B) k) (Int32.ofNat k) C = k_18_22 N P vl R n x1 (b_2nd (b_S d B) (b_so d F B) (k + 1)) (Int32.ofNat (k + 1)) C := by
  show k_18_22b _ _ _ _ _ _ _ _ _ = _
  unfold k_18_22b
  simp only [e_bd, e_bdn, e_st, e_li, e_bs, e_opn, e_ops, e_ob, e_vo, e_ia, e_eq, e_ne, e_lt, e_ge, e_gt, e_le, cond_true, cond_false, Bool.cond_decide, show ¬ (4 : Int32) ≤ Int32.ofNat (k) by rw [show (4 : Int32) = Int32.ofNat 4 from rfl, o_le (by omega) (by omega)]; omega, if_false, show a_in (Int32.ofNat (k)) 4 = true by rw [o_in (by omega)]; simp; omega, o_cl (show k < 2147483648 by omega), hO.2.2.1, hO.2.1 k hk, show Int32.ofNat (k) + 1 = Int32.ofNat (k + 1) from o_add (q := 1), b_2nd]
  by_cases c : Int32.ofNat k = b_so d F B
  · rw [if_pos c, if_pos c]
  · rw [if_neg c, if_neg c]
    rfl
theorem k_p22 (hn : d_n d ≤ 8) (h12 : C 90 12 = Int32.ofNat (d_n d)) (hO : CO C d F B) {q : Nat} (hq : q < 4) (hso : b_so d F B = Int32.ofNat q) {n : Nat} : ∀ r k, k + r = d_n d → k_18_4 N P vl R (r + n) (Int32.ofNat (b_cnt B q k)) (Int32.ofNat k) C = k_18_4 N P vl R n (Int32.ofNat (b_cnt B q (d_n d))) (Int32.ofNat (d_n d)) C := by
  intro r
  induction r with
  | zero => intro k hk; rw [show k = d_n d by omega, Nat.zero_add]
  | succ r ih =>
    intro k hk
    rw [← ih (k + 1) (by omega), show r + 1 + n = (r + n) + 1 by omega]
    show k_18_4b _ _ _ _ _ _ _ _ = _
    unfold k_18_4b
    rw [hO.2.2.1, hso]
    simp only [e_bd, e_bdn, e_st, e_li, e_bs, e_opn, e_ops, e_ob, e_vo, e_ia, e_eq, e_ne, e_lt, e_ge, e_gt, e_le, cond_true, cond_false, Bool.cond_decide, h12, show ¬ Int32.ofNat (d_n d) ≤ Int32.ofNat (k) by rw [o_le (by omega) (by omega)]; omega, if_false, k_bo hn hO (show k < d_n d by omega) hq, show Int32.ofNat (k) + 1 = Int32.ofNat (k + 1) from o_add (q := 1), b_cnt, show Int32.ofNat (b_cnt B q k) + 1 = Int32.ofNat (b_cnt B q k + 1) from o_add (q := 1)]
    by_cases c : 0 < B (4 * k + q)
    · have c' : ¬ B (4 * k + q) ≤ 0 := by rw [z_lt] at c; rw [z_le]; omega
      rw [if_neg c', if_pos c]
    · have c' : B (4 * k + q) ≤ 0 := by rw [z_lt] at c; rw [z_le]; omega
      rw [if_pos c', if_neg c]
theorem k_ru (hC : CD C P vl R d) : k_71 N P vl R C = some (d_ru d, C) := by
  unfold k_71
  rcases hC.1 with ⟨hvl, -, hr, -⟩ | ⟨b, cr, er, ar, fc, fe, fa, hvl, hv0, -⟩
  · rw [hvl, hr]; rfl
  · rw [hvl]
    simp only [e_bd, e_bdn, e_st, e_li, e_bs, e_opn, e_ops, e_ob, e_vo, e_ia, e_eq, e_ne, e_lt, e_ge, e_gt, e_le, cond_true, cond_false, Bool.cond_decide, hv0]
theorem k_gi (hC : CD C P vl R d) : k_72 N P vl R C = some (d_gi d, C) := by
  unfold k_72
  rcases hC.1 with ⟨hvl, -, -, hr⟩ | ⟨b, cr, er, ar, fc, fe, fa, hvl, hv0, -⟩
  · rw [hvl, hr]; rfl
  · rw [hvl]
    simp only [e_bd, e_bdn, e_st, e_li, e_bs, e_opn, e_ops, e_ob, e_vo, e_ia, e_eq, e_ne, e_lt, e_ge, e_gt, e_le, cond_true, cond_false, Bool.cond_decide, hv0]
theorem k_reb (hN : 200 ≤ N) (hd : d_ok d) (hf : f_ok d F) (hB : B_ok d B) (hC : CD C P vl R d) (hO : CO C d F B) (ha : b_any d B = true) : k_18 N P vl R C = some ((b_S d B (b_so d F B).toNatClampNeg - b_2nd (b_S d B) (b_so d F B) 4) / Int32.ofNat (b_cnt B (b_so d F B).toNatClampNeg (d_n d)), C) := by
  have hn := hd.2.2.2.1
  obtain ⟨q, hq, hso⟩ := so_ok (B := B) hd hf
  have hcp := cnt_pos (F := F) hd hB ha
  rw [hso, o_cl (by omega)] at hcp
  have hcl := cnt_le (B := B) (so := q) (d_n d)
  have hz : ¬ Int32.ofNat (b_cnt B q (d_n d)) = 0 := by rw [show (0 : Int32) = Int32.ofNat 0 from rfl, o_eq (by omega) (by omega)]; omega
  have e := k_p22 (N := N) (P := P) (vl := vl) (R := R) (F := F) hn hC.2.1 hO hq hso (n := N - d_n d) (d_n d) 0 (by omega)
  rw [show d_n d + (N - d_n d) = N by omega] at e
  unfold k_18
  refine e.trans ?_
  obtain ⟨m, hm⟩ : ∃ m, N - d_n d = m + 1 := ⟨N - d_n d - 1, by omega⟩
  rw [hm]
  show k_18_4b _ _ _ _ _ _ _ _ = _
  unfold k_18_4b
  simp only [e_bd, e_bdn, e_st, e_li, e_bs, e_opn, e_ops, e_ob, e_vo, e_ia, e_eq, e_ne, e_lt, e_ge, e_gt, e_le, cond_true, cond_false, Bool.cond_decide, hC.2.1, z_le, Int.le_refl, if_true]
  obtain ⟨n, rfl⟩ : ∃ n, N = n + 5 := ⟨N - 5, by omega⟩
  rw [show k_18_22 (n + 5) P vl R (n + 5) (Int32.ofNat (b_cnt B q (d_n d))) (0 : Int32) (0 : Int32) C = k_18_22 (n + 5) P vl R (n + 4 + 1) (Int32.ofNat (b_cnt B q (d_n d))) (b_2nd (b_S d B) (b_so d F B) 0) (Int32.ofNat 0) C from rfl, k_p21 hO (by omega), k_p21 (n := n + 3) hO (by omega), k_p21 (n := n + 2) hO (by omega), k_p21 (n := n + 1) hO (by omega)]
  show k_18_22b _ _ _ _ _ _ _ _ _ = _
  unfold k_18_22b
  simp only [e_bd, e_bdn, e_st, e_li, e_bs, e_opn, e_ops, e_ob, e_vo, e_ia, e_eq, e_ne, e_lt, e_ge, e_gt, e_le, cond_true, cond_false, Bool.cond_decide, show (4 : Int32) ≤ Int32.ofNat (0 + 1 + 1 + 1 + 1) by decide, if_true, hz, not_false_eq_true, hO.2.2.1, hso, show a_in (Int32.ofNat (q)) 4 = true by rw [o_in (by omega)]; simp; omega, o_cl (show q < 2147483648 by omega), hO.2.1 q hq]
/-- due -/
theorem k_due (hN : 200 ≤ N) (hd : d_ok d) (hf : f_ok d F) (hB : B_ok d B) (hC : CD C P vl R d) (hO : CO C d F B) {p : Nat} (hp : p < d_n d) : k_16 N P vl R (Int32.ofNat p) C = some (b_pay d F B p, C) := by
  have hn := hd.2.2.2.1
  obtain ⟨q, hq, hso⟩ := so_ok (B := B) hd hf
  unfold k_16 b_pay
  rw [hO.2.2.2]
  cases ha : b_any d B
  · simp only [e_bd, e_bdn, e_st, e_li, e_bs, e_opn, e_ops, e_ob, e_vo, e_ia, e_eq, e_ne, e_lt, e_ge, e_gt, e_le, cond_true, cond_false, Bool.cond_decide, show b_i false = 0 from rfl, not_true, if_false]
    rfl
  · rw [hO.2.2.1, hso]
    simp only [e_bd, e_bdn, e_st, e_li, e_bs, e_opn, e_ops, e_ob, e_vo, e_ia, e_eq, e_ne, e_lt, e_ge, e_gt, e_le, cond_true, cond_false, Bool.cond_decide, show ¬ b_i true = 0 by decide, not_false_eq_true, if_true, k_bo hn hO hp hq, k_ru hC, o_cl (show q < 2147483648 by omega)]
    rcases hd.2.1 with h | h | h
    · rw [h, show a_lsw 26 [(1, 26), (2, 32)] [15, 19] 0 = 26 by decide]
      simp
    · rw [h, show a_lsw 26 [(1, 26), (2, 32)] [15, 19] 1 = 15 by decide]
      simp [k_harm hN hd hf hO hp, e_bd, e_bdn, e_st, e_li, e_bs, e_opn, e_ops, e_ob, e_vo, e_ia, e_eq, e_ne, e_lt, e_ge, e_gt, e_le, cond_true, cond_false, Bool.cond_decide]
    · rw [h, show a_lsw 26 [(1, 26), (2, 32)] [15, 19] 2 = 19 by decide]
      simp only [show ¬ (19 : Nat) = 15 by decide, if_false, if_true, show ¬ (2 : Int32) = 1 by decide, k_reb hN hd hf hB hC hO ha, e_bd, e_bdn, e_st, e_li, e_bs, e_opn, e_ops, e_ob, e_vo, e_ia, e_eq, e_ne, e_lt, e_ge, e_gt, e_le, cond_true, cond_false, Bool.cond_decide, hso, o_cl (show q < 2147483648 by omega)]
      rfl
/-- worthTo -/
theorem k_wt (hN : 200 ≤ N) (hd : d_ok d) (hC : CS C P vl R d F) {p : Nat} (hp : p < d_n d) {w : Int32} : ∃ C', k_29 N P vl R (Int32.ofNat p) w C = some (w_now d F p w, C') ∧ fr [12] C C' := by
  obtain ⟨a, e1, ha⟩ := k_one (N := N) hd.2.2.2.1 hC.1 hp
  obtain ⟨C1, e2, f2⟩ := k_now (w := w) hN hd hC hp ha
  refine ⟨C1, ?_, f2⟩
  unfold k_29
  simp only [e1, e_bd, e_bdn, e_st, e_li, e_bs, e_opn, e_ops, e_ob, e_vo, e_ia, e_eq, e_ne, e_lt, e_ge, e_gt, e_le, cond_true, cond_false, Bool.cond_decide, e2]
/-- gain -/
theorem k_gain (hN : 200 ≤ N) (hd : d_ok d) (hf : f_ok d F) (hB : B_ok d B) (hC : CS C P vl R d F) (hO : CO C d F B) {p : Nat} (hp : p < d_n d) : ∃ C', k_24 N P vl R (Int32.ofNat p) C = some (b_gn d F B p, C') ∧ fr [12] C C' := by
  obtain ⟨C1, e1, f1⟩ := k_wt (w := C 92 9) hN hd hC hp
  refine ⟨C1, ?_, f1⟩
  unfold k_24
  rw [e1]
  simp only [e_bd, e_bdn, e_st, e_li, e_bs, e_opn, e_ops, e_ob, e_vo, e_ia, e_eq, e_ne, e_lt, e_ge, e_gt, e_le, cond_true, cond_false, Bool.cond_decide, k_due hN hd hf hB (CS12 hC f1).1 (CO_fr hO f1 (by decide) (by decide) (by decide)) hp]
  rw [hO.2.2.1]
  rfl
theorem k_wa1 (hN : 200 ≤ N) (hd : d_ok d) {w y dy : Int32} {n : Nat} : ∀ (r k : Nat) (C : mS), k + r = d_n d → CD C P vl R d → ∃ C', k_31_4 N P vl R (r + 1 + n) w dy y (w_all d w y dy k) (Int32.ofNat k) C = some (w_all d w y dy (d_n d), C') ∧ fr [12] C C' := by
  have hn := hd.2.2.2.1
  intro r
  induction r with
  | zero =>
    intro k C hk hC
    obtain rfl : k = d_n d := by omega
    refine ⟨C, ?_, fr_rfl⟩
    rw [show 0 + 1 + n = n + 1 by omega]
    show k_31_4b _ _ _ _ _ _ _ _ _ _ _ = _
    unfold k_31_4b
    simp only [e_bd, e_bdn, e_st, e_li, e_bs, e_opn, e_ops, e_ob, e_vo, e_ia, e_eq, e_ne, e_lt, e_ge, e_gt, e_le, cond_true, cond_false, Bool.cond_decide, hC.2.1, z_le, Int.le_refl, if_true]
  | succ r ih =>
    intro k C hk hC
    obtain ⟨a, e0, ha⟩ := k_one (N := N) hn hC (show k < d_n d by omega)
    obtain ⟨C1, e1, f1⟩ := kw_worth (C := C) (P := P) (w := w) (y := y) (dy := dy) (N := N) (by omega) hd.1 hC.1 ha (hd.2.2.2.2.1 k (by omega))
    obtain ⟨C2, e2, f2⟩ := ih (k + 1) C1 (by omega) (CD_fr hC f1 (by decide) (by decide) (by decide))
    refine ⟨C2, ?_, fr_tr f1 f2⟩
    rw [show r + 1 + 1 + n = (r + 1 + n) + 1 by omega]
    show k_31_4b _ _ _ _ _ _ _ _ _ _ _ = _
    unfold k_31_4b
    simp only [e_bd, e_bdn, e_st, e_li, e_bs, e_opn, e_ops, e_ob, e_vo, e_ia, e_eq, e_ne, e_lt, e_ge, e_gt, e_le, cond_true, cond_false, Bool.cond_decide, hC.2.1, show ¬ Int32.ofNat (d_n d) ≤ Int32.ofNat (k) by rw [o_le (by omega) (by omega)]; omega, if_false, e0, e1, show Int32.ofNat (k) + 1 = Int32.ofNat (k + 1) from o_add (q := 1)]
    exact e2
theorem k_wall (hN : 200 ≤ N) (hd : d_ok d) (hC : CD C P vl R d) {w y dy : Int32} : ∃ C', k_31 N P vl R w dy y C = some (w_all d w y dy (d_n d), C') ∧ fr [12] C C' := by
  have hn := hd.2.2.2.1
  obtain ⟨C1, e1, f1⟩ := k_wa1 (N := N) (P := P) (vl := vl) (R := R) (w := w) (y := y) (dy := dy) (n := N - (d_n d + 1)) hN hd (d_n d) 0 C (by omega) hC
  rw [show d_n d + 1 + (N - (d_n d + 1)) = N by omega] at e1
  exact ⟨C1, e1, f1⟩
theorem k_wnow (hN : 200 ≤ N) (hd : d_ok d) (hC : CS C P vl R d F) {w : Int32} : ∃ C', k_30 N P vl R w C = some (w_all d w (f_ah F) (f_dy F) (d_n d), C') ∧ fr [12] C C' := by
  obtain ⟨C1, e1, f1⟩ := k_wall (N := N) (w := w) (y := f_ah F) (dy := f_dy F) hN hd hC.1
  refine ⟨C1, ?_, f1⟩
  unfold k_30
  rw [hC.2.1, hC.2.2.1, e1]
  rfl
theorem k_cl1 (hN : 200 ≤ N) (hd : d_ok d) (hf : f_ok d F) (hB : B_ok d B) {C0 : mS} {m : Nat} (hS : CS C0 P vl R d F) : ∀ (r k : Nat) (C : mS), k + r = d_n d → fr [9] C0 C → CO C d F B → (∀ j, C 9 j = if j < k then e_pu d F B j else C0 9 j) →
    ∃ C', k_19_8 N P vl R (r + m) (b_pd d F B k) (d_gi d) (Int32.ofNat k) C = k_19_8 N P vl R m (b_pd d F B (d_n d)) (d_gi d) (Int32.ofNat (d_n d)) C' ∧ fr [9] C0 C' ∧ CO C' d F B ∧ (∀ j, C' 9 j = if j < d_n d then e_pu d F B j else C0 9 j) := by
  have hn := hd.2.2.2.1
  intro r
  induction r with
  | zero =>
    intro k C hk hf0 hO h9
    obtain rfl : k = d_n d := by omega
    exact ⟨C, by rw [Nat.zero_add], hf0, hO, h9⟩
  | succ r ih =>
    intro k C hk hf0 hO h9
    have hC := CD_fr hS.1 hf0 (by decide) (by decide) (by decide)
    have e1 := k_due (N := N) hN hd hf hB hC hO (show k < d_n d by omega)
    have hpk : C 9 k = f_pu F k := by rw [h9, if_neg (by omega)]; exact hS.2.2.2.2 k (by omega)
    generalize hC1 : va_up C 9 (upd (C 9) k (e_pu d F B k)) = C1
    have f1 : fr [9] C0 C1 := by rw [← hC1]; exact fr_up hf0 (by simp)
    have o1 : CO C1 d F B := CO_fr hO (S := [9]) (by rw [← hC1]; exact fr_up fr_rfl (by simp)) (by decide) (by decide) (by decide)
    obtain ⟨C2, e2, f2, o2, h2⟩ := ih (k + 1) C1 (by omega) f1 o1 (by
      intro j
      rw [← hC1, va_up_self]
      by_cases c : j = k
      · subst c
        rw [upd_self, if_pos (by omega)]
      · rw [upd_ne _ _ c, h9 j]
        by_cases c2 : j < k
        · rw [if_pos c2, if_pos (by omega)]
        · rw [if_neg c2, if_neg (by omega)])
    refine ⟨C2, ?_, f2, o2, h2⟩
    rw [← e2, show r + 1 + m = (r + m) + 1 by omega]
    show k_19_8b _ _ _ _ _ _ _ _ _ = _
    unfold k_19_8b
    have hcap : ∀ z : Int32, (if z < 999 then z else 999) = i_cap z := by
      intro z
      rw [← cap_le]
      have k9 : (999 : Int32).toInt = 999 := rfl
      by_cases c : z < 999
      · rw [if_pos c, if_pos (by rw [z_lt] at c; rw [z_le]; omega)]
      · rw [if_neg c]
        by_cases c2 : z ≤ 999
        · rw [if_pos c2, z_eq]; rw [z_lt] at c; rw [z_le] at c2; omega
        · rw [if_neg c2]
    simp only [e_bd, e_bdn, e_st, e_li, e_bs, e_opn, e_ops, e_ob, e_vo, e_ia, e_eq, e_ne, e_lt, e_ge, e_gt, e_le, cond_true, cond_false, Bool.cond_decide, hC.2.1, show ¬ Int32.ofNat (d_n d) ≤ Int32.ofNat (k) by rw [o_le (by omega) (by omega)]; omega, if_false, e1, show a_in (Int32.ofNat (k)) 8 = true by rw [o_in (by omega)]; simp; omega, o_cl (show k < 2147483648 by omega), hpk, show Int32.ofNat (k) + 1 = Int32.ofNat (k + 1) from o_add (q := 1), hcap]
    rw [show va_up C 9 (upd (C 9) k (i_cap ((if (0 : Int32) < f_pu F k - b_pay d F B k then f_pu F k - b_pay d F B k else 0) + d_gi d))) = C1 from hC1]
    rfl
/-- close -/
theorem k_clo (hN : 200 ≤ N) (hd : d_ok d) (hf : f_ok d F) (hC : CS C P vl R d F) (hO : CO C d F (b_all d F)) : ∃ C', k_19 N P vl R C = some (b_pd d F (b_all d F) (d_n d), C') ∧ fr [9, 92] C C' ∧ f2 [6, 7, 8] C C' ∧ CS C' P vl R d (e_nx d F) := by
  have hn := hd.2.2.2.1
  have hfn := hd.2.2.2.2.2.2.2.1
  obtain ⟨C1, e1, f1, o1, h1⟩ := k_cl1 (N := N) (C0 := C) (m := N - d_n d) hN hd hf (B_all hf) hC (d_n d) 0 C (by omega) fr_rfl hO (fun j => by rw [if_neg (by omega)])
  rw [show d_n d + (N - d_n d) = N by omega] at e1
  unfold k_19
  simp only [k_gi hC.1, e_bd, e_bdn, e_st, e_li, e_bs, e_opn, e_ops, e_ob, e_vo, e_ia, e_eq, e_ne, e_lt, e_ge, e_gt, e_le, cond_true, cond_false, Bool.cond_decide]
  rw [show k_19_8 N P vl R N (0 : Int32) (d_gi d) (0 : Int32) C = k_19_8 N P vl R N (b_pd d F (b_all d F) 0) (d_gi d) (Int32.ofNat 0) C from rfl, e1]
  obtain ⟨m, hm⟩ : ∃ m, N - d_n d = m + 1 := ⟨N - d_n d - 1, by omega⟩
  rw [hm]
  show ∃ C', k_19_8b _ _ _ _ _ _ _ _ _ = _ ∧ _
  unfold k_19_8b
  have h12 : C1 90 12 = Int32.ofNat (d_n d) := by rw [fr_at f1 (by decide)]; exact hC.1.2.1
  have h92 : C1 92 = C 92 := fr_at f1 (by decide)
  simp only [e_bd, e_bdn, e_st, e_li, e_bs, e_opn, e_ops, e_ob, e_vo, e_ia, e_eq, e_ne, e_lt, e_ge, e_gt, e_le, cond_true, cond_false, Bool.cond_decide, h12, z_le, Int.le_refl, if_true, k_19_49]
  have fin : ∀ (C2 : mS) (tu : Int32), fr [9, 92] C C2 → C2 9 = C1 9 → f2 [6] C C2 → C2 92 6 = tu → C2 92 9 = b_so d F (b_all d F) → tu = (if b_any d (b_all d F) then f_tu F else if f_tu F + 1 < Int32.ofNat (d_fn d) then f_tu F + 1 else 0) → ∃ C', some (b_pd d F (b_all d F) (d_n d), va_up C2 92 (upd (upd (C2 92) 7 (C2 92 7 + 1)) 8 (C2 92 9))) = some (b_pd d F (b_all d F) (d_n d), C') ∧ fr [9, 92] C C' ∧ f2 [6, 7, 8] C C' ∧ CS C' P vl R d (e_nx d F) := by
    intro C2 tu g1 g2 g3 g4 g5 g6
    refine ⟨_, rfl, fr_up g1 (by simp), ?_, ?_, ?_, ?_, ?_, ?_⟩
    · intro f hf'
      simp at hf'
      rw [va_up_self, upd_ne _ _ (by omega), upd_ne _ _ (by omega)]
      exact g3 f (by simp; omega)
    · exact CD_fr hC.1 (fr_up g1 (by simp)) (by decide) (by decide) (by decide)
    · rw [va_up_self, upd_ne _ _ (by decide), upd_self, g3 7 (by decide), hC.2.1]; rfl
    · rw [va_up_self, upd_self, g5]; rfl
    · rw [va_up_self, upd_ne _ _ (by decide), upd_ne _ _ (by decide), g4, g6]; rfl
    · intro p hp
      rw [va_up_ne _ _ (by decide), g2, h1 p]
      show _ = if p < d_n d then _ else _
      by_cases c : p < d_n d
      · rw [if_pos c, if_pos c]; rfl
      · rw [if_neg c, if_neg c]; exact hC.2.2.2.2 p hp
  rw [o1.2.2.2]
  cases ha : b_any d (b_all d F)
  · simp only [show b_i false = 0 from rfl, not_true, if_false, k_74, e_bd, e_bdn, e_st, e_li, e_bs, e_opn, e_ops, e_ob, e_vo, e_ia, e_eq, e_ne, e_lt, e_ge, e_gt, e_le, cond_true, cond_false, Bool.cond_decide]
    have h7 : C1 90 7 = Int32.ofNat (d_fn d) := by rw [fr_at f1 (by decide)]; exact hC.1.2.2.2.2.1
    have h6 : C1 92 6 = f_tu F := by rw [h92]; exact hC.2.2.2.1
    rw [h7, h6]
    by_cases c : Int32.ofNat (d_fn d) ≤ f_tu F + 1
    · rw [if_pos c]
      simp only [e_bd, e_bdn, e_st, e_li, e_bs, e_opn, e_ops, e_ob, e_vo, e_ia, e_eq, e_ne, e_lt, e_ge, e_gt, e_le, cond_true, cond_false, Bool.cond_decide]
      refine fin (va_up C1 92 (upd (C1 92) 6 0)) 0 (fr_up (fr_mono f1 (by simp)) (by simp)) (va_up_ne _ _ (by decide)) (f2_up (f2_fr f1 (by decide)) (by simp)) (by rw [va_up_self, upd_self]) (by rw [va_up_self, upd_ne _ _ (by decide)]; exact o1.2.2.1) ?_
      rw [ha, if_neg (by simp), if_neg (by rw [z_le] at c; rw [z_lt]; omega)]
    · rw [if_neg c]
      simp only [e_bd, e_bdn, e_st, e_li, e_bs, e_opn, e_ops, e_ob, e_vo, e_ia, e_eq, e_ne, e_lt, e_ge, e_gt, e_le, cond_true, cond_false, Bool.cond_decide]
      refine fin (va_up C1 92 (upd (C1 92) 6 (f_tu F + 1))) (f_tu F + 1) (fr_up (fr_mono f1 (by simp)) (by simp)) (va_up_ne _ _ (by decide)) (f2_up (f2_fr f1 (by decide)) (by simp)) (by rw [va_up_self, upd_self]) (by rw [va_up_self, upd_ne _ _ (by decide)]; exact o1.2.2.1) ?_
      rw [ha, if_neg (by simp), if_pos (by rw [z_le] at c; rw [z_lt]; omega)]
  · simp only [show ¬ b_i true = 0 by decide, not_false_eq_true, if_true]
    refine fin C1 (f_tu F) (fr_mono f1 (by simp)) rfl (f2_fr f1 (by decide)) (by rw [h92]; exact hC.2.2.2.1) o1.2.2.1 ?_
    rw [ha, if_pos rfl]
theorem mo_ok (hn : d_n d ≤ 8) (hB : B_ok d B) {p : Nat} (hp : p < d_n d) : ∀ k, k ≤ 4 → 0 ≤ (b_mo (b_S d B) B p k).toInt ∧ (b_mo (b_S d B) B p k).toInt ≤ 8000 := by
  have k0 : (0 : Int32).toInt = 0 := rfl
  intro k
  induction k with
  | zero => intro _; exact ⟨show (0 : Int) ≤ (0 : Int32).toInt by decide, show (0 : Int32).toInt ≤ 8000 by decide⟩
  | succ k ih =>
    intro hk
    have h1 := ih (by omega)
    have h2 := S_ok hn hB (show k < 4 by omega)
    have h3 := hB (4 * p + k) (by omega)
    have h4 : (b_S d B k - B (4 * p + k)).toInt = (b_S d B k).toInt - (B (4 * p + k)).toInt := z_sub (by omega) (by omega)
    simp only [b_mo, i_mx]
    split
    · rename_i c
      rw [z_lt] at c
      omega
    · omega
theorem mx0_ok (z : Int32) : 0 ≤ (i_mx 0 z).toInt := by
  have k0 : (0 : Int32).toInt = 0 := rfl
  unfold i_mx
  split
  · rename_i c; rw [z_lt] at c; omega
  · omega
theorem pay_ok (hd : d_ok d) (hf : f_ok d F) (hB : B_ok d B) {p : Nat} (hp : p < d_n d) : -100000 ≤ (b_pay d F B p).toInt := by
  have hn := hd.2.2.2.1
  have k0 : (0 : Int32).toInt = 0 := rfl
  obtain ⟨q, hq, hso⟩ := so_ok (B := B) hd hf
  have h1 := mo_ok hn hB hp 4 (by omega)
  have h2 := S_ok hn hB hq
  have h3 := hB (4 * p + q) (by omega)
  unfold b_pay b_hm
  rw [hso, o_cl (by omega)]
  split
  · split
    · have e1 : (b_S d B q - B (4 * p + q)).toInt = (b_S d B q).toInt - (B (4 * p + q)).toInt := z_sub (by omega) (by omega)
      rw [z_sub (by omega) (by omega)]
      omega
    · split
      · have := mx0_ok (B (4 * p + q) - (b_S d B q - b_2nd (b_S d B) (Int32.ofNat q) 4) / Int32.ofNat (b_cnt B q (d_n d)))
        omega
      · omega
  · omega
/-- bounds behind an evening -/
theorem e_ok (hd : d_ok d) (hf : f_ok d F) (hy : (f_dy F).toInt < 999) : f_ok d (e_nx d F) := by
  have hfn := hd.2.2.2.2.2.2.2.1
  have hgi := hd.2.2.1
  obtain ⟨h1, h2, h3, h4⟩ := hf
  obtain ⟨q, hq, hso⟩ := so_ok (F := F) (B := b_all d F) hd ⟨h1, h2, h3, h4⟩
  have k1 : (1 : Int32).toInt = 1 := rfl
  have k0 : (0 : Int32).toInt = 0 := rfl
  have k9 : (999 : Int32).toInt = 999 := rfl
  refine ⟨?_, ?_, ?_, ?_⟩
  · show 0 ≤ (f_dy F + 1).toInt ∧ (f_dy F + 1).toInt < 1000
    rw [z_add (by omega) (by omega)]; omega
  · show 0 ≤ (b_so d F (b_all d F)).toInt ∧ (b_so d F (b_all d F)).toInt < 4
    rw [hso, z_ofNat (by omega)]; omega
  · show 0 ≤ (if b_any d (b_all d F) then f_tu F else if f_tu F + 1 < Int32.ofNat (d_fn d) then f_tu F + 1 else 0).toInt ∧ _
    have hz : (f_tu F + 1).toInt = (f_tu F).toInt + 1 := by rw [z_add (by omega) (by omega)]; omega
    show 0 ≤ (if b_any d (b_all d F) then f_tu F else if f_tu F + 1 < Int32.ofNat (d_fn d) then f_tu F + 1 else 0).toInt ∧ ((if b_any d (b_all d F) then f_tu F else if f_tu F + 1 < Int32.ofNat (d_fn d) then f_tu F + 1 else 0).toInt < d_fn d ∨ (if b_any d (b_all d F) then f_tu F else if f_tu F + 1 < Int32.ofNat (d_fn d) then f_tu F + 1 else 0).toInt = 0)
    split
    · exact h3
    · split
      · rename_i c
        rw [z_lt, z_ofNat (by omega)] at c
        omega
      · omega
  · intro p hp
    show 0 ≤ (if p < d_n d then i_cap (i_mx 0 (f_pu F p - b_pay d F (b_all d F) p) + d_gi d) else f_pu F p).toInt ∧ (if p < d_n d then i_cap (i_mx 0 (f_pu F p - b_pay d F (b_all d F) p) + d_gi d) else f_pu F p).toInt < 1000
    rw [if_pos hp]
    have h5 := h4 p hp
    have h6 := pay_ok (B := b_all d F) hd ⟨h1, h2, h3, h4⟩ (B_all ⟨h1, h2, h3, h4⟩) hp
    have h7 := z_rng (b_pay d F (b_all d F) p)
    have h8 : (f_pu F p - b_pay d F (b_all d F) p).toInt = (f_pu F p).toInt - (b_pay d F (b_all d F) p).toInt := z_sub (by omega) (by omega)
    generalize hz : f_pu F p - b_pay d F (b_all d F) p = z at h8
    have h9 : 0 ≤ (i_mx 0 z).toInt ∧ (i_mx 0 z).toInt < 200000 := by
      refine ⟨mx0_ok z, ?_⟩
      unfold i_mx
      split <;> omega
    have h10 : (i_mx 0 z + d_gi d).toInt = (i_mx 0 z).toInt + (d_gi d).toInt := z_add (by omega) (by omega)
    unfold i_cap
    split
    · omega
    · rename_i c
      rw [z_lt] at c
      omega
end KCL
