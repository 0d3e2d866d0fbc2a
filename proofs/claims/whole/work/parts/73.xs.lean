/-! 73.xs: fortune, beside, book, row, trace, as -/
section XS
variable {N : Nat} {d : dS} {F : fS} {A C : mS} {P : Nat → Option Nat} {vl : Option Nat} {R : List aC} {ns nv nb nk : Nat}
theorem m_w4 {x : Int32} : g_113 N x A = some (b_i (decide (0 ≤ x.toInt ∧ x.toInt < 4)), A) := by
  unfold g_113
  rw [m_in]
  simp only [e_bd, e_bdn, e_st, e_li, e_bs, e_opn, e_ops, e_ob, e_vo, e_ia, e_eq, e_ne, e_lt, e_ge, e_gt, e_le, cond_true, cond_false, Bool.cond_decide, b_ib]
  congr 3
  have k0 : (0 : Int32).toInt = 0 := rfl
  have k3 : (3 : Int32).toInt = 3 := rfl
  rw [decide_eq_decide, z_le, z_le]
  omega
theorem x_m1 {x : Int32} : (x = -1) ↔ x.toInt = -1 := ne_i (show (-1 : Int32).toInt = -1 from rfl)
theorem o_neg {n : Nat} (h : n < 2147483648) : ¬ Int32.ofNat n < 0 := by
  rw [show (0 : Int32) = Int32.ofNat 0 from rfl, o_lt h (by omega)]; omega
theorem q_fort (h : XR (A 0) C P vl R d F ns nv nb nk) (x : Int32) : ∃ r A' C', g_138 N x A = some (r, A') ∧ k_79 N P vl R x C = some (r, C') ∧ XW (A' 0) C' P vl R ∧ SM A A' ∧ C' 13 = C 13 := by
  have hx := h
  obtain ⟨⟨hd, hf, hy, hM, hF, hC, hW⟩, hs, hv, hb, hk, hr⟩ := h
  have hn := hd.2.2.2.1
  have hfn := hd.2.2.2.2.2.2.2.1
  have k0 : (0 : Int32).toInt = 0 := rfl
  have same : ∀ r : Int32, ∃ r' A' C', some (r, A) = some (r', A') ∧ some (r, C) = some (r', C') ∧ XW (A' 0) C' P vl R ∧ SM A A' ∧ C' 13 = C 13 := fun r => ⟨r, A, C, rfl, rfl, ⟨d, F, ns, nv, nb, nk, hx⟩, SM_rfl, rfl⟩
  have upd' : ∀ (s' : Nat → Int32) (C' : mS) (fo' : Nat → Int32) (fn' : Nat), fn' ≤ 12 → (∀ j, j < fn' → 0 ≤ (fo' j).toInt ∧ (fo' j).toInt < 4) → (∀ j, j ≠ 2 → j ≠ 13 → ¬ (188 ≤ j ∧ j < 200) → s' j = A 0 j) → s' 2 = 0 → s' 13 = Int32.ofNat fn' → (∀ j, j < fn' → s' (188 + j) = fo' j) → fr [1, 90] C C' → (∀ j, j ≠ 7 → j ≠ 8 → C' 90 j = C 90 j) → C' 90 7 = Int32.ofNat fn' → C' 90 8 = 0 → (∀ j, j < fn' → C' 1 j = fo' j) → XW s' C' P vl R := by
    intro s' C' fo' fn' hfn' hfo' g1 g2 g3 g4 gf g5 g6 g7 g8
    refine ⟨(d_V d, d_ru d, d_gi d, d_n d, d_kd d, d_vv d, d_rw d, fo', fn'), (f_dy F, f_ah F, 0, f_pu F), ns, nv, nb, nk, ⟨⟨hd.1, hd.2.1, hd.2.2.1, hd.2.2.2.1, hd.2.2.2.2.1, hd.2.2.2.2.2.1, hd.2.2.2.2.2.2.1, hfn', hfo'⟩, ⟨hf.1, hf.2.1, ⟨by rw [show f_tu (f_dy F, f_ah F, 0, f_pu F) = 0 from rfl]; decide, .inr rfl⟩, hf.2.2.2⟩, hy, ⟨?_, ?_, ?_, ?_, ?_, g3, g4⟩, ⟨?_, ?_, g2, ?_⟩, ⟨?_, ?_, ?_, ?_, g6, g8⟩, ⟨?_, ?_, g7, ?_⟩⟩, ⟨hs.1, ?_, ?_, ?_⟩, ⟨hv.1, ?_, ?_, ?_⟩, ⟨hb.1, ?_, ?_, ?_⟩, ⟨hk.1, ?_, ?_, ?_⟩, ?_⟩
    · rcases hM.1 with ⟨h1, h8⟩ | ⟨q, hq, h1, h8, h9, h10, h11, h12⟩
      · exact .inl ⟨(g1 17 (by omega) (by omega) (by omega)).trans h1, h8⟩
      · exact .inr ⟨q, hq, (g1 17 (by omega) (by omega) (by omega)).trans h1, (g1 _ (by omega) (by omega) (by omega)).trans h8, (g1 _ (by omega) (by omega) (by omega)).trans h9, (g1 _ (by omega) (by omega) (by omega)).trans h10, h11, sg_congr (fun j hj => g1 j (by omega) (by omega) (by omega)) h12⟩
    · exact (g1 11 (by omega) (by omega) (by omega)).trans hM.2.1
    · intro p (hp : p < d_n d); exact (g1 (140 + p) (by omega) (by omega) (by omega)).trans (hM.2.2.1 p hp)
    · intro p (hp : p < d_n d); exact (g1 (148 + p) (by omega) (by omega) (by omega)).trans (hM.2.2.2.1 p hp)
    · intro j (hj : j < 4 * d_n d); exact (g1 (156 + j) (by omega) (by omega) (by omega)).trans (hM.2.2.2.2.1 j hj)
    · exact (g1 0 (by omega) (by omega) (by omega)).trans hF.1
    · exact (g1 1 (by omega) (by omega) (by omega)).trans hF.2.1
    · intro p hp; exact (g1 (3 + p) (by omega) (by omega) (by omega)).trans (hF.2.2.2 p hp)
    · exact hC.1
    · exact (g5 12 (by omega) (by omega)).trans hC.2.1
    · exact hC.2.2.1
    · rw [fr_at gf (by decide)]; exact hC.2.2.2.1
    · exact (g5 4 (by omega) (by omega)).trans hW.1
    · exact (g5 5 (by omega) (by omega)).trans hW.2.1
    · rw [fr_at gf (by decide)]; exact hW.2.2.2
    · exact (g1 16 (by omega) (by omega) (by omega)).trans hs.2.1
    · exact (g5 1 (by omega) (by omega)).trans hs.2.2.1
    · intro j hj; rw [g1 (20 + j) (by omega) (by omega) (by omega), fr_at gf (by decide)]; exact hs.2.2.2 j hj
    · exact (g1 12 (by omega) (by omega) (by omega)).trans hv.2.1
    · exact (g5 2 (by omega) (by omega)).trans hv.2.2.1
    · rw [g1 17 (by omega) (by omega) (by omega)]; exact hv.2.2.2
    · exact (g1 14 (by omega) (by omega) (by omega)).trans hb.2.1
    · exact (g5 14 (by omega) (by omega)).trans hb.2.2.1
    · intro j hj; rw [g1 (200 + j) (by omega) (by omega) (by omega), fr_at gf (by decide)]; exact hb.2.2.2 j hj
    · exact (g1 15 (by omega) (by omega) (by omega)).trans hk.2.1
    · exact (g5 16 (by omega) (by omega)).trans hk.2.2.1
    · intro j hj; rw [g1 (220 + j) (by omega) (by omega) (by omega), fr_at gf (by decide)]; exact hk.2.2.2 j hj
    · rw [fr_at gf (by decide)]; exact hr
  unfold g_138 k_79 k_105v3
  simp only [e_bd, e_bdn, e_st, e_li, e_bs, e_opn, e_ops, e_ob, e_vo, e_ia, e_eq, e_ne, e_lt, e_ge, e_gt, e_le, cond_true, cond_false, Bool.cond_decide, m_w4, k_w4, x_m1, hM.2.2.2.2.2.1, hC.2.2.2.2.1]
  by_cases c0 : x.toInt = -1
  · rw [if_neg (show ¬ ¬ x.toInt = -1 by omega), if_neg (show ¬ ¬ x.toInt = -1 by omega)]
    simp only [e_bd, e_bdn, e_st, e_li, e_bs, e_opn, e_ops, e_ob, e_vo, e_ia, e_eq, e_ne, e_lt, e_ge, e_gt, e_le, cond_true, cond_false, Bool.cond_decide, show ¬ (0 : Int32) < 0 by decide, if_false]
    refine ⟨0, _, _, rfl, rfl, ?_, ?_, ?_⟩
    · rw [va_up_self]
      exact upd' _ _ (fun _ => 0) 0 (by omega) (fun j hj => by omega) (fun j h1 h2 _ => by rw [upd_ne _ _ h1, upd_ne _ _ h2]) (by rw [upd_self]) (by rw [upd_ne _ _ (by decide), upd_self]; rfl) (fun j hj => by omega) (fr_up fr_rfl (by simp)) (fun j h1 h2 => by rw [va_up_self, upd_ne _ _ h2, upd_ne _ _ h1]) (by rw [va_up_self, upd_ne _ _ (by decide), upd_self]; rfl) (by rw [va_up_self, upd_self]) (fun j hj => by omega)
    · exact SM_fr (S := [0]) (fr_up fr_rfl (by simp)) (by decide) (by decide) (by decide)
    · rw [va_up_ne _ _ (by decide)]
  · rw [if_pos c0, if_pos c0]
    by_cases c1 : 0 ≤ x.toInt ∧ x.toInt < 4
    · rw [decide_eq_true c1]
      simp only [e_bd, e_bdn, e_st, e_li, e_bs, e_opn, e_ops, e_ob, e_vo, e_ia, e_eq, e_ne, e_lt, e_ge, e_gt, e_le, cond_true, cond_false, Bool.cond_decide, show ¬ b_i true = 0 by decide, not_false_eq_true, if_true, o_neg (show d_fn d < 2147483648 by omega), if_false]
      have hc2 : (¬ Int32.ofNat (d_fn d) = 12) ↔ d_fn d < 12 := by rw [show (12 : Int32) = Int32.ofNat 12 from rfl, o_eq (by omega) (by omega)]; omega
      have hc3 : (Int32.ofNat (d_fn d) < 12) ↔ d_fn d < 12 := by rw [show (12 : Int32) = Int32.ofNat 12 from rfl, o_lt (by omega) (by omega)]
      by_cases c2 : d_fn d < 12
      · rw [if_pos (hc2.mpr c2), if_pos (hc3.mpr c2)]
        simp only [show (188 : Int32) + Int32.ofNat (d_fn d) = Int32.ofNat (188 + d_fn d) from o_add (p := 188), show a_in (Int32.ofNat (188 + d_fn d)) 947 = true by rw [o_in (by omega)]; simp; omega, show a_in (Int32.ofNat (d_fn d)) 12 = true by rw [o_in (by omega)]; simp; omega, o_cl (show 188 + d_fn d < 2147483648 by omega), o_cl (show d_fn d < 2147483648 by omega), e_bd, e_bdn, e_st, e_li, e_bs, e_opn, e_ops, e_ob, e_vo, e_ia, e_eq, e_ne, e_lt, e_ge, e_gt, e_le, cond_true, cond_false, Bool.cond_decide, va_up_self, upd_ne _ _ (show 13 ≠ 188 + d_fn d by omega), hM.2.2.2.2.2.1, show Int32.ofNat (d_fn d) + 1 = Int32.ofNat (d_fn d + 1) from o_add (q := 1), upd_ne _ _ (show (13 : Nat) ≠ 2 by decide), upd_self, o_neg (show d_fn d + 1 < 2147483648 by omega), if_false]
        refine ⟨_, _, _, rfl, rfl, ?_, ?_, ?_⟩
        · rw [va_up_self]
          refine upd' _ _ (upd (d_fo d) (d_fn d) x) (d_fn d + 1) (by omega) (fun j hj => ?_) (fun j h1 h2 h3 => by rw [upd_ne _ _ h1, upd_ne _ _ h2, upd_ne _ _ (by omega)]) (by rw [upd_self]) (by rw [upd_ne _ _ (by decide), upd_self]) (fun j hj => ?_) (fr_up (fr_up fr_rfl (by simp)) (by simp)) (fun j h1 h2 => by rw [va_up_self, upd_ne _ _ h2, upd_ne _ _ h1, va_up_ne _ _ (by decide)]) (by rw [va_up_self, upd_ne _ _ (by decide), upd_self]) (by rw [va_up_self, upd_self]) (fun j hj => ?_)
          · by_cases c : j = d_fn d
            · subst c; rw [upd_self]; exact c1
            · rw [upd_ne _ _ c]; exact hd.2.2.2.2.2.2.2.2 j (by omega)
          · rw [upd_ne _ _ (by omega), upd_ne _ _ (by omega)]
            by_cases c : j = d_fn d
            · subst c; rw [upd_self, upd_self]
            · rw [upd_ne _ _ (by omega), upd_ne _ _ c]; exact hM.2.2.2.2.2.2 j (by omega)
          · rw [va_up_ne _ _ (by decide), va_up_self]
            by_cases c : j = d_fn d
            · subst c; rw [upd_self, upd_self]
            · rw [upd_ne _ _ c, upd_ne _ _ c]; exact hC.2.2.2.2.2 j (by omega)
        · exact SM_fr (S := [0]) (fr_up (fr_up fr_rfl (by simp)) (by simp)) (by decide) (by decide) (by decide)
        · rw [va_up_ne _ _ (by decide), va_up_ne _ _ (by decide)]
      · rw [if_neg (fun q => c2 (hc2.mp q)), if_neg (fun q => c2 (hc3.mp q))]
        simp only [e_bd, e_bdn, e_st, e_li, e_bs, e_opn, e_ops, e_ob, e_vo, e_ia, e_eq, e_ne, e_lt, e_ge, e_gt, e_le, cond_true, cond_false, Bool.cond_decide, show (-4 : Int32) < 0 by decide, if_true]
        exact same _
    · rw [decide_eq_false c1]
      simp only [e_bd, e_bdn, e_st, e_li, e_bs, e_opn, e_ops, e_ob, e_vo, e_ia, e_eq, e_ne, e_lt, e_ge, e_gt, e_le, cond_true, cond_false, Bool.cond_decide, show b_i false = 0 from rfl, not_true, if_false, show (-1 : Int32) < 0 by decide, if_true]
      exact same _
theorem q_besd (h : XR (A 0) C P vl R d F ns nv nb nk) (x : Int32) : ∃ r A' C', g_161 N x A = some (r, A') ∧ k_90 N P vl R x C = some (r, C') ∧ XW (A' 0) C' P vl R ∧ SM A A' ∧ C' 13 = C 13 := by
  have hx := h
  obtain ⟨⟨hd, hf, hy, hM, hF, hC, hW⟩, hs, hv, hb, hk, hr⟩ := h
  have same : ∀ r : Int32, ∃ r' A' C', some (r, A) = some (r', A') ∧ some (r, C) = some (r', C') ∧ XW (A' 0) C' P vl R ∧ SM A A' ∧ C' 13 = C 13 := fun r => ⟨r, A, C, rfl, rfl, ⟨d, F, ns, nv, nb, nk, hx⟩, SM_rfl, rfl⟩
  have upd' : ∀ (s' : Nat → Int32) (C' : mS) (nb' : Nat), nb' ≤ 20 → (∀ j, j ≠ 14 → ¬ (200 ≤ j ∧ j < 220) → s' j = A 0 j) → s' 14 = Int32.ofNat nb' → fr [4, 90] C C' → (∀ j, j ≠ 14 → C' 90 j = C 90 j) → C' 90 14 = Int32.ofNat nb' → (∀ j, j < nb' → s' (200 + j) = C' 4 j) → XW s' C' P vl R := by
    intro s' C' nb' hnb g1 g2 gf g5 g6 g8
    refine ⟨d, F, ns, nv, nb', nk, ⟨hd, hf, hy, MD_c hd (fun j hj => g1 j (by unfold mdi at hj; omega) (by unfold mdi at hj; omega)) hM, MF_c (fun j hj => g1 j (by omega) (by omega)) hF, CD_c (fr_at gf (by decide)) (fr_at gf (by decide)) (g5 12 (by decide)) (g5 7 (by decide)) hC, WF_c (fr_at gf (by decide)) (g5 4 (by decide)) (g5 5 (by decide)) (g5 8 (by decide)) hW⟩, ⟨hs.1, ?_, ?_, ?_⟩, ⟨hv.1, ?_, ?_, ?_⟩, ⟨hnb, g2, g6, g8⟩, ⟨hk.1, ?_, ?_, ?_⟩, ?_⟩
    · exact (g1 16 (by omega) (by omega)).trans hs.2.1
    · exact (g5 1 (by omega)).trans hs.2.2.1
    · intro j hj; have := hs.1; rw [g1 (20 + j) (by omega) (by omega), fr_at gf (by decide)]; exact hs.2.2.2 j hj
    · exact (g1 12 (by omega) (by omega)).trans hv.2.1
    · exact (g5 2 (by omega)).trans hv.2.2.1
    · rw [g1 17 (by omega) (by omega)]; exact hv.2.2.2
    · exact (g1 15 (by omega) (by omega)).trans hk.2.1
    · exact (g5 16 (by omega)).trans hk.2.2.1
    · intro j hj; rw [g1 (220 + j) (by omega) (by omega), fr_at gf (by decide)]; exact hk.2.2.2 j hj
    · rw [fr_at gf (by decide)]; exact hr
  unfold g_161 k_90 k_105v7
  simp only [e_bd, e_bdn, e_st, e_li, e_bs, e_opn, e_ops, e_ob, e_vo, e_ia, e_eq, e_ne, e_lt, e_ge, e_gt, e_le, cond_true, cond_false, Bool.cond_decide, m_w4, k_w4, x_m1, hb.2.1, hb.2.2.1]
  have hb1 := hb.1
  by_cases c0 : x.toInt = -1
  · rw [if_neg (show ¬ ¬ x.toInt = -1 by omega), if_neg (show ¬ ¬ x.toInt = -1 by omega)]
    simp only [e_bd, e_bdn, e_st, e_li, e_bs, e_opn, e_ops, e_ob, e_vo, e_ia, e_eq, e_ne, e_lt, e_ge, e_gt, e_le, cond_true, cond_false, Bool.cond_decide, show ¬ (0 : Int32) < 0 by decide, if_false]
    refine ⟨0, _, _, rfl, rfl, ?_, ?_, ?_⟩
    · rw [va_up_self]
      exact upd' _ _ 0 (by omega) (fun j h1 _ => by rw [upd_ne _ _ h1]) (by rw [upd_self]; rfl) (fr_up fr_rfl (by simp)) (fun j h1 => by rw [va_up_self, upd_ne _ _ h1]) (by rw [va_up_self, upd_self]; rfl) (fun j hj => by omega)
    · exact SM_fr (S := [0]) (fr_up fr_rfl (by simp)) (by decide) (by decide) (by decide)
    · rw [va_up_ne _ _ (by decide)]
  · rw [if_pos c0, if_pos c0]
    by_cases c1 : 0 ≤ x.toInt ∧ x.toInt < 4
    · rw [decide_eq_true c1]
      simp only [e_bd, e_bdn, e_st, e_li, e_bs, e_opn, e_ops, e_ob, e_vo, e_ia, e_eq, e_ne, e_lt, e_ge, e_gt, e_le, cond_true, cond_false, Bool.cond_decide, show ¬ b_i true = 0 by decide, not_false_eq_true, if_true, o_neg (show nb < 2147483648 by omega), if_false]
      have hc2 : (¬ Int32.ofNat nb = 20) ↔ nb < 20 := by rw [show (20 : Int32) = Int32.ofNat 20 from rfl, o_eq (by omega) (by omega)]; omega
      have hc3 : (Int32.ofNat nb < 20) ↔ nb < 20 := by rw [show (20 : Int32) = Int32.ofNat 20 from rfl, o_lt (by omega) (by omega)]
      by_cases c2 : nb < 20
      · rw [if_pos (hc2.mpr c2), if_pos (hc3.mpr c2)]
        simp only [show (200 : Int32) + Int32.ofNat nb = Int32.ofNat (200 + nb) from o_add (p := 200), show a_in (Int32.ofNat (200 + nb)) 947 = true by rw [o_in (by omega)]; simp; omega, show a_in (Int32.ofNat (nb)) 20 = true by rw [o_in (by omega)]; simp; omega, o_cl (show 200 + nb < 2147483648 by omega), o_cl (show nb < 2147483648 by omega), e_bd, e_bdn, e_st, e_li, e_bs, e_opn, e_ops, e_ob, e_vo, e_ia, e_eq, e_ne, e_lt, e_ge, e_gt, e_le, cond_true, cond_false, Bool.cond_decide, va_up_self, upd_ne _ _ (show 14 ≠ 200 + nb by omega), hb.2.1, show Int32.ofNat (nb) + 1 = Int32.ofNat (nb + 1) from o_add (q := 1), upd_self, o_neg (show nb + 1 < 2147483648 by omega), if_false]
        refine ⟨_, _, _, rfl, rfl, ?_, ?_, ?_⟩
        · rw [va_up_self]
          refine upd' _ _ (nb + 1) (by omega) (fun j h1 h3 => by rw [upd_ne _ _ h1, upd_ne _ _ (by omega)]) (by rw [upd_self]) (fr_up (fr_up fr_rfl (by simp)) (by simp)) (fun j h1 => by rw [va_up_self, upd_ne _ _ h1, va_up_ne _ _ (by decide)]) (by rw [va_up_self, upd_self]) (fun j hj => ?_)
          rw [upd_ne _ _ (by omega), va_up_ne _ _ (by decide), va_up_self]
          by_cases c : j = nb
          · subst c; rw [upd_self, upd_self]
          · rw [upd_ne _ _ (by omega), upd_ne _ _ c]; exact hb.2.2.2 j (by omega)
        · exact SM_fr (S := [0]) (fr_up (fr_up fr_rfl (by simp)) (by simp)) (by decide) (by decide) (by decide)
        · rw [va_up_ne _ _ (by decide), va_up_ne _ _ (by decide)]
      · rw [if_neg (fun q => c2 (hc2.mp q)), if_neg (fun q => c2 (hc3.mp q))]
        simp only [e_bd, e_bdn, e_st, e_li, e_bs, e_opn, e_ops, e_ob, e_vo, e_ia, e_eq, e_ne, e_lt, e_ge, e_gt, e_le, cond_true, cond_false, Bool.cond_decide, show (-4 : Int32) < 0 by decide, if_true]
        exact same _
    · rw [decide_eq_false c1]
      simp only [e_bd, e_bdn, e_st, e_li, e_bs, e_opn, e_ops, e_ob, e_vo, e_ia, e_eq, e_ne, e_lt, e_ge, e_gt, e_le, cond_true, cond_false, Bool.cond_decide, show b_i false = 0 from rfl, not_true, if_false, show (-1 : Int32) < 0 by decide, if_true]
      exact same _
theorem q_book (h : XR (A 0) C P vl R d F ns nv nb nk) (x : Int32) : ∃ r A' C', g_165 N x A = some (r, A') ∧ k_94 N P vl R x C = some (r, C') ∧ XW (A' 0) C' P vl R ∧ SM A A' ∧ C' 13 = C 13 := by
  have hx := h
  obtain ⟨⟨hd, hf, hy, hM, hF, hC, hW⟩, hs, hv, hb, hk, hr⟩ := h
  have same : ∀ r : Int32, ∃ r' A' C', some (r, A) = some (r', A') ∧ some (r, C) = some (r', C') ∧ XW (A' 0) C' P vl R ∧ SM A A' ∧ C' 13 = C 13 := fun r => ⟨r, A, C, rfl, rfl, ⟨d, F, ns, nv, nb, nk, hx⟩, SM_rfl, rfl⟩
  have upd' : ∀ (s' : Nat → Int32) (C' : mS) (nk' : Nat), nk' ≤ 12 → (∀ j, j ≠ 15 → ¬ (220 ≤ j ∧ j < 232) → s' j = A 0 j) → s' 15 = Int32.ofNat nk' → fr [5, 90] C C' → (∀ j, j ≠ 16 → C' 90 j = C 90 j) → C' 90 16 = Int32.ofNat nk' → (∀ j, j < nk' → s' (220 + j) = C' 5 j) → XW s' C' P vl R := by
    intro s' C' nk' hnb g1 g2 gf g5 g6 g8
    refine ⟨d, F, ns, nv, nb, nk', ⟨hd, hf, hy, MD_c hd (fun j hj => g1 j (by unfold mdi at hj; omega) (by unfold mdi at hj; omega)) hM, MF_c (fun j hj => g1 j (by omega) (by omega)) hF, CD_c (fr_at gf (by decide)) (fr_at gf (by decide)) (g5 12 (by decide)) (g5 7 (by decide)) hC, WF_c (fr_at gf (by decide)) (g5 4 (by decide)) (g5 5 (by decide)) (g5 8 (by decide)) hW⟩, ⟨hs.1, ?_, ?_, ?_⟩, ⟨hv.1, ?_, ?_, ?_⟩, ⟨hb.1, ?_, ?_, ?_⟩, ⟨hnb, g2, g6, g8⟩, ?_⟩
    · exact (g1 16 (by omega) (by omega)).trans hs.2.1
    · exact (g5 1 (by omega)).trans hs.2.2.1
    · intro j hj; have := hs.1; rw [g1 (20 + j) (by omega) (by omega), fr_at gf (by decide)]; exact hs.2.2.2 j hj
    · exact (g1 12 (by omega) (by omega)).trans hv.2.1
    · exact (g5 2 (by omega)).trans hv.2.2.1
    · rw [g1 17 (by omega) (by omega)]; exact hv.2.2.2
    · exact (g1 14 (by omega) (by omega)).trans hb.2.1
    · exact (g5 14 (by omega)).trans hb.2.2.1
    · intro j hj; have := hb.1; rw [g1 (200 + j) (by omega) (by omega), fr_at gf (by decide)]; exact hb.2.2.2 j hj
    · rw [fr_at gf (by decide)]; exact hr
  unfold g_165 k_94 k_105v8
  simp only [e_bd, e_bdn, e_st, e_li, e_bs, e_opn, e_ops, e_ob, e_vo, e_ia, e_eq, e_ne, e_lt, e_ge, e_gt, e_le, cond_true, cond_false, Bool.cond_decide, m_w4, k_w4, x_m1, hk.2.1, hk.2.2.1]
  have hk1 := hk.1
  by_cases c0 : x.toInt = -1
  · rw [if_neg (show ¬ ¬ x.toInt = -1 by omega), if_neg (show ¬ ¬ x.toInt = -1 by omega)]
    simp only [e_bd, e_bdn, e_st, e_li, e_bs, e_opn, e_ops, e_ob, e_vo, e_ia, e_eq, e_ne, e_lt, e_ge, e_gt, e_le, cond_true, cond_false, Bool.cond_decide, show ¬ (0 : Int32) < 0 by decide, if_false]
    refine ⟨0, _, _, rfl, rfl, ?_, ?_, ?_⟩
    · rw [va_up_self]
      exact upd' _ _ 0 (by omega) (fun j h1 _ => by rw [upd_ne _ _ h1]) (by rw [upd_self]; rfl) (fr_up fr_rfl (by simp)) (fun j h1 => by rw [va_up_self, upd_ne _ _ h1]) (by rw [va_up_self, upd_self]; rfl) (fun j hj => by omega)
    · exact SM_fr (S := [0]) (fr_up fr_rfl (by simp)) (by decide) (by decide) (by decide)
    · rw [va_up_ne _ _ (by decide)]
  · rw [if_pos c0, if_pos c0]
    by_cases c1 : 0 ≤ x.toInt ∧ x.toInt < 4
    · rw [decide_eq_true c1]
      simp only [e_bd, e_bdn, e_st, e_li, e_bs, e_opn, e_ops, e_ob, e_vo, e_ia, e_eq, e_ne, e_lt, e_ge, e_gt, e_le, cond_true, cond_false, Bool.cond_decide, show ¬ b_i true = 0 by decide, not_false_eq_true, if_true, o_neg (show nk < 2147483648 by omega), if_false]
      have hc2 : (¬ Int32.ofNat nk = 12) ↔ nk < 12 := by rw [show (12 : Int32) = Int32.ofNat 12 from rfl, o_eq (by omega) (by omega)]; omega
      have hc3 : (Int32.ofNat nk < 12) ↔ nk < 12 := by rw [show (12 : Int32) = Int32.ofNat 12 from rfl, o_lt (by omega) (by omega)]
      by_cases c2 : nk < 12
      · rw [if_pos (hc2.mpr c2), if_pos (hc3.mpr c2)]
        simp only [show (220 : Int32) + Int32.ofNat nk = Int32.ofNat (220 + nk) from o_add (p := 220), show a_in (Int32.ofNat (220 + nk)) 947 = true by rw [o_in (by omega)]; simp; omega, show a_in (Int32.ofNat (nk)) 12 = true by rw [o_in (by omega)]; simp; omega, o_cl (show 220 + nk < 2147483648 by omega), o_cl (show nk < 2147483648 by omega), e_bd, e_bdn, e_st, e_li, e_bs, e_opn, e_ops, e_ob, e_vo, e_ia, e_eq, e_ne, e_lt, e_ge, e_gt, e_le, cond_true, cond_false, Bool.cond_decide, va_up_self, upd_ne _ _ (show 15 ≠ 220 + nk by omega), hk.2.1, show Int32.ofNat (nk) + 1 = Int32.ofNat (nk + 1) from o_add (q := 1), upd_self, o_neg (show nk + 1 < 2147483648 by omega), if_false]
        refine ⟨_, _, _, rfl, rfl, ?_, ?_, ?_⟩
        · rw [va_up_self]
          refine upd' _ _ (nk + 1) (by omega) (fun j h1 h3 => by rw [upd_ne _ _ h1, upd_ne _ _ (by omega)]) (by rw [upd_self]) (fr_up (fr_up fr_rfl (by simp)) (by simp)) (fun j h1 => by rw [va_up_self, upd_ne _ _ h1, va_up_ne _ _ (by decide)]) (by rw [va_up_self, upd_self]) (fun j hj => ?_)
          rw [upd_ne _ _ (by omega), va_up_ne _ _ (by decide), va_up_self]
          by_cases c : j = nk
          · subst c; rw [upd_self, upd_self]
          · rw [upd_ne _ _ (by omega), upd_ne _ _ c]; exact hk.2.2.2 j (by omega)
        · exact SM_fr (S := [0]) (fr_up (fr_up fr_rfl (by simp)) (by simp)) (by decide) (by decide) (by decide)
        · rw [va_up_ne _ _ (by decide), va_up_ne _ _ (by decide)]
      · rw [if_neg (fun q => c2 (hc2.mp q)), if_neg (fun q => c2 (hc3.mp q))]
        simp only [e_bd, e_bdn, e_st, e_li, e_bs, e_opn, e_ops, e_ob, e_vo, e_ia, e_eq, e_ne, e_lt, e_ge, e_gt, e_le, cond_true, cond_false, Bool.cond_decide, show (-4 : Int32) < 0 by decide, if_true]
        exact same _
    · rw [decide_eq_false c1]
      simp only [e_bd, e_bdn, e_st, e_li, e_bs, e_opn, e_ops, e_ob, e_vo, e_ia, e_eq, e_ne, e_lt, e_ge, e_gt, e_le, cond_true, cond_false, Bool.cond_decide, show b_i false = 0 from rfl, not_true, if_false, show (-1 : Int32) < 0 by decide, if_true]
      exact same _
theorem q_row (h : XR (A 0) C P vl R d F ns nv nb nk) (x1 x2 x3 : Int32) : ∃ r A' C', g_140 N x1 x2 x3 A = some (r, A') ∧ k_81 N P vl R x1 x2 x3 C = some (r, C') ∧ XW (A' 0) C' P vl R ∧ SM A A' ∧ C' 13 = C 13 := by
  have hx := h
  obtain ⟨⟨hd, hf, hy, hM, hF, hC, hW⟩, hs, hv, hb, hk, hr⟩ := h
  have hn := hd.2.2.2.1
  have k0 : (0 : Int32).toInt = 0 := rfl
  have k99 : (99 : Int32).toInt = 99 := rfl
  have same : ∀ r : Int32, ∃ r' A' C', some (r, A) = some (r', A') ∧ some (r, C) = some (r', C') ∧ XW (A' 0) C' P vl R ∧ SM A A' ∧ C' 13 = C 13 := fun r => ⟨r, A, C, rfl, rfl, ⟨d, F, ns, nv, nb, nk, hx⟩, SM_rfl, rfl⟩
  unfold g_140 k_81
  rw [m_pers hn hM.2.1]
  by_cases c1 : 0 ≤ x1.toInt ∧ x1.toInt < d_n d
  · rw [decide_eq_true c1]
    obtain ⟨p, hp, rfl⟩ := o_ex c1.1 c1.2
    obtain ⟨a, e1, ha⟩ := k_one (N := N) hn hC hp
    have hk6 := hd.2.2.2.2.1 p hp
    simp only [e_bd, e_bdn, e_st, e_li, e_bs, e_opn, e_ops, e_ob, e_vo, e_ia, e_eq, e_ne, e_lt, e_ge, e_gt, e_le, cond_true, cond_false, Bool.cond_decide, show ¬ b_i true = 0 by decide, if_false, e1, m_w4, k_w4, m_in, z_le, z_lt, k0, k99]
    by_cases c2 : 0 ≤ x2.toInt ∧ x2.toInt < 4
    · rw [decide_eq_true c2, if_pos (show ¬ b_i true = 0 by decide), if_pos (show ¬ b_i true = 0 by decide)]
      obtain ⟨w, hw, rfl⟩ := o_ex (n := 4) c2.1 c2.2
      by_cases c3 : 0 ≤ x3.toInt ∧ x3.toInt ≤ 99
      · rw [decide_eq_true c3, if_pos (show ¬ b_i true = 0 by decide), if_neg (show ¬ x3.toInt < 0 by omega), if_pos c3.2]
        simp only [show (140 : Int32) + Int32.ofNat p = Int32.ofNat (140 + p) from o_add (p := 140), show a_in (Int32.ofNat (140 + p)) 947 = true by rw [o_in (by omega)]; simp; omega, o_cl (show 140 + p < 2147483648 by omega), hM.2.2.1 p hp, e_bd, e_bdn, e_st, e_li, e_bs, e_opn, e_ops, e_ob, e_vo, e_ia, e_eq, e_ne, e_lt, e_ge, e_gt, e_le, cond_true, cond_false, Bool.cond_decide, ha]
        have hct : (List.contains [8] (k_cl (d_kd d p)) || List.contains [0, 1, 3, 4, 6, 7] (k_cl (d_kd d p))) = true ∧ List.contains [8] (k_cl (d_kd d p)) = decide (d_kd d p = 6) := by
          generalize d_kd d p = k at hk6
          rcases (show k = 0 ∨ k = 1 ∨ k = 2 ∨ k = 3 ∨ k = 4 ∨ k = 5 ∨ k = 6 by omega) with rfl | rfl | rfl | rfl | rfl | rfl | rfl <;> decide
        rw [hct.1, hct.2]
        have h6 : (Int32.ofNat (d_kd d p) = 6) ↔ d_kd d p = 6 := by rw [show (6 : Int32) = Int32.ofNat 6 from rfl, o_eq (by omega) (by omega)]
        by_cases c4 : d_kd d p = 6
        · rw [if_pos (h6.mpr c4), decide_eq_true c4]
          have hrw := hM.2.2.2.2.1 (4 * p + w) (by omega)
          have hrc := hC.2.2.2.1 (4 * p + w) (by omega)
          rw [show 156 + (4 * p + w) = 156 + 4 * p + w by omega] at hrw
          simp only [e_bd, e_bdn, e_st, e_li, e_bs, e_opn, e_ops, e_ob, e_vo, e_ia, e_eq, e_ne, e_lt, e_ge, e_gt, e_le, cond_true, cond_false, Bool.cond_decide, show ¬ (1 : Int32) = 0 by decide, not_false_eq_true, if_true, show (156 : Int32) + 4 * Int32.ofNat p + Int32.ofNat w = Int32.ofNat (156 + 4 * p + w) by rw [show (4 : Int32) = Int32.ofNat 4 from rfl, show (156 : Int32) = Int32.ofNat 156 from rfl, o_mul, o_add, o_add], show a_in (Int32.ofNat (156 + 4 * p + w)) 947 = true by rw [o_in (by omega)]; simp; omega, o_cl (show 156 + 4 * p + w < 2147483648 by omega), show Int32.ofNat (p) * 4 + Int32.ofNat (w) = Int32.ofNat (4 * (p) + w) by rw [show (4 : Int32) = Int32.ofNat 4 from rfl, o_mul, o_add, Nat.mul_comm], show a_in (Int32.ofNat (4 * p + w)) 32 = true by rw [o_in (by omega)]; simp; omega, o_cl (show 4 * p + w < 2147483648 by omega), hrw, hrc]
          refine ⟨_, _, _, rfl, rfl, ⟨(d_V d, d_ru d, d_gi d, d_n d, d_kd d, d_vv d, upd (d_rw d) (4 * p + w) x3, d_fo d, d_fn d), F, ns, nv, nb, nk, ⟨⟨hd.1, hd.2.1, hd.2.2.1, hd.2.2.2.1, hd.2.2.2.2.1, hd.2.2.2.2.2.1, ?_, hd.2.2.2.2.2.2.2.1, hd.2.2.2.2.2.2.2.2⟩, hf, hy, ⟨?_, ?_, ?_, ?_, ?_, ?_, ?_⟩, ?_, ⟨hC.1, ?_, hC.2.2.1, ?_, ?_, ?_⟩, ?_⟩, ⟨hs.1, ?_, ?_, ?_⟩, ⟨hv.1, ?_, ?_, ?_⟩, ⟨hb.1, ?_, ?_, ?_⟩, ⟨hk.1, ?_, ?_, ?_⟩, ?_⟩, ?_, ?_⟩
          · intro j (hj : j < 4 * d_n d)
            show 0 ≤ (upd (d_rw d) (4 * p + w) x3 j).toInt ∧ (upd (d_rw d) (4 * p + w) x3 j).toInt < 100
            by_cases c : j = 4 * p + w
            · subst c; rw [upd_self]; omega
            · rw [upd_ne _ _ c]; exact hd.2.2.2.2.2.2.1 j hj
          · rw [va_up_self]
            rcases hM.1 with ⟨h1, h8⟩ | ⟨q, hq, h1, h8, h9, h10, h11, h12⟩
            · exact .inl ⟨(upd_ne _ _ (by omega)).trans h1, h8⟩
            · exact .inr ⟨q, hq, (upd_ne _ _ (by omega)).trans h1, (upd_ne _ _ (by omega)).trans h8, (upd_ne _ _ (by omega)).trans h9, (upd_ne _ _ (by omega)).trans h10, h11, sg_congr (fun j hj => upd_ne _ _ (by omega)) h12⟩
          · rw [va_up_self, upd_ne _ _ (by omega)]; exact hM.2.1
          · intro q (hq : q < d_n d); rw [va_up_self, upd_ne _ _ (by omega)]; exact hM.2.2.1 q hq
          · intro q (hq : q < d_n d); rw [va_up_self, upd_ne _ _ (by omega)]; exact hM.2.2.2.1 q hq
          · intro j (hj : j < 4 * d_n d)
            show _ = upd (d_rw d) (4 * p + w) x3 j
            rw [va_up_self]
            by_cases c : j = 4 * p + w
            · subst c; rw [show 156 + (4 * p + w) = 156 + 4 * p + w by omega, upd_self, upd_self]
            · rw [upd_ne _ _ (by omega), upd_ne _ _ c]; exact hM.2.2.2.2.1 j hj
          · rw [va_up_self, upd_ne _ _ (by omega)]; exact hM.2.2.2.2.2.1
          · intro j (hj : j < d_fn d); rw [va_up_self, upd_ne _ _ (by omega)]; exact hM.2.2.2.2.2.2 j hj
          · rw [va_up_self]; exact MF_c (fun j hj => upd_ne _ _ (by omega)) hF
          · rw [va_up_ne _ _ (by decide)]; exact hC.2.1
          · intro j (hj : j < 4 * d_n d)
            show _ = upd (d_rw d) (4 * p + w) x3 j
            rw [va_up_self]
            by_cases c : j = 4 * p + w
            · subst c; rw [upd_self, upd_self]
            · rw [upd_ne _ _ c, upd_ne _ _ c]; exact hC.2.2.2.1 j hj
          · rw [va_up_ne _ _ (by decide)]; exact hC.2.2.2.2.1
          · rw [va_up_ne _ _ (by decide)]; exact hC.2.2.2.2.2
          · exact WF_c (va_up_ne _ _ (by decide)) (by rw [va_up_ne _ _ (by decide)]) (by rw [va_up_ne _ _ (by decide)]) (by rw [va_up_ne _ _ (by decide)]) hW
          · rw [va_up_self, upd_ne _ _ (by omega)]; exact hs.2.1
          · rw [va_up_ne _ _ (by decide)]; exact hs.2.2.1
          · intro j hj; have := hs.1; rw [va_up_self, upd_ne _ _ (by omega), va_up_ne _ _ (by decide)]; exact hs.2.2.2 j hj
          · rw [va_up_self, upd_ne _ _ (by omega)]; exact hv.2.1
          · rw [va_up_ne _ _ (by decide)]; exact hv.2.2.1
          · rw [va_up_self, upd_ne _ _ (by omega)]; exact hv.2.2.2
          · rw [va_up_self, upd_ne _ _ (by omega)]; exact hb.2.1
          · rw [va_up_ne _ _ (by decide)]; exact hb.2.2.1
          · intro j hj; have := hb.1; rw [va_up_self, upd_ne _ _ (by omega), va_up_ne _ _ (by decide)]; exact hb.2.2.2 j hj
          · rw [va_up_self, upd_ne _ _ (by omega)]; exact hk.2.1
          · rw [va_up_ne _ _ (by decide)]; exact hk.2.2.1
          · intro j hj; rw [va_up_self, upd_ne _ _ (by omega), va_up_ne _ _ (by decide)]; exact hk.2.2.2 j hj
          · intro j (hj : 4 * d_n d ≤ j) hj2; rw [va_up_self, upd_ne _ _ (by omega)]; exact hr j hj hj2
          · exact SM_fr (S := [0]) (fr_up fr_rfl (by simp)) (by decide) (by decide) (by decide)
          · rw [va_up_ne _ _ (by decide)]
        · rw [if_neg (fun q => c4 (h6.mp q)), decide_eq_false c4]
          simp only [e_bd, e_bdn, e_st, e_li, e_bs, e_opn, e_ops, e_ob, e_vo, e_ia, e_eq, e_ne, e_lt, e_ge, e_gt, e_le, cond_true, cond_false, Bool.cond_decide, not_true, if_false]
          exact same _
      · rw [decide_eq_false c3, if_neg (show ¬ ¬ b_i false = 0 by decide)]
        have hh : (if x3.toInt < 0 then some ((-2 : Int32), C) else if x3.toInt ≤ 99 then m_ob (bdr R a) (fun ci4 ka4 nu4 va4 => bif (List.contains [8] ci4 || List.contains [0, 1, 3, 4, 6, 7] ci4) then (if ¬ (bif List.contains [8] ci4 then (1 : Int32) else 0) = 0 then none else some ((-3 : Int32), C)) else none) else some ((-2 : Int32), C)) = some (-2, C) := by
          split
          · rfl
          · rw [if_neg (by omega)]
        obtain ⟨r', A', C', h1, h2, h3⟩ := same (-2)
        refine ⟨r', A', C', h1, ?_, h3⟩
        rw [← h2]
        split
        · rfl
        · rw [if_neg (by omega)]
    · rw [decide_eq_false c2, if_neg (show ¬ ¬ b_i false = 0 by decide), if_neg (show ¬ ¬ b_i false = 0 by decide)]
      exact same _
  · rw [decide_eq_false c1, k_no hn hC c1]
    simp only [e_bd, e_bdn, e_st, e_li, e_bs, e_opn, e_ops, e_ob, e_vo, e_ia, e_eq, e_ne, e_lt, e_ge, e_gt, e_le, cond_true, cond_false, Bool.cond_decide, show b_i false = 0 from rfl, if_true]
    exact same _
def u_un (x k : Int32) : Bool := decide (k = 0 ∨ k = x ∨ (k = 1 ∧ x = 4) ∨ (k = 2 ∧ (x = 5 ∨ x = 6)))
theorem m_un {x k : Int32} : g_168 N x k A = some (b_i (u_un x k), A) := by
  unfold g_168 g_168_11 u_un
  simp only [e_bd, e_bdn, e_st, e_li, e_bs, e_opn, e_ops, e_ob, e_vo, e_ia, e_eq, e_ne, e_lt, e_ge, e_gt, e_le, cond_true, cond_false, Bool.cond_decide]
  by_cases c0 : k = 0
  · simp [c0, b_i]
  · by_cases c1 : k = x
    · simp [c1, b_i]
    · by_cases c2 : k = 1
      · by_cases c3 : x = 4
        · subst c2; subst c3; simp [b_i]
        · subst c2
          simp [c0, c1, c3, b_i]
      · by_cases c3 : k = 2
        · by_cases c4 : x = 5
          · subst c3; subst c4; simp [b_i]
          · by_cases c5 : x = 6
            · subst c3; subst c5; simp [b_i]
            · subst c3; simp [c1, c4, c5, b_i]
        · simp [c0, c1, c2, c3, b_i]
theorem q_as (h : XR (A 0) C P vl R d F ns nv nb nk) (x1 x2 : Int32) : ∃ r, g_178 N x1 x2 A = some (r, A) ∧ k_98 N P vl R x1 x2 C = some (r, C) := by
  obtain ⟨⟨hd, hf, hy, hM, hF, hC, hW⟩, -⟩ := h
  have hn := hd.2.2.2.1
  have k0 : (0 : Int32).toInt = 0 := rfl
  have k6 : (6 : Int32).toInt = 6 := rfl
  have k7 : (7 : Int32).toInt = 7 := rfl
  unfold g_178 k_98
  rw [m_pers hn hM.2.1]
  by_cases c1 : 0 ≤ x1.toInt ∧ x1.toInt < d_n d
  · rw [decide_eq_true c1]
    obtain ⟨p, hp, rfl⟩ := o_ex c1.1 c1.2
    obtain ⟨a, e1, ha⟩ := k_one (N := N) hn hC hp
    have hk6 := hd.2.2.2.2.1 p hp
    have hkk : k_103 N P vl R x2 C = some (b_i (decide (0 ≤ x2.toInt ∧ x2.toInt ≤ 6)), C) := by
      unfold k_103
      simp only [e_bd, e_bdn, e_st, e_li, e_bs, e_opn, e_ops, e_ob, e_vo, e_ia, e_eq, e_ne, e_lt, e_ge, e_gt, e_le, cond_true, cond_false, Bool.cond_decide, z_lt, z_le, k0, k7]
      by_cases c1 : x2.toInt < 0
      · rw [if_pos c1, decide_eq_false (by omega)]; rfl
      · rw [if_neg c1]
        by_cases c2 : (7 : Int) ≤ x2.toInt
        · rw [if_pos c2, decide_eq_false (by omega)]; rfl
        · rw [if_neg c2, decide_eq_true (by omega)]; rfl
    simp only [e_bd, e_bdn, e_st, e_li, e_bs, e_opn, e_ops, e_ob, e_vo, e_ia, e_eq, e_ne, e_lt, e_ge, e_gt, e_le, cond_true, cond_false, Bool.cond_decide, show ¬ b_i true = 0 by decide, if_false, e1, hkk, m_in, z_le, k0, k6]
    by_cases c2 : 0 ≤ x2.toInt ∧ x2.toInt ≤ 6
    · rw [decide_eq_true c2, if_pos (show ¬ b_i true = 0 by decide), if_pos (show ¬ b_i true = 0 by decide)]
      obtain ⟨k, hk, rfl⟩ := o_ex (x := x2) (n := 7) c2.1 (by omega)
      simp only [show (140 : Int32) + Int32.ofNat p = Int32.ofNat (140 + p) from o_add (p := 140), show a_in (Int32.ofNat (140 + p)) 947 = true by rw [o_in (by omega)]; simp; omega, o_cl (show 140 + p < 2147483648 by omega), hM.2.2.1 p hp, show (148 : Int32) + Int32.ofNat p = Int32.ofNat (148 + p) from o_add (p := 148), show a_in (Int32.ofNat (148 + p)) 947 = true by rw [o_in (by omega)]; simp; omega, o_cl (show 148 + p < 2147483648 by omega), hM.2.2.2.1 p hp, e_bd, e_bdn, e_st, e_li, e_bs, e_opn, e_ops, e_ob, e_vo, e_ia, e_eq, e_ne, e_lt, e_ge, e_gt, e_le, cond_true, cond_false, Bool.cond_decide, m_un, ha, k_cls hk6]
      have hu : k_107 N P vl R (some a) (Int32.ofNat k) C = some (b_i (u_un (Int32.ofNat (d_kd d p)) (Int32.ofNat k)), C) := by
        unfold k_107
        simp only [e_bd, e_bdn, e_st, e_li, e_bs, e_opn, e_ops, e_ob, e_vo, e_ia, e_eq, e_ne, e_lt, e_ge, e_gt, e_le, cond_true, cond_false, Bool.cond_decide, ha]
        generalize d_kd d p = q at hk6
        rcases (show k = 0 ∨ k = 1 ∨ k = 2 ∨ k = 3 ∨ k = 4 ∨ k = 5 ∨ k = 6 by omega) with rfl | rfl | rfl | rfl | rfl | rfl | rfl
        · rw [show a_tsw 0 5 19 [2, 4, 7, 10, 13, 16] (Int32.ofNat 0) = 2 by decide]; rfl
        · rw [show a_tsw 0 5 19 [2, 4, 7, 10, 13, 16] (Int32.ofNat 1) = 4 by decide]
          rcases (show q = 0 ∨ q = 1 ∨ q = 2 ∨ q = 3 ∨ q = 4 ∨ q = 5 ∨ q = 6 by omega) with rfl | rfl | rfl | rfl | rfl | rfl | rfl <;> rfl
        · rw [show a_tsw 0 5 19 [2, 4, 7, 10, 13, 16] (Int32.ofNat 2) = 7 by decide]
          rcases (show q = 0 ∨ q = 1 ∨ q = 2 ∨ q = 3 ∨ q = 4 ∨ q = 5 ∨ q = 6 by omega) with rfl | rfl | rfl | rfl | rfl | rfl | rfl <;> rfl
        · rw [show a_tsw 0 5 19 [2, 4, 7, 10, 13, 16] (Int32.ofNat 3) = 10 by decide]
          rcases (show q = 0 ∨ q = 1 ∨ q = 2 ∨ q = 3 ∨ q = 4 ∨ q = 5 ∨ q = 6 by omega) with rfl | rfl | rfl | rfl | rfl | rfl | rfl <;> rfl
        · rw [show a_tsw 0 5 19 [2, 4, 7, 10, 13, 16] (Int32.ofNat 4) = 13 by decide]
          rcases (show q = 0 ∨ q = 1 ∨ q = 2 ∨ q = 3 ∨ q = 4 ∨ q = 5 ∨ q = 6 by omega) with rfl | rfl | rfl | rfl | rfl | rfl | rfl <;> rfl
        · rw [show a_tsw 0 5 19 [2, 4, 7, 10, 13, 16] (Int32.ofNat 5) = 16 by decide]
          rcases (show q = 0 ∨ q = 1 ∨ q = 2 ∨ q = 3 ∨ q = 4 ∨ q = 5 ∨ q = 6 by omega) with rfl | rfl | rfl | rfl | rfl | rfl | rfl <;> rfl
        · rw [show a_tsw 0 5 19 [2, 4, 7, 10, 13, 16] (Int32.ofNat 6) = 19 by decide]
          rcases (show q = 0 ∨ q = 1 ∨ q = 2 ∨ q = 3 ∨ q = 4 ∨ q = 5 ∨ q = 6 by omega) with rfl | rfl | rfl | rfl | rfl | rfl | rfl <;> rfl
      rw [hu]
      simp only [e_bd, e_bdn, e_st, e_li, e_bs, e_opn, e_ops, e_ob, e_vo, e_ia, e_eq, e_ne, e_lt, e_ge, e_gt, e_le, cond_true, cond_false, Bool.cond_decide]
      cases u_un (Int32.ofNat (d_kd d p)) (Int32.ofNat k)
      · exact ⟨_, rfl, rfl⟩
      · exact ⟨_, rfl, rfl⟩
    · rw [decide_eq_false c2, if_neg (show ¬ ¬ b_i false = 0 by decide), if_neg (show ¬ ¬ b_i false = 0 by decide)]
      exact ⟨_, rfl, rfl⟩
  · rw [decide_eq_false c1, k_no hn hC c1]
    exact ⟨_, by simp only [e_bd, e_bdn, e_st, e_li, e_bs, e_opn, e_ops, e_ob, e_vo, e_ia, e_eq, e_ne, e_lt, e_ge, e_gt, e_le, cond_true, cond_false, Bool.cond_decide, show b_i false = 0 from rfl, if_true]; rfl, by simp only [e_bd, e_bdn, e_st, e_li, e_bs, e_opn, e_ops, e_ob, e_vo, e_ia, e_eq, e_ne, e_lt, e_ge, e_gt, e_le, cond_true, cond_false, Bool.cond_decide]⟩
end XS
