/-! 86.pq: person agrees -/
section PQ
variable {N : Nat} {d : dS} {F : fS} {A C : mS} {P : Nat → Option Nat} {vl : Option Nat} {R : List aC} {ns nv nb nk : Nat}
theorem m_p4 {p q : Nat} (hp : p < 8) : ∀ (r k : Nat) (A : mS), k + r = 4 → ∃ A', g_139_55 N (r + 1 + q) (Int32.ofNat p) (Int32.ofNat k) A = some (Int32.ofNat p, A') ∧ fr [0] A A' ∧ (∀ j, ¬ (156 + 4 * p + k ≤ j ∧ j < 160 + 4 * p) → j ≠ 11 → A' 0 j = A 0 j) ∧ (∀ j, 156 + 4 * p + k ≤ j → j < 160 + 4 * p → A' 0 j = 0) ∧ A' 0 11 = A 0 11 + 1 := by
  intro r
  induction r with
  | zero =>
    intro k A hk
    have hk4 : k = 4 := by omega
    subst hk4
    rw [show 0 + 1 + q = q + 1 by omega]
    refine ⟨va_up A 0 (upd (A 0) 11 (A 0 11 + 1)), ?_, fr_up fr_rfl (by simp), ?_, ?_, ?_⟩
    · show g_139_55b _ _ _ _ _ = _
      unfold g_139_55b
      simp only [e_bd, e_bdn, e_st, e_li, e_bs, e_opn, e_ops, e_ob, e_vo, e_ia, e_eq, e_ne, e_lt, e_ge, e_gt, e_le, cond_true, cond_false, Bool.cond_decide, show (4 : Int32) ≤ Int32.ofNat 4 by decide, if_true]
    · intro j _ h11
      rw [va_up_self, upd_ne _ _ h11]
    · intro j h1 h2
      omega
    · rw [va_up_self, upd_self]
  | succ r ih =>
    intro k A hk
    rw [show r + 1 + 1 + q = (r + 1 + q) + 1 by omega]
    obtain ⟨A', e, f, h1, h2, h3⟩ := ih (k + 1) (va_up A 0 (upd (A 0) (156 + 4 * p + k) 0)) (by omega)
    refine ⟨A', ?_, fr_tr (fr_up fr_rfl (by simp)) f, ?_, ?_, ?_⟩
    · show g_139_55b _ _ _ _ _ = _
      unfold g_139_55b
      simp only [e_bd, e_bdn, e_st, e_li, e_bs, e_opn, e_ops, e_ob, e_vo, e_ia, e_eq, e_ne, e_lt, e_ge, e_gt, e_le, cond_true, cond_false, Bool.cond_decide, show ¬ (4 : Int32) ≤ Int32.ofNat (k) by rw [show (4 : Int32) = Int32.ofNat 4 from rfl, o_le (by omega) (by omega)]; omega, if_false, show (156 : Int32) + (4 : Int32) * Int32.ofNat p + Int32.ofNat k = Int32.ofNat (156 + 4 * p + k) by rw [show (156 : Int32) = Int32.ofNat 156 from rfl, show (4 : Int32) = Int32.ofNat 4 from rfl, o_mul, o_add, o_add], show a_in (Int32.ofNat (156 + 4 * p + k)) 947 = true by rw [o_in (by omega)]; simp; omega, o_cl (show 156 + 4 * p + k < 2147483648 by omega), show Int32.ofNat (k) + 1 = Int32.ofNat (k + 1) from o_add (q := 1)]
      exact e
    · intro j hj h11
      rw [h1 j (by omega) h11, va_up_self, upd_ne _ _ (by omega)]
    · intro j hj1 hj2
      by_cases c : j = 156 + 4 * p + k
      · subst c
        rw [h1 _ (by omega) (by omega), va_up_self, upd_self]
      · exact h2 j (by omega) hj2
    · rw [h3, va_up_self, upd_ne _ _ (by omega)]
theorem m_okP {x2 x3 : Int32} : okP x2 x3 ↔ ((0 : Int32) ≤ x2 ∧ x2 ≤ 9) ∧ ((0 : Int32) ≤ x3 ∧ x3 ≤ 999) := by
  have k0 : (0 : Int32).toInt = 0 := rfl
  have k9 : (9 : Int32).toInt = 9 := rfl
  have k999 : (999 : Int32).toInt = 999 := rfl
  unfold okP
  rw [z_le, z_le, z_le, z_le, k0, k9, k999]
theorem m_kd {x1 : Int32} : (0 ≤ x1.toInt ∧ x1.toInt ≤ 6) ↔ ((0 : Int32) ≤ x1 ∧ x1 ≤ 6) := by
  have k0 : (0 : Int32).toInt = 0 := rfl
  have k6 : (6 : Int32).toInt = 6 := rfl
  rw [z_le, z_le, k0, k6]
theorem m_pr (h : XR (A 0) C P vl R d F ns nv nb nk) (x1 x2 x3 : Int32) :
    (¬ (0 ≤ x1.toInt ∧ x1.toInt ≤ 6) → g_139 N x1 x2 x3 A = some (-1, A)) ∧ ((0 ≤ x1.toInt ∧ x1.toInt ≤ 6) → ¬ okP x2 x3 → g_139 N x1 x2 x3 A = some (-2, A)) ∧ ((0 ≤ x1.toInt ∧ x1.toInt ≤ 6) → okP x2 x3 → d_n d = 8 → g_139 N x1 x2 x3 A = some (-4, A)) := by
  have hM := h.1.2.2.2.1
  rw [m_okP, m_kd]
  unfold g_139
  simp only [m_in, e_bd, e_bdn, e_st, e_li, e_bs, e_opn, e_ops, e_ob, e_vo, e_ia, e_eq, e_ne, e_lt, e_ge, e_gt, e_le, cond_true, cond_false, Bool.cond_decide]
  refine ⟨fun c1 => ?_, fun c1 c2 => ?_, fun c1 c2 c3 => ?_⟩
  · rw [decide_eq_false c1]
    rfl
  · rw [decide_eq_true c1, if_pos (show ¬ b_i true = 0 by decide)]
    by_cases c3 : (0 : Int32) ≤ x2 ∧ x2 ≤ 9
    · rw [decide_eq_true c3, if_neg (show ¬ b_i true = 0 by decide), decide_eq_false (fun c4 => c2 ⟨c3, c4⟩)]
      rfl
    · rw [decide_eq_false c3]
      rfl
  · rw [decide_eq_true c1, if_pos (show ¬ b_i true = 0 by decide), decide_eq_true c2.1, if_neg (show ¬ b_i true = 0 by decide), decide_eq_true c2.2, if_pos (show ¬ b_i true = 0 by decide), hM.2.1, c3]
    rfl
theorem q_pers (hN : 200 ≤ N) (h : XR (A 0) C P vl R d F ns nv nb nk) {q : Nat} (hq : q ≤ 6) {x2 x3 : Int32} (hx : okP x2 x3) (hp8 : d_n d < 8) :
    ∃ A', g_139 N (Int32.ofNat q) x2 x3 A = some (Int32.ofNat (d_n d), A') ∧ SM A A' ∧ XW (A' 0) (C80 C (d_n d) x3) (va_up P (d_n d) (some (R.length + 33))) vl (R ++ [.inr (k_cl q, [.int (Int32.ofNat q), .int (Int32.ofNat (d_n d)), .int x2])]) := by
  obtain ⟨⟨hd, hf, hy, hM, hF, hC, hW⟩, ⟨hs1, hs2, hs3, hs4⟩, hv, hb, hk, hr⟩ := h
  obtain ⟨p, hp⟩ : ∃ p, p = d_n d := ⟨_, rfl⟩
  rw [← hp] at hp8 hr ⊢
  have h11 : A 0 11 = Int32.ofNat p := by rw [hp]; exact hM.2.1
  obtain ⟨y2, hy2, rfl⟩ := o_ex (x := x2) (n := 10) hx.1.1 (by have := hx.1.2; omega)
  have ho := m_okP.mp hx
  obtain ⟨A6, e6, f6, g6⟩ : ∃ A6, g_139 N (Int32.ofNat q) (Int32.ofNat y2) x3 A = g_139_55 N N (Int32.ofNat p) 0 A6 ∧ fr [0] A A6 ∧ A6 0 = upd (upd (upd (A 0) (140 + p) (Int32.ofNat q)) (148 + p) (Int32.ofNat y2)) (3 + p) x3 := by
    have c1 : (0 : Int32) ≤ Int32.ofNat q ∧ Int32.ofNat q ≤ 6 := m_kd.mp (by rw [z_ofNat (by omega)]; omega)
    have c8 : ¬ Int32.ofNat p = 8 := by rw [show (8 : Int32) = Int32.ofNat 8 from rfl, o_eq (by omega) (by omega)]; omega
    unfold g_139
    simp only [m_in, e_bd, e_bdn, e_st, e_li, e_bs, e_opn, e_ops, e_ob, e_vo, e_ia, e_eq, e_ne, e_lt, e_ge, e_gt, e_le, cond_true, cond_false, Bool.cond_decide, decide_eq_true c1, decide_eq_true ho.1, decide_eq_true ho.2, show ¬ b_i true = 0 by decide, not_false_eq_true, if_true, if_false, h11, c8, show (140 : Int32) + Int32.ofNat p = Int32.ofNat (140 + p) from o_add (p := 140), show (148 : Int32) + Int32.ofNat p = Int32.ofNat (148 + p) from o_add (p := 148), show (3 : Int32) + Int32.ofNat p = Int32.ofNat (3 + p) from o_add (p := 3), show a_in (Int32.ofNat (140 + p)) 947 = true by rw [o_in (by omega)]; simp; omega, show a_in (Int32.ofNat (148 + p)) 947 = true by rw [o_in (by omega)]; simp; omega, show a_in (Int32.ofNat (3 + p)) 947 = true by rw [o_in (by omega)]; simp; omega, o_cl (show 140 + p < 2147483648 by omega), o_cl (show 148 + p < 2147483648 by omega), o_cl (show 3 + p < 2147483648 by omega)]
    refine ⟨_, rfl, fr_up (fr_up (fr_up fr_rfl (by simp)) (by simp)) (by simp), ?_⟩
    simp only [va_up_self]
  obtain ⟨A', e, f, g1, g2, g3⟩ := m_p4 (N := N) (q := N - 5) hp8 4 0 A6 (by omega)
  rw [show 4 + 1 + (N - 5) = N by omega] at e
  have gj : ∀ j, ¬ (156 + 4 * p ≤ j ∧ j < 160 + 4 * p) → j ≠ 11 → j ≠ 140 + p → j ≠ 148 + p → j ≠ 3 + p → A' 0 j = A 0 j := fun j h1 h2 h3 h4 h5 => by
    rw [g1 j (by omega) h2, g6, upd_ne _ _ h5, upd_ne _ _ h4, upd_ne _ _ h3]
  have gk : A' 0 (140 + p) = Int32.ofNat q := by rw [g1 _ (by omega) (by omega), g6, upd_ne _ _ (by omega), upd_ne _ _ (by omega), upd_self]
  have gv : A' 0 (148 + p) = Int32.ofNat y2 := by rw [g1 _ (by omega) (by omega), g6, upd_ne _ _ (by omega), upd_self]
  have gp : A' 0 (3 + p) = x3 := by rw [g1 _ (by omega) (by omega), g6, upd_self]
  have g11 : A' 0 11 = Int32.ofNat (p + 1) := by
    rw [g3, g6, upd_ne _ _ (by omega), upd_ne _ _ (by omega), upd_ne _ _ (by omega), h11]
    exact o_add (q := 1)
  have hv1 := hd.1
  obtain ⟨hd1, hd2, hd3, hd4, hd5, hd6, hd7, hd8, hd9⟩ := hd
  obtain ⟨hf1, hf2, hf3, hf4⟩ := hf
  obtain ⟨hM1, hM2, hM3, hM4, hM5, hM6, hM7⟩ := hM
  obtain ⟨hC1, hC2, hC3, hC4, hC5, hC6⟩ := hC
  rw [← hp] at hd4 hd5 hd6 hd7 hf4 hM3 hM4 hM5 hC2 hC3 hC4
  refine ⟨A', e6.trans e, SM_fr (S := [0]) (fr_tr f6 f) (by decide) (by decide) (by decide), ⟨(d_V d, d_ru d, d_gi d, p + 1, fun i => if i = p then q else d_kd d i, fun i => if i = p then y2 else d_vv d i, fun j => if 4 * p ≤ j then 0 else d_rw d j, d_fo d, d_fn d), (f_dy F, f_ah F, f_tu F, upd (f_pu F) p x3), ns, nv, nb, nk, ⟨⟨hd1, hd2, hd3, ?_, ?_, ?_, ?_, hd8, hd9⟩, ⟨hf1, hf2, hf3, ?_⟩, hy, ⟨?_, ?_, ?_, ?_, ?_, ?_, ?_⟩, ⟨?_, ?_, ?_, ?_⟩, ⟨CV_app _ hC1, ?_, ?_, ?_, ?_, ?_⟩, ⟨?_, ?_, ?_, ?_⟩⟩, ⟨hs1, ?_, ?_, ?_⟩, ⟨hv.1, ?_, ?_, ?_⟩, ⟨hb.1, ?_, ?_, ?_⟩, ⟨hk.1, ?_, ?_, ?_⟩, ?_⟩⟩
  · show p + 1 ≤ 8
    omega
  · intro i hi
    show (if i = p then q else d_kd d i) ≤ 6
    have : i < p + 1 := hi
    split
    · exact hq
    · exact hd5 i (by omega)
  · intro i hi
    show (if i = p then y2 else d_vv d i) ≤ 9
    have : i < p + 1 := hi
    split
    · omega
    · exact hd6 i (by omega)
  · intro j hj
    show 0 ≤ (if 4 * p ≤ j then (0 : Int32) else d_rw d j).toInt ∧ (if 4 * p ≤ j then (0 : Int32) else d_rw d j).toInt < 100
    split
    · decide
    · exact hd7 j (by omega)
  · intro i hi
    show 0 ≤ (upd (f_pu F) p x3 i).toInt ∧ (upd (f_pu F) p x3 i).toInt < 1000
    have hi' : i < p + 1 := hi
    by_cases c : i = p
    · subst c
      rw [upd_self]
      have := hx.2
      omega
    · rw [upd_ne _ _ c]
      exact hf4 i (by omega)
  · rcases hM1 with ⟨h1, h8⟩ | ⟨u, hu, h1, h8, h9, h10, h12, h13⟩
    · exact .inl ⟨(gj 17 (by omega) (by omega) (by omega) (by omega) (by omega)).trans h1, h8⟩
    · exact .inr ⟨u, hu, (gj 17 (by omega) (by omega) (by omega) (by omega) (by omega)).trans h1, (gj _ (by omega) (by omega) (by omega) (by omega) (by omega)).trans h8, (gj _ (by omega) (by omega) (by omega) (by omega) (by omega)).trans h9, (gj _ (by omega) (by omega) (by omega) (by omega) (by omega)).trans h10, h12, sg_congr (fun j hj => gj j (by omega) (by omega) (by omega) (by omega) (by omega)) h13⟩
  · exact g11
  · intro i hi
    show A' 0 (140 + i) = Int32.ofNat (if i = p then q else d_kd d i)
    have hi' : i < p + 1 := hi
    by_cases c : i = p
    · subst c
      rw [if_pos rfl, gk]
    · rw [if_neg c, gj _ (by omega) (by omega) (by omega) (by omega) (by omega)]
      exact hM3 i (by omega)
  · intro i hi
    show A' 0 (148 + i) = Int32.ofNat (if i = p then y2 else d_vv d i)
    have hi' : i < p + 1 := hi
    by_cases c : i = p
    · subst c
      rw [if_pos rfl, gv]
    · rw [if_neg c, gj _ (by omega) (by omega) (by omega) (by omega) (by omega)]
      exact hM4 i (by omega)
  · intro j hj
    show A' 0 (156 + j) = if 4 * p ≤ j then (0 : Int32) else d_rw d j
    have hj' : j < 4 * (p + 1) := hj
    by_cases c : 4 * p ≤ j
    · rw [if_pos c]
      exact g2 _ (by omega) (by omega)
    · rw [if_neg c, gj _ (by omega) (by omega) (by omega) (by omega) (by omega)]
      exact hM5 j (by omega)
  · exact (gj 13 (by omega) (by omega) (by omega) (by omega) (by omega)).trans hM6
  · intro j hj
    have hj' : j < d_fn d := hj
    exact (gj (188 + j) (by omega) (by omega) (by omega) (by omega) (by omega)).trans (hM7 j hj)
  · exact (gj 0 (by omega) (by omega) (by omega) (by omega) (by omega)).trans hF.1
  · exact (gj 1 (by omega) (by omega) (by omega) (by omega) (by omega)).trans hF.2.1
  · exact (gj 2 (by omega) (by omega) (by omega) (by omega) (by omega)).trans hF.2.2.1
  · intro i hi
    show A' 0 (3 + i) = upd (f_pu F) p x3 i
    by_cases c : i = p
    · subst c
      rw [upd_self, gp]
    · rw [upd_ne _ _ c, gj _ (by omega) (by omega) (by omega) (by omega) (by omega)]
      exact hF.2.2.2 i hi
  · show C80 C p x3 90 12 = Int32.ofNat (p + 1)
    unfold C80
    rw [va_up_self, upd_self, hC2]
    exact o_add (q := 1)
  · intro i hi
    have hi' : i < p + 1 := hi
    show ∃ a, va_up P p (some (R.length + 33)) i = some a ∧ bdr _ a = some (k_cl (if i = p then q else d_kd d i), Int32.ofNat (if i = p then q else d_kd d i), Int32.ofNat i, Int32.ofNat (if i = p then y2 else d_vv d i))
    by_cases c : i = p
    · subst c
      refine ⟨_, va_up_self _ _ _, ?_⟩
      rw [if_pos rfl, if_pos rfl]
      unfold bdr
      rw [if_pos (by omega), show R.length + 33 - 33 = R.length by omega, l_at]
    · obtain ⟨a, h1, h2⟩ := hC3 i (by omega)
      refine ⟨a, ?_, ?_⟩
      · rw [va_up_ne _ _ c]; exact h1
      · rw [if_neg c, if_neg c]; exact bdr_app _ h2
  · intro j hj
    show C80 C p x3 3 j = if 4 * p ≤ j then (0 : Int32) else d_rw d j
    have hj' : j < 4 * (p + 1) := hj
    have e3 : C80 C p x3 3 = C 3 := by unfold C80; rw [va_up_ne _ _ (by decide), va_up_ne _ _ (by decide)]
    rw [e3]
    by_cases c : 4 * p ≤ j
    · rw [if_pos c]
      exact hr j c (by omega)
    · rw [if_neg c]
      exact hC4 j (by omega)
  · show C80 C p x3 90 7 = Int32.ofNat (d_fn d)
    unfold C80
    rw [va_up_self, upd_ne _ _ (by decide)]
    exact hC5
  · intro j hj
    show C80 C p x3 1 j = d_fo d j
    unfold C80
    rw [va_up_ne _ _ (by decide), va_up_ne _ _ (by decide)]
    exact hC6 j hj
  · show C80 C p x3 90 4 = f_dy F
    unfold C80
    rw [va_up_self, upd_ne _ _ (by decide)]
    exact hW.1
  · show C80 C p x3 90 5 = f_ah F
    unfold C80
    rw [va_up_self, upd_ne _ _ (by decide)]
    exact hW.2.1
  · show C80 C p x3 90 8 = f_tu F
    unfold C80
    rw [va_up_self, upd_ne _ _ (by decide)]
    exact hW.2.2.1
  · intro i hi
    show C80 C p x3 2 i = upd (f_pu F) p x3 i
    unfold C80
    rw [va_up_ne _ _ (by decide), va_up_self]
    by_cases c : i = p
    · subst c; rw [upd_self, upd_self]
    · rw [upd_ne _ _ c, upd_ne _ _ c]; exact hW.2.2.2 i hi
  · rw [gj 16 (by omega) (by omega) (by omega) (by omega) (by omega)]; exact hs2
  · unfold C80; rw [va_up_self, upd_ne _ _ (by decide)]; exact hs3
  · intro j hj
    rw [gj (20 + j) (by omega) (by omega) (by omega) (by omega) (by omega)]
    unfold C80
    rw [va_up_ne _ _ (by decide), va_up_ne _ _ (by decide)]
    exact hs4 j hj
  · rw [gj 12 (by omega) (by omega) (by omega) (by omega) (by omega)]; exact hv.2.1
  · unfold C80; rw [va_up_self, upd_ne _ _ (by decide)]; exact hv.2.2.1
  · rw [gj 17 (by omega) (by omega) (by omega) (by omega) (by omega)]; exact hv.2.2.2
  · rw [gj 14 (by omega) (by omega) (by omega) (by omega) (by omega)]; exact hb.2.1
  · unfold C80; rw [va_up_self, upd_ne _ _ (by decide)]; exact hb.2.2.1
  · intro j hj
    rw [gj (200 + j) (by omega) (by omega) (by omega) (by omega) (by omega)]
    unfold C80
    rw [va_up_ne _ _ (by decide), va_up_ne _ _ (by decide)]
    exact hb.2.2.2 j hj
  · rw [gj 15 (by omega) (by omega) (by omega) (by omega) (by omega)]; exact hk.2.1
  · unfold C80; rw [va_up_self, upd_ne _ _ (by decide)]; exact hk.2.2.1
  · intro j hj
    rw [gj (220 + j) (by omega) (by omega) (by omega) (by omega) (by omega)]
    unfold C80
    rw [va_up_ne _ _ (by decide), va_up_ne _ _ (by decide)]
    exact hk.2.2.2 j hj
  · intro j hj hj2
    have hj' : 4 * (p + 1) ≤ j := hj
    unfold C80
    rw [va_up_ne _ _ (by decide), va_up_ne _ _ (by decide)]
    exact hr j (by omega) hj2
end PQ
