/-! 89c.pv: pairs of calls: person, valley -/
theorem PO_up {P : Nat → Option Nat} {R : List aC} {i a ci : Nat} {k n v : Int32} (h : PO P R) (hb : bdr R a = some (ci, k, n, v)) (hc : List.contains [0, 1, 3, 4, 6, 7, 8] ci = true) : PO (va_up P i (some a)) R := fun p b hp e => by
  by_cases c : p = i
  · subst c
    rw [va_up_self] at e
    cases e
    exact ⟨ci, k, n, v, hb, hc⟩
  · rw [va_up_ne _ _ c] at e
    exact h p b hp e
section PV
variable {fz : Value} {sc : Nat × (Nat → Int32)} {A C : mS} {P : Nat → Option Nat} {vl kp : Option Nat} {R : List aC} {t : Nat}
theorem pc_pers (hfz : fz = .null ∨ fz = .retAddr 60) (h : ST A C P vl kp R t) (x1 x2 x3 : Int32) : PCT fz sc 80 139 [some (.ref 0), some (.int x1), some (.int x2), some (.int x3), none] [some (.ref 22), some (.int x1), some (.int x2), some (.int x3), none, none] A C P vl kp R t := by
  have h0 := h
  obtain ⟨⟨d, F, ns, nv, nb, nk, hx⟩, ⟨n, ht⟩, h3, h4, h5, h6⟩ := h0
  have hn : d_n d ≤ 8 := hx.1.1.2.2.2.1
  have h12 : C 90 12 = Int32.ofNat (d_n d) := hx.1.2.2.2.2.2.1.2.1
  have hk := fun Mo => kt_80 (sc := sc) (P := P) (vl := vl) (kp := kp) (Mo := Mo) (R := R) (C := C) (d := 999) hfz (by omega) h12 hn x1 x2 x3
  have hm := m_pr (N := 1000) hx x1 x2 x3
  by_cases c1 : 0 ≤ x1.toInt ∧ x1.toInt ≤ 6
  rotate_left
  · refine ⟨-1, A, fun Mo => v_post (hk Mo) ?_, fun c R2 => gt_139 hfz 1000 c R2 999 (by omega) x1 x2 x3 A _ _ (hm.1 c1)⟩
    rintro rv h' (⟨-, rfl, rfl⟩ | ⟨g, -⟩ | ⟨g, -⟩ | ⟨q, g1, g2, -⟩)
    · exact ⟨rfl, C, P, vl, kp, R, rfl, ST_1 h⟩
    · exact absurd g c1
    · exact absurd g c1
    · exact absurd (by rw [g2, z_ofNat (by omega)]; omega) c1
  by_cases c2 : okP x2 x3
  rotate_left
  · refine ⟨-2, A, fun Mo => v_post (hk Mo) ?_, fun c R2 => gt_139 hfz 1000 c R2 999 (by omega) x1 x2 x3 A _ _ (hm.2.1 c1 c2)⟩
    rintro rv h' (⟨g, -⟩ | ⟨-, -, rfl, rfl⟩ | ⟨-, g, -⟩ | ⟨q, -, -, g, -⟩)
    · exact absurd c1 g
    · exact ⟨rfl, C, P, vl, kp, R, rfl, ST_1 h⟩
    · exact absurd g c2
    · exact absurd g c2
  by_cases c3 : d_n d = 8
  · refine ⟨-4, A, fun Mo => v_post (hk Mo) ?_, fun c R2 => gt_139 hfz 1000 c R2 999 (by omega) x1 x2 x3 A _ _ (hm.2.2 c1 c2 c3)⟩
    rintro rv h' (⟨g, -⟩ | ⟨-, g, -⟩ | ⟨-, -, -, rfl, rfl⟩ | ⟨q, -, -, -, g, -⟩)
    · exact absurd c1 g
    · exact absurd c2 g
    · exact ⟨rfl, C, P, vl, kp, R, rfl, ST_1 h⟩
    · omega
  · obtain ⟨q, hq, e1⟩ := o_ex (x := x1) (n := 7) c1.1 (by omega)
    subst e1
    obtain ⟨A', eg, g1, g2⟩ := q_pers (N := 1000) (by omega) hx (q := q) (by omega) c2 (by omega)
    refine ⟨Int32.ofNat (d_n d), A', fun Mo => v_post (hk Mo) ?_, fun c R2 => gt_139 hfz 1000 c R2 999 (by omega) _ x2 x3 A _ _ eg⟩
    rintro rv h' (⟨g, -⟩ | ⟨-, g, -⟩ | ⟨-, -, g, -⟩ | ⟨q', g3, g4, -, -, rfl, rfl⟩)
    · exact absurd c1 g
    · exact absurd c2 g
    · exact absurd g c3
    · have e : q = q' := (o_eq (by omega) (by omega)).mp g4
      subst e
      have hb : bdr (R ++ [.inr (k_cl q, [.int (Int32.ofNat q), .int (Int32.ofNat (d_n d)), .int x2])]) (R.length + 33) = some (k_cl q, Int32.ofNat q, Int32.ofNat (d_n d), x2) := by
        unfold bdr
        rw [if_pos (by omega), show R.length + 33 - 33 = R.length by omega, l_at]
      refine ⟨rfl, _, _, _, _, _, rfl, g2, ⟨n, TT_c g1.2.1 g1.2.2.2 ?_ ht⟩, PO_up (PO_app _ h3) hb (k_cls (by omega)), IM_app _ (IM_c g1.1 g1.2.2.1 h4), ?_, ?_⟩
      · unfold C80
        rw [va_up_ne _ _ (by decide), va_up_ne _ _ (by decide)]
      · rw [List.length_append]
        show R.length + 1 ≤ _
        omega
      · rw [a_hz_ap]
        show a_hz R + 3 ≤ _
        omega
theorem vb_hz (s v : Nat) : a_hz (vb C R s v) = 5 + s + v + v := by
  unfold vb a_hz
  simp only [List.map_cons, List.map_nil, List.sum_cons, List.sum_nil]
  show 5 + (s + (v + (v + 0))) = _
  omega
theorem IM_v {s v : Nat} {C2 : mS} (h : IM A vl kp R) : IM A (some (R.length + 33)) kp (R ++ vb C2 R s v) := by
  rcases IM_app (vb C2 R s v) h with h1 | ⟨R1, R2, K, P', vl', h1, h2, h3, h4, h5, h6, h7⟩
  · exact .inl h1
  · have hl : R.length + 4 = R1.length + (8 + R2.length) := by
      have := congrArg List.length h3
      rw [List.length_append, List.length_append, List.length_append] at this
      exact this
    rcases h with ⟨g1, -⟩ | ⟨R1', R2', K', P2, vl2, g1, g2, g3, -⟩
    · rw [g1] at h1; cases h1
    · have e : R1'.length = R1.length := by
        have := g1.symm.trans h1
        have := Option.some.inj this
        omega
      have hl2 : R.length = R1'.length + (8 + R2'.length) := by
        have := congrArg List.length g3
        rw [List.length_append, List.length_append] at this
        exact this
      refine .inr ⟨R1, R2, K, P', vl', h1, h2, h3, h4, h5, .inr ⟨R.length + 33, R.length + 34, R.length + 35, R.length + 36, C2 91 5, C2 91 6, rfl, ?_, ?_⟩, h7⟩
      · unfold vly
        rw [if_pos (by omega), show R.length + 33 - 33 = R.length + 0 by omega, l_r]
        rfl
      · rintro x (rfl | rfl | rfl) <;> omega
theorem pc_vall (hfz : fz = .null ∨ fz = .retAddr 60) (h : ST A C P vl kp R t) : PCT fz sc 77 131 [some (.ref 0), none] [some (.ref 22), none] A C P vl kp R t := by
  have h0 := h
  obtain ⟨⟨d, F, ns, nv, nb, nk, hx⟩, ⟨n, ht⟩, h3, h4, h5, h6⟩ := h0
  obtain ⟨-, ⟨hs1, hs2, hs3, hs4⟩, hv, -⟩ := id hx
  have hk := fun Mo => kt_77 (sc := sc) (P := P) (vl := vl) (kp := kp) (Mo := Mo) (R := R) (C := C) (d := 999) hfz (by omega) (N := 1000) hv.2.2.1 hv.1
  by_cases c5 : nv = 5
  · refine ⟨-4, pcv_0 (fun Mo => (hk Mo).1 c5) (fun c R2 => gt_131 hfz 1000 c R2 999 (by omega) A _ _ ?_) (ST_1 h)⟩
    unfold g_131
    rw [hv.2.1, c5]
    rfl
  have hnv : nv < 5 := by have := hv.1; omega
  have hm := m_val (N := 1000) (by omega) hx hnv
  have hc := c_val (N := 1000) (by omega) hx
  have so := sVal_ok (T := C 0) (n := ns) 9 0 [] 0 0 (by simp) (by omega) (fun c hc => by cases hc) (by omega) (by omega)
  cases e : sVal (C 0) ns 9 0 [] 0 0 with
  | mk j ox => cases ox with
    | none =>
      obtain ⟨A', eg, g1, g2, g3⟩ := hm.2 j e
      obtain ⟨C', ek, fc⟩ := hc.2 j e
      have hj := so.2 j e
      refine ⟨-10 - Int32.ofNat j, pcv_0 (fun Mo => (hk Mo).2.1 j C' hnv (by omega) (by rw [hs3]; exact ek)) (fun c R2 => gt_131 hfz 1000 c R2 999 (by omega) A _ _ eg) (ST_s h (XW_vf hx hnv g2 g3 fc) g1 ?_)⟩
      unfold C77
      rw [va_up_ne _ _ (by decide), fr_at fc (by decide)]
    | some x =>
      obtain ⟨V, ru, gi⟩ := x
      obtain ⟨A', z, eg, g1, g2, g3, g4, g5, g6, g7, g8, g9⟩ := hm.1 j V ru gi e
      obtain ⟨C', ek, cl, fc⟩ := hc.1 j V ru gi e
      have ov := (so.1 j V ru gi e).1
      have hcs := cod_sts V
      refine ⟨Int32.ofNat nv, A', fun Mo => v_post ((hk Mo).2.2 C' (c_cod V).length V.length hnv (by rw [hs3]; exact ek) (by rw [fr_at fc (by decide)]; exact hv.2.2.1) cl.2.1.2.2.1 cl.2.2.1 (by omega) ov) ?_, fun c R2 => gt_131 hfz 1000 c R2 999 (by omega) A _ _ eg⟩
      rintro rv h' ⟨rfl, rfl⟩
      refine ⟨rfl, _, _, _, _, _, rfl, XW_vs hx hnv e g2 g3 g4 g5 g6 g7 g8 g9 cl fc, ⟨n, TT_c g1.2.1 g1.2.2.2 ?_ ht⟩, PO_app _ h3, IM_v (IM_c g1.1 g1.2.2.1 h4), ?_, ?_⟩
      · unfold D77
        rw [va_up_ne _ _ (by decide), fr_at fc (by decide)]
      · rw [List.length_append]
        show R.length + 4 ≤ _
        omega
      · rw [a_hz_ap, vb_hz]
        omega
end PV
