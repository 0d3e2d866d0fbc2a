/-! 72.xr: the model's row and the class's world; feed, told, fortune, row, beside, book -/
def XR (s : Nat → Int32) (K : mS) (P : Nat → Option Nat) (vl : Option Nat) (R : List aC) (d : dS) (F : fS) (ns nv nb nk : Nat) : Prop :=
  (d_ok d ∧ f_ok d F ∧ (f_dy F).toInt ≤ 99 ∧ MD s d ∧ MF s F ∧ CD K P vl R d ∧ WF K F) ∧
  (ns ≤ 120 ∧ s 16 = Int32.ofNat ns ∧ K 90 1 = Int32.ofNat ns ∧ ∀ j, j < ns → s (20 + j) = K 0 j ∧ 0 ≤ (K 0 j).toInt ∧ (K 0 j).toInt ≤ 127) ∧
  (nv ≤ 5 ∧ s 12 = Int32.ofNat nv ∧ K 90 2 = Int32.ofNat nv ∧ (s 17 = -1 ∨ ∃ h, h < nv ∧ s 17 = Int32.ofNat h)) ∧
  (nb ≤ 20 ∧ s 14 = Int32.ofNat nb ∧ K 90 14 = Int32.ofNat nb ∧ ∀ j, j < nb → s (200 + j) = K 4 j) ∧
  (nk ≤ 12 ∧ s 15 = Int32.ofNat nk ∧ K 90 16 = Int32.ofNat nk ∧ ∀ j, j < nk → s (220 + j) = K 5 j) ∧
  (∀ j, 4 * d_n d ≤ j → j < 32 → K 3 j = 0)
def XW (s : Nat → Int32) (K : mS) (P : Nat → Option Nat) (vl : Option Nat) (R : List aC) : Prop := ∃ d F ns nv nb nk, XR s K P vl R d F ns nv nb nk
/-- places of the row that an evening's fixed part looks at -/
def mdi (j : Nat) : Prop := j = 11 ∨ j = 13 ∨ j = 17 ∨ (140 ≤ j ∧ j < 200) ∨ 232 ≤ j
theorem MD_c {s s' : Nat → Int32} {d : dS} (hd : d_ok d) (h : ∀ j, mdi j → s' j = s j) (hM : MD s d) : MD s' d := by
  have hn := hd.2.2.2.1
  have hfn := hd.2.2.2.2.2.2.2.1
  obtain ⟨h1, h2, h3, h4, h5, h6, h7⟩ := hM
  unfold mdi at h
  refine ⟨?_, (h 11 (by omega)).trans h2, fun p hp => (h _ (by omega)).trans (h3 p hp), fun p hp => (h _ (by omega)).trans (h4 p hp), fun p hp => (h _ (by omega)).trans (h5 p hp), (h 13 (by omega)).trans h6, fun p hp => (h _ (by omega)).trans (h7 p hp)⟩
  rcases h1 with ⟨h1, h8⟩ | ⟨q, hq, h1, h8, h9, h10, h11, h12⟩
  · exact .inl ⟨(h 17 (by omega)).trans h1, h8⟩
  · exact .inr ⟨q, hq, (h 17 (by omega)).trans h1, (h _ (by omega)).trans h8, (h _ (by omega)).trans h9, (h _ (by omega)).trans h10, h11, sg_congr (fun j hj => h j (by omega)) h12⟩
theorem MF_c {s s' : Nat → Int32} {F : fS} (h : ∀ j, j < 11 → s' j = s j) (hM : MF s F) : MF s' F :=
  ⟨(h 0 (by omega)).trans hM.1, (h 1 (by omega)).trans hM.2.1, (h 2 (by omega)).trans hM.2.2.1, fun p hp => (h _ (by omega)).trans (hM.2.2.2 p hp)⟩
theorem CD_c {K K' : mS} {P : Nat → Option Nat} {vl : Option Nat} {R : List aC} {d : dS} (h1 : K' 1 = K 1) (h3 : K' 3 = K 3) (h12 : K' 90 12 = K 90 12) (h7 : K' 90 7 = K 90 7) (h : CD K P vl R d) : CD K' P vl R d := by
  unfold CD
  rw [h1, h3, h12, h7]
  exact h
theorem WF_c {K K' : mS} {F : fS} (h2 : K' 2 = K 2) (h4 : K' 90 4 = K 90 4) (h5 : K' 90 5 = K 90 5) (h8 : K' 90 8 = K 90 8) (h : WF K F) : WF K' F := by
  unfold WF
  rw [h2, h4, h5, h8]
  exact h
theorem XR_K {s : Nat → Int32} {K K' : mS} {P : Nat → Option Nat} {vl : Option Nat} {R : List aC} {d : dS} {F : fS} {ns nv nb nk : Nat} (h : XR s K P vl R d F ns nv nb nk) (h0 : K' 0 = K 0) (h1 : K' 1 = K 1) (h2 : K' 2 = K 2) (h3 : K' 3 = K 3) (h4 : K' 4 = K 4) (h5 : K' 5 = K 5) (h90 : K' 90 = K 90) : XR s K' P vl R d F ns nv nb nk := by
  unfold XR CD WF
  rw [h0, h1, h2, h3, h4, h5, h90]
  exact h
theorem XR_q {A A' C C' : mS} {P : Nat → Option Nat} {vl : Option Nat} {R : List aC} {d : dS} {F : fS} {ns nv nb nk : Nat} (h : XR (A 0) C P vl R d F ns nv nb nk) (hM : QM A A') (hC : QC C C') : XR (A' 0) C' P vl R d F ns nv nb nk := by
  rw [hM.1]
  exact XR_K h (hC 0 (by decide)) (hC 1 (by decide)) (hC 2 (by decide)) (hC 3 (by decide)) (hC 4 (by decide)) (hC 5 (by decide)) (hC 90 (by decide))
/-- all but the row itself: the image, the trace -/
def SM (A A' : mS) : Prop := A' 1 = A 1 ∧ A' 9 = A 9 ∧ A' 99 4 = A 99 4 ∧ A' 99 21 = A 99 21
theorem SM_rfl {A : mS} : SM A A := ⟨rfl, rfl, rfl, rfl⟩
theorem SM_q {A A' : mS} (h : QM A A') : SM A A' := h.2
theorem SM_fr {A A' : mS} {S : List Nat} (hf : fr S A A') (h1 : 1 ∉ S) (h9 : 9 ∉ S) (h99 : 99 ∉ S) : SM A A' := ⟨hf 1 h1, hf 9 h9, by rw [hf 99 h99], by rw [hf 99 h99]⟩
section XX
variable {N : Nat} {d : dS} {F : fS} {A C : mS} {P : Nat → Option Nat} {vl : Option Nat} {R : List aC} {ns nv nb nk : Nat}
theorem q_feed (h : XR (A 0) C P vl R d F ns nv nb nk) (x : Int32) : ∃ r A' C', g_117 N x A = some (r, A') ∧ k_76 N P vl R x C = some (r, C') ∧ XW (A' 0) C' P vl R ∧ SM A A' ∧ C' 13 = C 13 := by
  have k0 : (0 : Int32).toInt = 0 := rfl
  have k127 : (127 : Int32).toInt = 127 := rfl
  obtain ⟨⟨hd, hf, hy, hM, hF, hC, hW⟩, ⟨hs1, hs2, hs3, hs4⟩, hv, hb, hk, hr⟩ := h
  unfold g_117 k_76
  simp only [m_in, e_bd, e_bdn, e_st, e_li, e_bs, e_opn, e_ops, e_ob, e_vo, e_ia, e_eq, e_ne, e_lt, e_ge, e_gt, e_le, cond_true, cond_false, Bool.cond_decide, z_le, z_lt, k0, k127]
  by_cases c1 : 0 ≤ x.toInt ∧ x.toInt ≤ 127
  · rw [decide_eq_true c1, if_pos (show ¬ b_i true = 0 by decide), if_neg (show ¬ x.toInt < 0 by omega), if_pos c1.2, hs2, hs3]
    have hc : ((Int32.ofNat ns).toInt < (120 : Int32).toInt) ↔ ns < 120 := by rw [z_ofNat (by omega), show (120 : Int32).toInt = 120 from rfl]; omega
    have hc2 : (¬ Int32.ofNat ns = 120) ↔ ns < 120 := by rw [show (120 : Int32) = Int32.ofNat 120 from rfl, o_eq (by omega) (by omega)]; omega
    by_cases c2 : ns < 120
    · rw [if_pos (hc2.mpr c2), if_pos (hc.mpr c2)]
      simp only [show (20 : Int32) + Int32.ofNat ns = Int32.ofNat (20 + ns) from o_add (p := 20), show a_in (Int32.ofNat (20 + ns)) 947 = true by rw [o_in (by omega)]; simp; omega, show a_in (Int32.ofNat (ns)) 120 = true by rw [o_in (by omega)]; simp; omega, o_cl (show 20 + ns < 2147483648 by omega), o_cl (show ns < 2147483648 by omega), e_bd, e_bdn, e_st, e_li, e_bs, e_opn, e_ops, e_ob, e_vo, e_ia, e_eq, e_ne, e_lt, e_ge, e_gt, e_le, cond_true, cond_false, Bool.cond_decide, va_up_self, upd_ne _ _ (show 16 ≠ 20 + ns by omega), hs2, upd_self, show Int32.ofNat (ns) + 1 = Int32.ofNat (ns + 1) from o_add (q := 1), va_up_ne _ _ (show (90 : Nat) ≠ 0 by decide), hs3]
      refine ⟨_, _, _, rfl, rfl, ⟨d, F, ns + 1, nv, nb, nk, ⟨hd, hf, hy, ?_, ?_, ?_, ?_⟩, ⟨by omega, ?_, ?_, ?_⟩, ⟨hv.1, ?_, ?_, ?_⟩, ⟨hb.1, ?_, ?_, ?_⟩, ⟨hk.1, ?_, ?_, ?_⟩, ?_⟩, ?_, ?_⟩
      · rw [va_up_self]
        exact MD_c hd (fun j hj => by unfold mdi at hj; rw [upd_ne _ _ (by omega), upd_ne _ _ (by omega)]) hM
      · rw [va_up_self]
        exact MF_c (fun j hj => by rw [upd_ne _ _ (by omega), upd_ne _ _ (by omega)]) hF
      · exact CD_c (by rw [va_up_ne _ _ (by decide), va_up_ne _ _ (by decide)]) (by rw [va_up_ne _ _ (by decide), va_up_ne _ _ (by decide)]) (by rw [va_up_self, upd_ne _ _ (by decide)]) (by rw [va_up_self, upd_ne _ _ (by decide)]) hC
      · exact WF_c (by rw [va_up_ne _ _ (by decide), va_up_ne _ _ (by decide)]) (by rw [va_up_self, upd_ne _ _ (by decide)]) (by rw [va_up_self, upd_ne _ _ (by decide)]) (by rw [va_up_self, upd_ne _ _ (by decide)]) hW
      · rw [va_up_self, upd_self]
      · rw [va_up_self, upd_self]
      · intro j hj
        rw [va_up_self, upd_ne _ _ (by omega), va_up_ne _ _ (by decide), va_up_self]
        by_cases c : j = ns
        · subst c; rw [upd_self, upd_self]; exact ⟨rfl, c1⟩
        · rw [upd_ne _ _ (by omega), upd_ne _ _ c]; exact hs4 j (by omega)
      · rw [va_up_self, upd_ne _ _ (by omega), upd_ne _ _ (by omega)]; exact hv.2.1
      · rw [va_up_self, upd_ne _ _ (by decide)]; exact hv.2.2.1
      · rw [va_up_self, upd_ne _ _ (by omega), upd_ne _ _ (by omega)]; exact hv.2.2.2
      · rw [va_up_self, upd_ne _ _ (by omega), upd_ne _ _ (by omega)]; exact hb.2.1
      · rw [va_up_self, upd_ne _ _ (by decide)]; exact hb.2.2.1
      · intro j hj
        rw [va_up_self, upd_ne _ _ (by omega), upd_ne _ _ (by omega), va_up_ne _ _ (by decide), va_up_ne _ _ (by decide)]; exact hb.2.2.2 j hj
      · rw [va_up_self, upd_ne _ _ (by omega), upd_ne _ _ (by omega)]; exact hk.2.1
      · rw [va_up_self, upd_ne _ _ (by decide)]; exact hk.2.2.1
      · intro j hj
        rw [va_up_self, upd_ne _ _ (by omega), upd_ne _ _ (by omega), va_up_ne _ _ (by decide), va_up_ne _ _ (by decide)]; exact hk.2.2.2 j hj
      · intro j hj hj2
        rw [va_up_ne _ _ (by decide), va_up_ne _ _ (by decide)]; exact hr j hj hj2
      · exact SM_fr (S := [0]) (fr_up (fr_up fr_rfl (by simp)) (by simp)) (by decide) (by decide) (by decide)
      · rw [va_up_ne _ _ (by decide), va_up_ne _ _ (by decide)]
    · rw [if_neg (fun q => c2 (hc2.mp q)), if_neg (fun q => c2 (hc.mp q))]
      exact ⟨_, _, _, rfl, rfl, ⟨d, F, ns, nv, nb, nk, ⟨hd, hf, hy, hM, hF, hC, hW⟩, ⟨hs1, hs2, hs3, hs4⟩, hv, hb, hk, hr⟩, SM_rfl, rfl⟩
  · rw [decide_eq_false c1, if_neg (show ¬ ¬ b_i false = 0 by decide)]
    refine ⟨-2, A, C, rfl, ?_, ⟨d, F, ns, nv, nb, nk, ⟨hd, hf, hy, hM, hF, hC, hW⟩, ⟨hs1, hs2, hs3, hs4⟩, hv, hb, hk, hr⟩, SM_rfl, rfl⟩
    split
    · rfl
    · rw [if_neg (by omega)]
theorem k_fn0 (hd : d_ok d) (hf : f_ok d F) (hC : CD C P vl R d) : k_73 N P vl R (f_tu F) C = some (f_nx d F, C) := by
  have hfn := hd.2.2.2.2.2.2.2.1
  have htu := hf.2.2.1
  have k0 : (0 : Int32).toInt = 0 := rfl
  unfold k_73 f_nx
  simp only [e_bd, e_bdn, e_st, e_li, e_bs, e_opn, e_ops, e_ob, e_vo, e_ia, e_eq, e_ne, e_lt, e_ge, e_gt, e_le, cond_true, cond_false, Bool.cond_decide, hC.2.2.2.2.1]
  by_cases c : f_tu F < Int32.ofNat (d_fn d)
  · have c1 : ¬ f_tu F < 0 := by rw [z_lt]; omega
    have c2 : ¬ Int32.ofNat (d_fn d) ≤ f_tu F := by rw [z_lt] at c; rw [z_le]; omega
    have c3 : a_in (f_tu F) 12 = true := by rw [z_in]; rw [z_lt, z_ofNat (by omega)] at c; simp; omega
    rw [if_pos (show 0 ≤ f_tu F ∧ f_tu F < Int32.ofNat (d_fn d) from ⟨by rw [z_le]; omega, c⟩)]
    simp only [c1, c2, c3, if_false, e_bd, e_bdn, e_st, e_li, e_bs, e_opn, e_ops, e_ob, e_vo, e_ia, e_eq, e_ne, e_lt, e_ge, e_gt, e_le, cond_true, cond_false, Bool.cond_decide]
    rw [hC.2.2.2.2.2]
    rw [z_cl]; rw [z_lt, z_ofNat (by omega)] at c; omega
  · have c1 : ¬ f_tu F < 0 := by rw [z_lt]; omega
    have c2 : Int32.ofNat (d_fn d) ≤ f_tu F := by rw [z_lt] at c; rw [z_le]; omega
    rw [if_neg (show ¬ (0 ≤ f_tu F ∧ f_tu F < Int32.ofNat (d_fn d)) from fun h => c h.2)]
    simp only [c1, c2, if_false, if_true, e_bd, e_bdn, e_st, e_li, e_bs, e_opn, e_ops, e_ob, e_vo, e_ia, e_eq, e_ne, e_lt, e_ge, e_gt, e_le, cond_true, cond_false, Bool.cond_decide]
theorem q_told (h : XR (A 0) C P vl R d F ns nv nb nk) (x : Int32) : ∃ r, g_137 N x A = some (r, A) ∧ k_78 N P vl R x C = some (r, C) := by
  obtain ⟨⟨hd, hf, hy, hM, hF, hC, hW⟩, -⟩ := h
  have e1 := mv_ru (N := N) hM
  have e2 := mv_gi (N := N) hM
  have e3 := m_fn (N := N) hd hf (show MS A d F from ⟨hM, hF⟩)
  have f1 := k_ru (N := N) hC
  have f2 := k_gi (N := N) hC
  have f3 := k_fn0 (N := N) hd hf hC
  unfold g_137 k_78
  simp only [e1, e2, e3, f1, f2, hW.2.2.1, f3, e_bd, e_bdn, e_st, e_li, e_bs, e_opn, e_ops, e_ob, e_vo, e_ia, e_eq, e_ne, e_lt, e_ge, e_gt, e_le, cond_true, cond_false, Bool.cond_decide, hF.1, hF.2.1, hW.1, hW.2.1]
  by_cases c : 0 ≤ x.toInt ∧ x.toInt < (5 : Nat)
  · obtain ⟨q, hq, rfl⟩ := o_ex c.1 c.2
    rcases (show q = 0 ∨ q = 1 ∨ q = 2 ∨ q = 3 ∨ q = 4 by omega) with rfl | rfl | rfl | rfl | rfl
    · rw [show a_tsw 0 4 23 [2, 6, 10, 15, 20] (Int32.ofNat 0) = 2 by decide, show a_tsw 0 4 25 [2, 6, 10, 14, 18] (Int32.ofNat 0) = 2 by decide]
      exact ⟨_, by simp; rfl, by simp⟩
    · rw [show a_tsw 0 4 23 [2, 6, 10, 15, 20] (Int32.ofNat 1) = 6 by decide, show a_tsw 0 4 25 [2, 6, 10, 14, 18] (Int32.ofNat 1) = 6 by decide]
      exact ⟨_, by simp; rfl, by simp⟩
    · rw [show a_tsw 0 4 23 [2, 6, 10, 15, 20] (Int32.ofNat 2) = 10 by decide, show a_tsw 0 4 25 [2, 6, 10, 14, 18] (Int32.ofNat 2) = 10 by decide]
      exact ⟨_, by simp; rfl, by simp⟩
    · rw [show a_tsw 0 4 23 [2, 6, 10, 15, 20] (Int32.ofNat 3) = 15 by decide, show a_tsw 0 4 25 [2, 6, 10, 14, 18] (Int32.ofNat 3) = 14 by decide]
      exact ⟨_, by simp; rfl, by simp⟩
    · rw [show a_tsw 0 4 23 [2, 6, 10, 15, 20] (Int32.ofNat 4) = 20 by decide, show a_tsw 0 4 25 [2, 6, 10, 14, 18] (Int32.ofNat 4) = 18 by decide]
      exact ⟨_, by simp; rfl, by simp⟩
  · rw [show a_tsw 0 4 23 [2, 6, 10, 15, 20] x = 23 by unfold a_tsw; rw [if_pos (by omega)], show a_tsw 0 4 25 [2, 6, 10, 14, 18] x = 25 by unfold a_tsw; rw [if_pos (by omega)]]
    exact ⟨_, by simp; rfl, by simp⟩
theorem q_count (h : XR (A 0) C P vl R d F ns nv nb nk) (ht : A 99 21 = C 13 0) (x : Int32) : ∃ r, g_181 N x A = some (r, A) ∧ k_101 N P vl R x C = some (r, C) := by
  obtain ⟨⟨hd, hf, hy, hM, hF, hC, hW⟩, hs, hv, hb, hk, -⟩ := h
  unfold g_181 k_101
  rw [hM.2.1, hC.2.1, hv.2.1, hv.2.2.1, hM.2.2.2.2.2.1, hC.2.2.2.2.1, hb.2.1, hb.2.2.1, hk.2.1, hk.2.2.1, hs.2.1, hs.2.2.1, ht]
  by_cases c : 0 ≤ x.toInt ∧ x.toInt < (7 : Nat)
  · obtain ⟨q, hq, rfl⟩ := o_ex c.1 c.2
    rcases (show q = 0 ∨ q = 1 ∨ q = 2 ∨ q = 3 ∨ q = 4 ∨ q = 5 ∨ q = 6 by omega) with rfl | rfl | rfl | rfl | rfl | rfl | rfl
    · rw [show a_tsw 0 6 35 [2, 7, 12, 17, 22, 27, 32] (Int32.ofNat 0) = 2 by decide, show a_tsw 0 6 31 [2, 6, 10, 14, 18, 22, 26] (Int32.ofNat 0) = 2 by decide]
      exact ⟨_, by simp; rfl, by simp⟩
    · rw [show a_tsw 0 6 35 [2, 7, 12, 17, 22, 27, 32] (Int32.ofNat 1) = 7 by decide, show a_tsw 0 6 31 [2, 6, 10, 14, 18, 22, 26] (Int32.ofNat 1) = 6 by decide]
      exact ⟨_, by simp; rfl, by simp⟩
    · rw [show a_tsw 0 6 35 [2, 7, 12, 17, 22, 27, 32] (Int32.ofNat 2) = 12 by decide, show a_tsw 0 6 31 [2, 6, 10, 14, 18, 22, 26] (Int32.ofNat 2) = 10 by decide]
      exact ⟨_, by simp; rfl, by simp⟩
    · rw [show a_tsw 0 6 35 [2, 7, 12, 17, 22, 27, 32] (Int32.ofNat 3) = 17 by decide, show a_tsw 0 6 31 [2, 6, 10, 14, 18, 22, 26] (Int32.ofNat 3) = 14 by decide]
      exact ⟨_, by simp; rfl, by simp⟩
    · rw [show a_tsw 0 6 35 [2, 7, 12, 17, 22, 27, 32] (Int32.ofNat 4) = 22 by decide, show a_tsw 0 6 31 [2, 6, 10, 14, 18, 22, 26] (Int32.ofNat 4) = 18 by decide]
      exact ⟨_, by simp; rfl, by simp⟩
    · rw [show a_tsw 0 6 35 [2, 7, 12, 17, 22, 27, 32] (Int32.ofNat 5) = 27 by decide, show a_tsw 0 6 31 [2, 6, 10, 14, 18, 22, 26] (Int32.ofNat 5) = 22 by decide]
      exact ⟨_, by simp; rfl, by simp⟩
    · rw [show a_tsw 0 6 35 [2, 7, 12, 17, 22, 27, 32] (Int32.ofNat 6) = 32 by decide, show a_tsw 0 6 31 [2, 6, 10, 14, 18, 22, 26] (Int32.ofNat 6) = 26 by decide]
      exact ⟨_, by simp; rfl, by simp⟩
  · rw [show a_tsw 0 6 35 [2, 7, 12, 17, 22, 27, 32] x = 35 by unfold a_tsw; rw [if_pos (by omega)], show a_tsw 0 6 31 [2, 6, 10, 14, 18, 22, 26] x = 31 by unfold a_tsw; rw [if_pos (by omega)]]
    exact ⟨_, by simp; rfl, by simp⟩
/-- go -/
theorem q_go (hN : 200 ≤ N) (h : XR (A 0) C P vl R d F ns nv nb nk) : ∃ r A' C', g_153 N A = some (r, A') ∧ k_83 N P vl R C = some (r, C') ∧ XW (A' 0) C' P vl R ∧ SM A A' ∧ C' 13 = C 13 := by
  have hx := h
  obtain ⟨⟨hd, hf, hy, hM, hF, hC, hW⟩, hs, hv, hb, hk, hr⟩ := h
  have hn := hd.2.2.2.1
  have k99 : (99 : Int32).toInt = 99 := rfl
  unfold g_153 k_83
  simp only [e_bd, e_bdn, e_st, e_li, e_bs, e_opn, e_ops, e_ob, e_vo, e_ia, e_eq, e_ne, e_lt, e_ge, e_gt, e_le, cond_true, cond_false, Bool.cond_decide, hF.1, hW.1]
  by_cases c : (f_dy F).toInt < 99
  · rw [if_pos (show ¬ f_dy F = 99 by rw [z_eq]; omega), if_pos (show f_dy F < 99 by rw [z_lt]; omega)]
    obtain ⟨A1, e1, m1, h14, -, -, f1, p1, j1⟩ := m_eve hN hd hf (show MS A d F from ⟨hM, hF⟩)
    obtain ⟨C1, ec1, sc1, fc1⟩ := k_beg (N := N) hC hW
    obtain ⟨C2, ec2, fc2, -, oc2, sc2⟩ := k_open hN hd hf sc1
    obtain ⟨C3, ec3, fc3, -, sc3⟩ := k_clo hN hd hf sc2 oc2
    have f03 : fr [9, 10, 11, 12, 92] C C3 := fr_tr (fr_mono fc1 (by simp)) (fr_tr (fr_mono fc2 (by simp)) (fr_mono fc3 (by simp)))
    generalize hC4 : va_up (va_up C3 2 (va_cpy (C3 9) (C3 2) 0 0 8)) 90 (upd (upd (upd (C3 90) 4 (C3 92 7)) 5 (C3 92 8)) 8 (C3 92 6)) = C4
    have ec4 : k_11 N P vl R C3 = some (0, C4) := by rw [← hC4]; rfl
    have f04 : fr [2, 9, 10, 11, 12, 90, 92] C C4 := by rw [← hC4]; exact fr_up (fr_up (fr_mono f03 (by simp)) (by simp)) (by simp)
    have g4 : ∀ f, f ≠ 4 → f ≠ 5 → f ≠ 8 → C4 90 f = C 90 f := fun f h4 h5 h8 => by
      rw [← hC4, va_up_self, upd_ne _ _ h8, upd_ne _ _ h5, upd_ne _ _ h4, fr_at f03 (by decide)]
    have h45 : C4 90 5 = b_so d F (b_all d F) := by
      rw [← hC4, va_up_self, upd_ne _ _ (by decide), upd_self, sc3.2.2.1]; rfl
    refine ⟨b_so d F (b_all d F), A1, C4, ?_, ?_, ⟨d, e_nx d F, ns, nv, nb, nk, ⟨hd, e_ok hd hf (by omega), ?_, m1.1, m1.2, ?_, ?_⟩, ⟨hs.1, ?_, ?_, ?_⟩, ⟨hv.1, ?_, ?_, ?_⟩, ⟨hb.1, ?_, ?_, ?_⟩, ⟨hk.1, ?_, ?_, ?_⟩, ?_⟩, ?_, ?_⟩
    · simp only [e1, e_bd, e_bdn, e_st, e_li, e_bs, e_opn, e_ops, e_ob, e_vo, e_ia, e_eq, e_ne, e_lt, e_ge, e_gt, e_le, cond_true, cond_false, Bool.cond_decide, h14]
    · simp only [ec1, ec2, ec3, ec4, e_bd, e_bdn, e_st, e_li, e_bs, e_opn, e_ops, e_ob, e_vo, e_ia, e_eq, e_ne, e_lt, e_ge, e_gt, e_le, cond_true, cond_false, Bool.cond_decide, h45]
    · have k1 : (1 : Int32).toInt = 1 := rfl
      have := hf.1
      show (f_dy F + 1).toInt ≤ 99
      rw [z_add (by omega) (by omega)]
      omega
    · exact CD_c (fr_at f04 (by decide)) (fr_at f04 (by decide)) (g4 12 (by decide) (by decide) (by decide)) (g4 7 (by decide) (by decide) (by decide)) hC
    · refine ⟨?_, ?_, ?_, ?_⟩
      · rw [← hC4, va_up_self, upd_ne _ _ (by decide), upd_ne _ _ (by decide), upd_self, sc3.2.1]
      · rw [← hC4, va_up_self, upd_ne _ _ (by decide), upd_self, sc3.2.2.1]
      · rw [← hC4, va_up_self, upd_self, sc3.2.2.2.1]
      · intro p hp
        rw [← hC4, va_up_ne _ _ (by decide), va_up_self]
        unfold va_cpy
        rw [if_pos (by omega), show 0 + (p - 0) = p by omega]
        exact sc3.2.2.2.2 p hp
    · rw [j1 16 (by omega)]; exact hs.2.1
    · rw [g4 1 (by decide) (by decide) (by decide)]; exact hs.2.2.1
    · intro j hj
      rw [j1 (20 + j) (by omega), fr_at f04 (by decide)]; exact hs.2.2.2 j hj
    · rw [j1 12 (by omega)]; exact hv.2.1
    · rw [g4 2 (by decide) (by decide) (by decide)]; exact hv.2.2.1
    · rw [j1 17 (by omega)]; exact hv.2.2.2
    · rw [j1 14 (by omega)]; exact hb.2.1
    · rw [g4 14 (by decide) (by decide) (by decide)]; exact hb.2.2.1
    · intro j hj
      rw [j1 (200 + j) (by omega), fr_at f04 (by decide)]; exact hb.2.2.2 j hj
    · rw [j1 15 (by omega)]; exact hk.2.1
    · rw [g4 16 (by decide) (by decide) (by decide)]; exact hk.2.2.1
    · intro j hj
      rw [j1 (220 + j) (by omega), fr_at f04 (by decide)]; exact hk.2.2.2 j hj
    · intro j hj hj2
      rw [fr_at f04 (by decide)]; exact hr j hj hj2
    · exact ⟨fr_at f1 (by decide), fr_at f1 (by decide), p1 4 (by decide), p1 21 (by decide)⟩
    · exact fr_at f04 (by decide)
  · rw [if_neg (show ¬ ¬ f_dy F = 99 by rw [z_eq]; omega), if_neg (show ¬ f_dy F < 99 by rw [z_lt]; omega)]
    exact ⟨_, A, C, rfl, rfl, ⟨d, F, ns, nv, nb, nk, hx⟩, SM_rfl, rfl⟩
end XX
