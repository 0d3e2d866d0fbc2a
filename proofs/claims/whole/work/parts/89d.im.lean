/-! 89d.im: image and undo: the model's loops, the class in the machine -/
section IMM
variable {N : Nat}
theorem m_im {q : Nat} : ∀ (r k : Nat) (A : mS), k + r = 947 → ∃ A' : mS, g_179_2 N (r + 1 + q) (Int32.ofNat k) A = some (A 0 11, A') ∧ A' 99 4 = 1 ∧ fr [1, 99] A A' ∧ f9 [4] A A' ∧ (∀ j, k ≤ j → j < 947 → A' 1 j = A 0 j) ∧ (∀ j, j < k → A' 1 j = A 1 j) := by
  intro r
  induction r with
  | zero =>
    intro k A hk
    have hk4 : k = 947 := by omega
    subst hk4
    rw [show 0 + 1 + q = q + 1 by omega]
    refine ⟨va_up A 99 (upd (A 99) 4 1), ?_, ?_, fr_up fr_rfl (by simp), f9_up (fun _ _ => rfl) (by simp), ?_, ?_⟩
    · show g_179_2b _ _ _ _ = _
      unfold g_179_2b
      simp only [e_bd, e_bdn, e_st, e_li, e_bs, e_opn, e_ops, e_ob, e_vo, e_ia, e_eq, e_ne, e_lt, e_ge, e_gt, e_le, cond_true, cond_false, Bool.cond_decide, show (947 : Int32) ≤ Int32.ofNat 947 by decide, if_true]
    · rw [va_up_self, upd_self]
    · intro j h1 h2
      omega
    · intro j _
      rw [va_up_ne _ _ (by decide)]
  | succ r ih =>
    intro k A hk
    rw [show r + 1 + 1 + q = (r + 1 + q) + 1 by omega]
    obtain ⟨A', e, h4, f, g, h1, h2⟩ := ih (k + 1) (va_up A 1 (upd (A 1) k (A 0 k))) (by omega)
    refine ⟨A', ?_, h4, fr_tr (fr_up fr_rfl (by simp)) f, fun i hi => (g i hi).trans (by rw [va_up_ne _ _ (by decide)]), ?_, ?_⟩
    · show g_179_2b _ _ _ _ = _
      unfold g_179_2b
      simp only [e_bd, e_bdn, e_st, e_li, e_bs, e_opn, e_ops, e_ob, e_vo, e_ia, e_eq, e_ne, e_lt, e_ge, e_gt, e_le, cond_true, cond_false, Bool.cond_decide, show ¬ (947 : Int32) ≤ Int32.ofNat (k) by rw [show (947 : Int32) = Int32.ofNat 947 from rfl, o_le (by omega) (by omega)]; omega, if_false, show a_in (Int32.ofNat (k)) 947 = true by rw [o_in (by omega)]; simp; omega, o_cl (show k < 2147483648 by omega), show Int32.ofNat (k) + 1 = Int32.ofNat (k + 1) from o_add (q := 1)]
      rw [e, va_up_ne _ _ (by decide)]
    · intro j hj1 hj2
      by_cases c : j = k
      · subst c
        rw [h2 _ (by omega), va_up_self, upd_self]
      · rw [h1 j (by omega) hj2, va_up_ne _ _ (by decide)]
    · intro j hj
      rw [h2 j (by omega), va_up_self, upd_ne _ _ (by omega)]
theorem m_un1 {q : Nat} : ∀ (r k : Nat) (A : mS), k + r = 947 → ∃ A' : mS, g_180_7 N (r + 1 + q) (Int32.ofNat k) A = some (A' 0 11, A') ∧ fr [0] A A' ∧ (∀ j, k ≤ j → j < 947 → A' 0 j = A 1 j) ∧ (∀ j, j < k → A' 0 j = A 0 j) := by
  intro r
  induction r with
  | zero =>
    intro k A hk
    have hk4 : k = 947 := by omega
    subst hk4
    rw [show 0 + 1 + q = q + 1 by omega]
    refine ⟨A, ?_, fr_rfl, ?_, ?_⟩
    · show g_180_7b _ _ _ _ = _
      unfold g_180_7b
      simp only [e_bd, e_bdn, e_st, e_li, e_bs, e_opn, e_ops, e_ob, e_vo, e_ia, e_eq, e_ne, e_lt, e_ge, e_gt, e_le, cond_true, cond_false, Bool.cond_decide, show (947 : Int32) ≤ Int32.ofNat 947 by decide, if_true]
    · intro j h1 h2
      omega
    · intro j _
      rfl
  | succ r ih =>
    intro k A hk
    rw [show r + 1 + 1 + q = (r + 1 + q) + 1 by omega]
    obtain ⟨A', e, f, h1, h2⟩ := ih (k + 1) (va_up A 0 (upd (A 0) k (A 1 k))) (by omega)
    refine ⟨A', ?_, fr_tr (fr_up fr_rfl (by simp)) f, ?_, ?_⟩
    · show g_180_7b _ _ _ _ = _
      unfold g_180_7b
      simp only [e_bd, e_bdn, e_st, e_li, e_bs, e_opn, e_ops, e_ob, e_vo, e_ia, e_eq, e_ne, e_lt, e_ge, e_gt, e_le, cond_true, cond_false, Bool.cond_decide, show ¬ (947 : Int32) ≤ Int32.ofNat (k) by rw [show (947 : Int32) = Int32.ofNat 947 from rfl, o_le (by omega) (by omega)]; omega, if_false, show a_in (Int32.ofNat (k)) 947 = true by rw [o_in (by omega)]; simp; omega, o_cl (show k < 2147483648 by omega), show Int32.ofNat (k) + 1 = Int32.ofNat (k + 1) from o_add (q := 1)]
      exact e
    · intro j hj1 hj2
      by_cases c : j = k
      · subst c
        rw [h2 _ (by omega), va_up_self, upd_self]
      · rw [h1 j (by omega) hj2, va_up_ne _ _ (by decide)]
    · intro j hj
      rw [h2 j (by omega), va_up_self, upd_ne _ _ (by omega)]
end IMM
/-- the state does not look further than the row's end, nor the rows' of the class -/
theorem XW_s {s s' : Nat → Int32} {K : mS} {P : Nat → Option Nat} {vl : Option Nat} {R : List aC} (e : ∀ j, j < 947 → s' j = s j) (h : XW s K P vl R) : XW s' K P vl R := by
  obtain ⟨d, F, ns, nv, nb, nk, ⟨hd, hf, hy, hM, hF, hC, hW⟩, hs, hv, hb, hk, hr⟩ := h
  have hn := hd.2.2.2.1
  have hfn := hd.2.2.2.2.2.2.2.1
  have hs1 := hs.1
  have hb1 := hb.1
  have hk1 := hk.1
  obtain ⟨h1, h2, h3, h4, h5, h6, h7⟩ := hM
  refine ⟨d, F, ns, nv, nb, nk, ⟨hd, hf, hy, ⟨?_, (e 11 (by omega)).trans h2, fun p hp => (e _ (by omega)).trans (h3 p hp), fun p hp => (e _ (by omega)).trans (h4 p hp), fun j hj => (e _ (by omega)).trans (h5 j hj), (e 13 (by omega)).trans h6, fun j hj => (e _ (by omega)).trans (h7 j hj)⟩, MF_c (fun j hj => e j (by omega)) hF, hC, hW⟩, ⟨hs.1, (e 16 (by omega)).trans hs.2.1, hs.2.2.1, fun j hj => by rw [e _ (by omega)]; exact hs.2.2.2 j hj⟩, ⟨hv.1, (e 12 (by omega)).trans hv.2.1, hv.2.2.1, by rw [e 17 (by omega)]; exact hv.2.2.2⟩, ⟨hb.1, (e 14 (by omega)).trans hb.2.1, hb.2.2.1, fun j hj => (e _ (by omega)).trans (hb.2.2.2 j hj)⟩, ⟨hk.1, (e 15 (by omega)).trans hk.2.1, hk.2.2.1, fun j hj => (e _ (by omega)).trans (hk.2.2.2 j hj)⟩, hr⟩
  rcases h1 with ⟨g1, g2⟩ | ⟨q, hq, g1, g8, g9, g10, g11, g12⟩
  · exact .inl ⟨(e 17 (by omega)).trans g1, g2⟩
  · exact .inr ⟨q, hq, (e 17 (by omega)).trans g1, (e _ (by omega)).trans g8, (e _ (by omega)).trans g9, (e _ (by omega)).trans g10, g11, sg_pre (fun j hj1 hj2 => e j (by omega)) g12⟩
theorem XW_k {s : Nat → Int32} {K K' : mS} {P P' : Nat → Option Nat} {vl : Option Nat} {R : List aC} (e9 : K' 90 = K 90) (e0 : ∀ j, j < 120 → K' 0 j = K 0 j) (e1 : ∀ j, j < 12 → K' 1 j = K 1 j) (e2 : ∀ j, j < 8 → K' 2 j = K 2 j) (e3 : ∀ j, j < 32 → K' 3 j = K 3 j) (e4 : ∀ j, j < 20 → K' 4 j = K 4 j) (e5 : ∀ j, j < 12 → K' 5 j = K 5 j) (ep : ∀ p, p < 8 → P' p = P p) (h : XW s K P vl R) : XW s K' P' vl R := by
  obtain ⟨d, F, ns, nv, nb, nk, ⟨hd, hf, hy, hM, hF, hC, hW⟩, hs, hv, hb, hk, hr⟩ := h
  have hn := hd.2.2.2.1
  have hfn := hd.2.2.2.2.2.2.2.1
  have hs1 := hs.1
  have hb1 := hb.1
  have hk1 := hk.1
  obtain ⟨c1, c2, c3, c4, c5, c6⟩ := hC
  refine ⟨d, F, ns, nv, nb, nk, ⟨hd, hf, hy, hM, hF, ⟨c1, by rw [e9]; exact c2, fun p hp => by rw [ep p (by omega)]; exact c3 p hp, fun j hj => by rw [e3 j (by omega)]; exact c4 j hj, by rw [e9]; exact c5, fun j hj => by rw [e1 j (by omega)]; exact c6 j hj⟩, ⟨by rw [e9]; exact hW.1, by rw [e9]; exact hW.2.1, by rw [e9]; exact hW.2.2.1, fun p hp => by rw [e2 p hp]; exact hW.2.2.2 p hp⟩⟩, ⟨hs.1, hs.2.1, by rw [e9]; exact hs.2.2.1, fun j hj => by rw [e0 j (by omega)]; exact hs.2.2.2 j hj⟩, ⟨hv.1, hv.2.1, by rw [e9]; exact hv.2.2.1, hv.2.2.2⟩, ⟨hb.1, hb.2.1, by rw [e9]; exact hb.2.2.1, fun j hj => by rw [e4 j (by omega)]; exact hb.2.2.2 j hj⟩, ⟨hk.1, hk.2.1, by rw [e9]; exact hk.2.2.1, fun j hj => by rw [e5 j (by omega)]; exact hk.2.2.2 j hj⟩, fun j hj hj2 => by rw [e3 j hj2]; exact hr j hj hj2⟩
theorem cpy_lt {f g : Nat → Int32} {n j : Nat} (h : j < n) : va_cpy f g 0 0 n j = f j := by
  unfold va_cpy
  rw [if_pos (by omega), show 0 + (j - 0) = j by omega]
theorem XW_nK {s : Nat → Int32} {K K0 : mS} {P P0 : Nat → Option Nat} {vl : Option Nat} {R : List aC} (h : XW s K P vl R) : XW s (nK K0 K) (pmx P0 P 8) vl R := by
  refine XW_k (K := K) (P := P) rfl (fun j hj => ?_) (fun j hj => ?_) (fun j hj => ?_) (fun j hj => ?_) (fun j hj => ?_) (fun j hj => ?_) (fun p hp => ?_) h
  · exact cpy_lt hj
  · exact cpy_lt hj
  · exact cpy_lt hj
  · exact cpy_lt hj
  · exact cpy_lt hj
  · exact cpy_lt hj
  · unfold pmx
    rw [if_pos hp]
theorem PO_nK {P P0 : Nat → Option Nat} {R : List aC} (h : PO P R) : PO (pmx P0 P 8) R := fun p a hp e => by
  unfold pmx at e
  rw [if_pos hp] at e
  exact h p a hp e
/-- other cells in the image's place -/
theorem wb_len (b : Nat) (K : mS) (P : Nat → Option Nat) (vl : Option Nat) : (wb b K P vl).length = 8 := rfl
theorem rw_at {R1 R2 L L' : List aC} (hl : L.length = 8) (hl' : L'.length = 8) {j : Nat} (h : j < R1.length ∨ R1.length + 8 ≤ j) : (R1 ++ (L' ++ R2))[j]? = (R1 ++ (L ++ R2))[j]? := by
  rcases h with h | h
  · rw [List.getElem?_append_left h, List.getElem?_append_left h]
  · rw [List.getElem?_append_right (by omega), List.getElem?_append_right (by omega), List.getElem?_append_right (by omega), List.getElem?_append_right (by omega), hl, hl']
theorem rw_in {R1 R2 L : List aC} {i : Nat} (h : i < L.length) : (R1 ++ (L ++ R2))[R1.length + i]? = L[i]? := by
  rw [List.getElem?_append_right (by omega), show R1.length + i - R1.length = i by omega, List.getElem?_append_left h]
section RW
variable {R1 R2 L' : List aC} {b : Nat} {K : mS} {P' : Nat → Option Nat} {vl' : Option Nat}
theorem bdr_rw (hl' : L'.length = 8) {a : Nat} {x : Nat × Int32 × Int32 × Int32} (h : bdr (R1 ++ (wb b K P' vl' ++ R2)) a = some x) : bdr (R1 ++ (L' ++ R2)) a = some x := by
  by_cases c : a - 33 < R1.length ∨ R1.length + 8 ≤ a - 33
  · unfold bdr at h ⊢
    rw [rw_at (wb_len b K P' vl') hl' c]
    exact h
  · exfalso
    obtain ⟨i, hi, e⟩ : ∃ i, i < 8 ∧ a - 33 = R1.length + i := ⟨a - 33 - R1.length, by omega, by omega⟩
    unfold bdr at h
    rw [e, rw_in (by rw [wb_len]; exact hi)] at h
    split at h
    · rcases (show i = 0 ∨ i = 1 ∨ i = 2 ∨ i = 3 ∨ i = 4 ∨ i = 5 ∨ i = 6 ∨ i = 7 by omega) with rfl | rfl | rfl | rfl | rfl | rfl | rfl | rfl <;> cases h
    · cases h
theorem vly_rw (hl' : L'.length = 8) {a : Nat} {x : Nat × Nat × Nat × Int32 × Int32} (h : vly (R1 ++ (wb b K P' vl' ++ R2)) a = some x) : vly (R1 ++ (L' ++ R2)) a = some x := by
  by_cases c : a - 33 < R1.length ∨ R1.length + 8 ≤ a - 33
  · unfold vly at h ⊢
    rw [rw_at (wb_len b K P' vl') hl' c]
    exact h
  · exfalso
    obtain ⟨i, hi, e⟩ : ∃ i, i < 8 ∧ a - 33 = R1.length + i := ⟨a - 33 - R1.length, by omega, by omega⟩
    unfold vly at h
    rw [e, rw_in (by rw [wb_len]; exact hi)] at h
    split at h
    · rcases (show i = 0 ∨ i = 1 ∨ i = 2 ∨ i = 3 ∨ i = 4 ∨ i = 5 ∨ i = 6 ∨ i = 7 by omega) with rfl | rfl | rfl | rfl | rfl | rfl | rfl | rfl <;> cases h
    · cases h
theorem iar_rw (hl' : L'.length = 8) {a : Nat} {x : Nat × (Nat → Int32)} (ha : a < R1.length + 33 ∨ R1.length + 33 + 8 ≤ a) (h : iar (R1 ++ (wb b K P' vl' ++ R2)) a = some x) : iar (R1 ++ (L' ++ R2)) a = some x := by
  unfold iar at h ⊢
  by_cases c : 33 ≤ a
  · rw [if_pos c] at h ⊢
    rw [rw_at (wb_len b K P' vl') hl' (by omega)]
    exact h
  · rw [if_neg c] at h
    cases h
theorem PO_rw (hl' : L'.length = 8) {P : Nat → Option Nat} (h : PO P (R1 ++ (wb b K P' vl' ++ R2))) : PO P (R1 ++ (L' ++ R2)) := fun p a hp e => by
  obtain ⟨ci, k, n, v, h1, h2⟩ := h p a hp e
  exact ⟨ci, k, n, v, bdr_rw hl' h1, h2⟩
theorem VF_rw (hl' : L'.length = 8) {vl : Option Nat} {w : Nat} (h : VF vl (R1 ++ (wb b K P' vl' ++ R2)) w) : VF vl (R1 ++ (L' ++ R2)) w := by
  rcases h with h | ⟨a, cr, er, ar, ru, gi, h1, h2, h3⟩
  · exact .inl h
  · exact .inr ⟨a, cr, er, ar, ru, gi, h1, vly_rw hl' h2, h3⟩
theorem XW_rw (hl' : L'.length = 8) {s : Nat → Int32} {C : mS} {P : Nat → Option Nat} {vl : Option Nat} (hv : VF vl (R1 ++ (wb b K P' vl' ++ R2)) (R1.length + 33)) (h : XW s C P vl (R1 ++ (wb b K P' vl' ++ R2))) : XW s C P vl (R1 ++ (L' ++ R2)) := by
  obtain ⟨d, F, ns, nv, nb, nk, ⟨hd, hf, hy, hM, hF, hC, hW⟩, hr⟩ := h
  refine ⟨d, F, ns, nv, nb, nk, ⟨hd, hf, hy, hM, hF, ⟨?_, hC.2.1, fun p hp => ?_, hC.2.2.2⟩, hW⟩, hr⟩
  · rcases hC.1 with h | ⟨a, cr, er, ar, fc, fe, fa, h1, h2, h3, h4, h5, h6⟩
    · exact .inl h
    · rcases hv with hv | ⟨a', cr', er', ar', ru', gi', g1, g2, g3⟩
      · rw [hv] at h1; cases h1
      · have ea : a = a' := Option.some.inj (h1.symm.trans g1)
        subst ea
        have eq := Option.some.inj (h2.symm.trans g2)
        obtain ⟨rfl, rfl, rfl, -⟩ : cr = cr' ∧ er = er' ∧ ar = ar' ∧ True := ⟨congrArg (fun z => z.1) eq, congrArg (fun z => z.2.1) eq, congrArg (fun z => z.2.2.1) eq, trivial⟩
        exact .inr ⟨a, cr, er, ar, fc, fe, fa, h1, vly_rw hl' h2, iar_rw hl' (g3 cr (.inl rfl)) h3, iar_rw hl' (g3 er (.inr (.inl rfl))) h4, iar_rw hl' (g3 ar (.inr (.inr rfl))) h5, h6⟩
  · obtain ⟨a, h1, h2⟩ := hC.2.2.1 p hp
    exact ⟨a, h1, bdr_rw hl' h2⟩
end RW
theorem iar_lt {R : List aC} {a : Nat} {x : Nat × (Nat → Int32)} (h : iar R a = some x) : a < R.length + 33 := by
  unfold iar at h
  split at h
  · rcases Nat.lt_or_ge (a - 33) R.length with q | q
    · omega
    · rw [List.getElem?_eq_none q] at h
      cases h
  · cases h
theorem VF_new {s : Nat → Int32} {C : mS} {P : Nat → Option Nat} {vl : Option Nat} {R : List aC} (h : XW s C P vl R) : VF vl R (R.length + 33) := by
  obtain ⟨d, F, ns, nv, nb, nk, ⟨hd, hf, hy, hM, hF, hC, hW⟩, hr⟩ := h
  rcases hC.1 with h | ⟨a, cr, er, ar, fc, fe, fa, h1, h2, h3, h4, h5, h6⟩
  · exact .inl h.1
  · refine .inr ⟨a, cr, er, ar, _, _, h1, h2, ?_⟩
    rintro x (rfl | rfl | rfl)
    · exact .inl (iar_lt h3)
    · exact .inl (iar_lt h4)
    · exact .inl (iar_lt h5)
