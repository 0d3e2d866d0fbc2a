/-! 85.pers: person, in the machine; model and class agree -/
section PE
variable {fz : Value} {sc : Nat × (Nat → Int32)} {P : Nat → Option Nat} {vl kp : Option Nat} {Mo : Nat → aC} {R : List aC} {C : mS} {d : Nat}
theorem k_kd {N : Nat} {x : Int32} : k_103 N P vl R x C = some (b_i (decide (0 ≤ x.toInt ∧ x.toInt ≤ 6)), C) := by
  have k0 : (0 : Int32).toInt = 0 := rfl
  have k7 : (7 : Int32).toInt = 7 := rfl
  unfold k_103
  simp only [e_bd, e_bdn, e_st, e_li, e_bs, e_opn, e_ops, e_ob, e_vo, e_ia, e_eq, e_ne, e_lt, e_ge, e_gt, e_le, cond_true, cond_false, Bool.cond_decide, z_lt, z_le, k0, k7]
  by_cases c1 : x.toInt < 0
  · rw [if_pos c1, decide_eq_false (by omega)]; rfl
  · rw [if_neg c1]
    by_cases c2 : (7 : Int) ≤ x.toInt
    · rw [if_pos c2, decide_eq_false (by omega)]; rfl
    · rw [if_neg c2, decide_eq_true (by omega)]; rfl
/-- behind person: who it was, what it has -/
def C80 (C : mS) (p : Nat) (x3 : Int32) : mS := va_up (va_up C 2 (upd (C 2) p x3)) 90 (upd (C 90) 12 (C 90 12 + 1))
def okP (x2 x3 : Int32) : Prop := (0 ≤ x2.toInt ∧ x2.toInt ≤ 9) ∧ (0 ≤ x3.toInt ∧ x3.toInt ≤ 999)
set_option maxRecDepth 100000 in
set_option maxHeartbeats 4000000 in
theorem kt_80 (hfz : fz = .null ∨ fz = .retAddr 60) (hd : 4 ≤ d) {p : Nat} (hp : C 90 12 = Int32.ofNat p) (hp8 : p ≤ 8) (x1 x2 x3 : Int32) : v_V fz sc d 80 0 [some (.ref 0), some (.int x1), some (.int x2), some (.int x3), none] [] (hX C P vl kp Mo R) (fun rv h' =>
    (¬ (0 ≤ x1.toInt ∧ x1.toInt ≤ 6) ∧ rv = some (.int (-1)) ∧ h' = hX C P vl kp Mo R) ∨ ((0 ≤ x1.toInt ∧ x1.toInt ≤ 6) ∧ ¬ okP x2 x3 ∧ rv = some (.int (-2)) ∧ h' = hX C P vl kp Mo R) ∨ ((0 ≤ x1.toInt ∧ x1.toInt ≤ 6) ∧ okP x2 x3 ∧ p = 8 ∧ rv = some (.int (-4)) ∧ h' = hX C P vl kp Mo R) ∨
    (∃ q, q ≤ 6 ∧ x1 = Int32.ofNat q ∧ okP x2 x3 ∧ p < 8 ∧ rv = some (.int (Int32.ofNat p)) ∧ h' = hX (C80 C p x3) (va_up P p (some (R.length + 33))) vl kp Mo (R ++ [.inr (k_cl q, [.int x1, .int (Int32.ofNat p), .int x2])]))) := by
  have k0 : (0 : Int32).toInt = 0 := rfl
  have k9 : (9 : Int32).toInt = 9 := rfl
  have k999 : (999 : Int32).toInt = 999 := rfl
  obtain ⟨d, rfl⟩ : ∃ z, d = z + 1 := ⟨d - 1, by omega⟩
  refine v_call 6 (k' := 103) (i' := 6) (E := [some (.int x1)]) (L' := [some (.ref 0), some (.int x1), some (.int x2), some (.int x3), some (.int (C 90 12))]) (rest := []) (h1 := hX C P vl kp Mo R) (fun _ => rfl) ?_
  refine v_post (kt_103 hfz 1 P vl kp Mo R d (by omega) x1 C _ _ k_kd) ?_
  rintro rv h' ⟨rfl, rfl⟩
  refine v_blk 1 (i' := (bif (a_ic .ne (b_i (decide (0 ≤ x1.toInt ∧ x1.toInt ≤ 6))) (0 : Int32)) then 9 else 7)) (L' := [some (.ref 0), some (.int x1), some (.int x2), some (.int x3), some (.int (C 90 12))]) (st' := []) (h' := hX C P vl kp Mo R) (fun _ => rfl) ?_
  by_cases c1 : 0 ≤ x1.toInt ∧ x1.toInt ≤ 6
  rotate_left
  · rw [decide_eq_false c1]
    refine v_ie (by decide) ?_
    exact v_ret 2 (fun _ => rfl) (.inl ⟨c1, rfl, rfl⟩)
  rw [decide_eq_true c1]
  refine v_it (by decide) ?_
  have bad : ¬ okP x2 x3 → v_V fz sc (d + 1) 80 19 [some (.ref 0), some (.int x1), some (.int x2), some (.int x3), some (.int (C 90 12))] [] (hX C P vl kp Mo R) (fun rv h' =>
    (¬ (0 ≤ x1.toInt ∧ x1.toInt ≤ 6) ∧ rv = some (.int (-1)) ∧ h' = hX C P vl kp Mo R) ∨ ((0 ≤ x1.toInt ∧ x1.toInt ≤ 6) ∧ ¬ okP x2 x3 ∧ rv = some (.int (-2)) ∧ h' = hX C P vl kp Mo R) ∨ ((0 ≤ x1.toInt ∧ x1.toInt ≤ 6) ∧ okP x2 x3 ∧ p = 8 ∧ rv = some (.int (-4)) ∧ h' = hX C P vl kp Mo R) ∨
    (∃ q, q ≤ 6 ∧ x1 = Int32.ofNat q ∧ okP x2 x3 ∧ p < 8 ∧ rv = some (.int (Int32.ofNat p)) ∧ h' = hX (C80 C p x3) (va_up P p (some (R.length + 33))) vl kp Mo (R ++ [.inr (k_cl q, [.int x1, .int (Int32.ofNat p), .int x2])]))) := fun hb => v_ret 2 (fun _ => rfl) (.inr (.inl ⟨c1, hb, rfl, rfl⟩))
  refine v_blk 2 (i' := (bif (a_ic .lt x2 (0 : Int32)) then 19 else 11)) (L' := [some (.ref 0), some (.int x1), some (.int x2), some (.int x3), some (.int (C 90 12))]) (st' := []) (h' := hX C P vl kp Mo R) (fun _ => rfl) ?_
  by_cases c2 : x2 < 0
  · exact v_it (decide_eq_true c2) (bad (fun h => by have := h.1.1; rw [z_lt] at c2; omega))
  refine v_ie (decide_eq_false c2) ?_
  refine v_blk 3 (i' := (bif (a_ic .gt x2 (9 : Int32)) then 19 else 14)) (L' := [some (.ref 0), some (.int x1), some (.int x2), some (.int x3), some (.int (C 90 12))]) (st' := []) (h' := hX C P vl kp Mo R) (fun _ => rfl) ?_
  by_cases c3 : 9 < x2
  · exact v_it (decide_eq_true c3) (bad (fun h => by have := h.1.2; rw [z_lt] at c3; omega))
  refine v_ie (decide_eq_false c3) ?_
  refine v_blk 2 (i' := (bif (a_ic .lt x3 (0 : Int32)) then 19 else 16)) (L' := [some (.ref 0), some (.int x1), some (.int x2), some (.int x3), some (.int (C 90 12))]) (st' := []) (h' := hX C P vl kp Mo R) (fun _ => rfl) ?_
  by_cases c4 : x3 < 0
  · exact v_it (decide_eq_true c4) (bad (fun h => by have := h.2.1; rw [z_lt] at c4; omega))
  refine v_ie (decide_eq_false c4) ?_
  refine v_blk 3 (i' := (bif (a_ic .le x3 (999 : Int32)) then 21 else 19)) (L' := [some (.ref 0), some (.int x1), some (.int x2), some (.int x3), some (.int (C 90 12))]) (st' := []) (h' := hX C P vl kp Mo R) (fun _ => rfl) ?_
  by_cases c5 : x3 ≤ 999
  rotate_left
  · exact v_ie (decide_eq_false c5) (bad (fun h => by have := h.2.2; rw [z_le] at c5; omega))
  refine v_it (decide_eq_true c5) ?_
  have hok : okP x2 x3 := by rw [z_lt] at c2 c3 c4; rw [z_le] at c5; exact ⟨⟨by omega, by omega⟩, by omega, by omega⟩
  refine v_blk 3 (i' := (bif (a_ic .lt (C 90 12) (8 : Int32)) then 26 else 24)) (L' := [some (.ref 0), some (.int x1), some (.int x2), some (.int x3), some (.int (C 90 12))]) (st' := []) (h' := hX C P vl kp Mo R) (fun _ => rfl) ?_
  have h8 : (C 90 12 < 8) ↔ p < 8 := by rw [hp, show (8 : Int32) = Int32.ofNat 8 from rfl, o_lt (by omega) (by omega)]
  by_cases c6 : p < 8
  rotate_left
  · refine v_ie (decide_eq_false (fun q => c6 (h8.mp q))) ?_
    exact v_ret 2 (fun _ => rfl) (.inr (.inr (.inl ⟨c1, hok, by omega, rfl, rfl⟩)))
  refine v_it (decide_eq_true (h8.mpr c6)) ?_
  obtain ⟨q, hq, rfl⟩ := o_ex (x := x1) (n := 7) c1.1 (by omega)
  refine v_call 8 (k' := 106) (i' := 34) (E := [some (.int (Int32.ofNat q)), some (.int (C 90 12)), some (.int x2)]) (L' := [some (.ref 0), some (.int (Int32.ofNat q)), some (.int x2), some (.int x3), some (.int (C 90 12))]) (rest := [.int (C 90 12), .ref 4]) (h1 := hX C P vl kp Mo R) (fun _ => rfl) ?_
  refine v_post (of_k (q := q) (by omega) (by omega)) ?_
  rintro rv h' ⟨rfl, rfl⟩
  have hcl : (a_in (C 90 12) 8 && List.contains [0, 1, 3, 4, 6, 7, 8] (k_cl q)) = true := by rw [k_cls (show q ≤ 6 by omega), hp, o_in (by omega), decide_eq_true c6]; rfl
  refine v_aa (v := (hX C P vl kp Mo R).length) (a := 4) (n := 8) (j := C 90 12) (ci := k_cl q) (fs := [.int (Int32.ofNat q), .int (C 90 12), .int x2]) (f := P) (r := []) (h' := hX C (va_up P (C 90 12).toNatClampNeg (some (R.length + 33))) vl kp Mo (R ++ [.inr (k_cl q, [.int (Int32.ofNat q), .int (C 90 12), .int x2])])) rfl rfl rfl rfl (l_at _ _) hcl rfl ?_
  refine v_blk 5 (i' := 40) (L' := [some (.ref 0), some (.int (Int32.ofNat q)), some (.int x2), some (.int x3), some (.int (C 90 12))]) (st' := [.int x3, .int (C 90 12), .ref 5]) (h' := hX C (va_up P (C 90 12).toNatClampNeg (some (R.length + 33))) vl kp Mo (R ++ [.inr (k_cl q, [.int (Int32.ofNat q), .int (C 90 12), .int x2])])) (fun _ => rfl) ?_
  refine v_is (a := 5) (n := 8) (j := C 90 12) (w := x3) (f := C 2) (r := []) (h' := hX (va_up C 2 (upd (C 2) (C 90 12).toNatClampNeg x3)) (va_up P (C 90 12).toNatClampNeg (some (R.length + 33))) vl kp Mo (R ++ [.inr (k_cl q, [.int (Int32.ofNat q), .int (C 90 12), .int x2])])) rfl rfl rfl rfl (by rw [hp, o_in (by omega), decide_eq_true c6]) rfl ?_
  refine v_blk 7 (i' := 48) (L' := [some (.ref 0), some (.int (Int32.ofNat q)), some (.int x2), some (.int x3), some (.int (C 90 12))]) (st' := []) (h' := hX (va_up (va_up C 2 (upd (C 2) (C 90 12).toNatClampNeg x3)) 90 (upd (C 90) 12 (C 90 12 + 1))) (va_up P (C 90 12).toNatClampNeg (some (R.length + 33))) vl kp Mo (R ++ [.inr (k_cl q, [.int (Int32.ofNat q), .int (C 90 12), .int x2])])) (fun _ => rfl) ?_
  refine v_ret 2 (fun _ => rfl) (.inr (.inr (.inr ⟨q, by omega, rfl, hok, c6, ?_, ?_⟩)))
  · rw [hp]
  · unfold C80
    rw [hp, o_cl (by omega)]
end PE
theorem bdr_app {R : List aC} {a : Nat} {x : Nat × Int32 × Int32 × Int32} (c : List aC) (h : bdr R a = some x) : bdr (R ++ c) a = some x := by
  unfold bdr at h ⊢
  split at h
  · rename_i ha
    rw [if_pos ha]
    split at h
    · rename_i hr
      have hl : a - 33 < R.length := by
        rcases Nat.lt_or_ge (a - 33) R.length with q | q
        · exact q
        · rw [List.getElem?_eq_none q] at hr; cases hr
      rw [List.getElem?_append_left hl, hr]
      exact h
    · cases h
  · cases h
theorem vly_app {R : List aC} {a : Nat} {x : Nat × Nat × Nat × Int32 × Int32} (c : List aC) (h : vly R a = some x) : vly (R ++ c) a = some x := by
  unfold vly at h ⊢
  split at h
  · rename_i ha
    rw [if_pos ha]
    split at h
    · rename_i hr
      have hl : a - 33 < R.length := by
        rcases Nat.lt_or_ge (a - 33) R.length with q | q
        · exact q
        · rw [List.getElem?_eq_none q] at hr; cases hr
      rw [List.getElem?_append_left hl, hr]
      exact h
    · cases h
  · cases h
theorem iar_app {R : List aC} {a : Nat} {x : Nat × (Nat → Int32)} (c : List aC) (h : iar R a = some x) : iar (R ++ c) a = some x := by
  unfold iar at h ⊢
  split at h
  · rename_i ha
    rw [if_pos ha]
    split at h
    · rename_i hr
      have hl : a - 33 < R.length := by
        rcases Nat.lt_or_ge (a - 33) R.length with q | q
        · exact q
        · rw [List.getElem?_eq_none q] at hr; cases hr
      rw [List.getElem?_append_left hl, hr]
      exact h
    · cases h
  · cases h
theorem CV_app {vl : Option Nat} {R : List aC} {V : List cl} {ru gi : Int32} (c : List aC) (h : CV vl R V ru gi) : CV vl (R ++ c) V ru gi := by
  rcases h with h | ⟨a, cr, er, ar, fc, fe, fa, h1, h2, h3, h4, h5, h6⟩
  · exact .inl h
  · exact .inr ⟨a, cr, er, ar, fc, fe, fa, h1, vly_app c h2, iar_app c h3, iar_app c h4, iar_app c h5, h6⟩
theorem CD_app {C : mS} {P : Nat → Option Nat} {vl : Option Nat} {R : List aC} {d : dS} (c : List aC) (h : CD C P vl R d) : CD C P vl (R ++ c) d := by
  refine ⟨CV_app c h.1, h.2.1, fun p hp => ?_, h.2.2.2⟩
  obtain ⟨a, h1, h2⟩ := h.2.2.1 p hp
  exact ⟨a, h1, bdr_app c h2⟩
theorem XR_app {s : Nat → Int32} {K : mS} {P : Nat → Option Nat} {vl : Option Nat} {R : List aC} {d : dS} {F : fS} {ns nv nb nk : Nat} (c : List aC) (h : XR s K P vl R d F ns nv nb nk) : XR s K P vl (R ++ c) d F ns nv nb nk := ⟨⟨h.1.1, h.1.2.1, h.1.2.2.1, h.1.2.2.2.1, h.1.2.2.2.2.1, CD_app c h.1.2.2.2.2.2.1, h.1.2.2.2.2.2.2⟩, h.2⟩
theorem XW_app {s : Nat → Int32} {K : mS} {P : Nat → Option Nat} {vl : Option Nat} {R : List aC} (c : List aC) (h : XW s K P vl R) : XW s K P vl (R ++ c) := by
  obtain ⟨d, F, ns, nv, nb, nk, h⟩ := h
  exact ⟨d, F, ns, nv, nb, nk, XR_app c h⟩
