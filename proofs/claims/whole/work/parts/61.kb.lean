/-! 61.kb: the class's bids -/
def CF (C : mS) (F : fS) : Prop := C 92 7 = f_dy F ∧ C 92 8 = f_ah F ∧ C 92 6 = f_tu F ∧ ∀ p, p < 8 → C 9 p = f_pu F p
def CS (C : mS) (P : Nat → Option Nat) (vl : Option Nat) (R : List aC) (d : dS) (F : fS) : Prop := CD C P vl R d ∧ CF C F
theorem CD_fr {C C' : mS} {P : Nat → Option Nat} {vl : Option Nat} {R : List aC} {d : dS} {S : List Nat} (h : CD C P vl R d) (hf : fr S C C') (h1 : 1 ∉ S) (h3 : 3 ∉ S) (h9 : 90 ∉ S) : CD C' P vl R d := by
  unfold CD
  rw [fr_at hf h1, fr_at hf h3, fr_at hf h9]
  exact h
theorem CS_fr {C C' : mS} {P : Nat → Option Nat} {vl : Option Nat} {R : List aC} {d : dS} {F : fS} {S : List Nat} (h : CS C P vl R d F) (hf : fr S C C') (h1 : 1 ∉ S) (h3 : 3 ∉ S) (h9 : 9 ∉ S) (h90 : 90 ∉ S) (h92 : 92 ∉ S) : CS C' P vl R d F := by
  refine ⟨CD_fr h.1 hf h1 h3 h90, ?_⟩
  unfold CF
  rw [fr_at hf h9, fr_at hf h92]
  exact h.2
def f2 (T : List Nat) (A A' : mS) : Prop := ∀ f, f ∉ T → A' 92 f = A 92 f
theorem f2_rfl {T : List Nat} {A : mS} : f2 T A A := fun _ _ => rfl
theorem f2_tr {T : List Nat} {A B D : mS} (h1 : f2 T A B) (h2 : f2 T B D) : f2 T A D := fun j hj => (h2 j hj).trans (h1 j hj)
theorem f2_fr {T S : List Nat} {A B : mS} (h : fr S A B) (hs : 92 ∉ S) : f2 T A B := fun j _ => by rw [h 92 hs]
theorem f2_up {T : List Nat} {A B : mS} {f : Nat} {x : Int32} (h : f2 T A B) (hf : f ∈ T) : f2 T A (va_up B 92 (upd (B 92) f x)) := fun i hi => by
  have hne : i ≠ f := fun e => hi (by rw [e]; exact hf)
  rw [va_up_self, upd_ne _ _ hne]
  exact h i hi
theorem f2_mono {S T : List Nat} {A B : mS} (h : f2 S A B) (hs : ∀ j, j ∈ S → j ∈ T) : f2 T A B := fun i hi => h i (fun e => hi (hs i e))
theorem CS_f2 {C C' : mS} {P : Nat → Option Nat} {vl : Option Nat} {R : List aC} {d : dS} {F : fS} {S T : List Nat} (h : CS C P vl R d F) (hf : fr S C C') (h1 : 1 ∉ S) (h3 : 3 ∉ S) (h9 : 9 ∉ S) (h90 : 90 ∉ S) (h92 : f2 T C C') (t6 : 6 ∉ T) (t7 : 7 ∉ T) (t8 : 8 ∉ T) : CS C' P vl R d F := by
  refine ⟨CD_fr h.1 hf h1 h3 h90, ?_⟩
  unfold CF
  rw [fr_at hf h9, h92 6 t6, h92 7 t7, h92 8 t8]
  exact h.2
section KB
variable {N : Nat} {d : dS} {F : fS} {C : mS} {P : Nat → Option Nat} {vl : Option Nat} {R : List aC}
theorem k_is (hn : d_n d ≤ 8) (hC : CD C P vl R d) {x : Int32} : k_69 N P vl R x C = some (b_i (decide (0 ≤ x.toInt ∧ x.toInt < d_n d)), C) := by
  have k0 : (0 : Int32).toInt = 0 := rfl
  have hz := z_ofNat (show d_n d < 2147483648 by omega)
  unfold k_69
  simp only [e_bd, e_bdn, e_st, e_li, e_bs, e_opn, e_ops, e_ob, e_vo, e_ia, e_eq, e_ne, e_lt, e_ge, e_gt, e_le, cond_true, cond_false, Bool.cond_decide, hC.2.1, z_lt, z_le, k0, hz]
  by_cases c1 : x.toInt < 0
  · rw [if_pos c1, decide_eq_false (by omega)]; rfl
  · rw [if_neg c1]
    by_cases c2 : (d_n d : Int) ≤ x.toInt
    · rw [if_pos c2, decide_eq_false (by omega)]; rfl
    · rw [if_neg c2, decide_eq_true (by omega)]; rfl
theorem k_one (hn : d_n d ≤ 8) (hC : CD C P vl R d) {p : Nat} (hp : p < d_n d) : ∃ a, k_70 N P vl R (Int32.ofNat p) C = some (some a, C) ∧ bdr R a = some (k_cl (d_kd d p), Int32.ofNat (d_kd d p), Int32.ofNat p, Int32.ofNat (d_vv d p)) := by
  obtain ⟨a, h1, h2⟩ := hC.2.2.1 p hp
  refine ⟨a, ?_, h2⟩
  unfold k_70
  rw [k_is hn hC, z_ofNat (by omega), decide_eq_true (by omega)]
  simp only [e_bd, e_bdn, e_st, e_li, e_bs, e_opn, e_ops, e_ob, e_vo, e_ia, e_eq, e_ne, e_lt, e_ge, e_gt, e_le, cond_true, cond_false, Bool.cond_decide, show ¬ b_i true = 0 by decide, if_false, show a_in (Int32.ofNat (p)) 8 = true by rw [o_in (by omega)]; simp; omega, o_cl (show p < 2147483648 by omega), h1]
theorem k_no (hn : d_n d ≤ 8) (hC : CD C P vl R d) {x : Int32} (hx : ¬ (0 ≤ x.toInt ∧ x.toInt < d_n d)) : k_70 N P vl R x C = some (none, C) := by
  unfold k_70
  rw [k_is hn hC, decide_eq_false hx]
  simp only [e_bd, e_bdn, e_st, e_li, e_bs, e_opn, e_ops, e_ob, e_vo, e_ia, e_eq, e_ne, e_lt, e_ge, e_gt, e_le, cond_true, cond_false, Bool.cond_decide, show b_i false = 0 from rfl, if_true]
theorem k_cls {k : Nat} (hk : k ≤ 6) : List.contains [0, 1, 3, 4, 6, 7, 8] (k_cl k) = true := by
  rcases (show k = 0 ∨ k = 1 ∨ k = 2 ∨ k = 3 ∨ k = 4 ∨ k = 5 ∨ k = 6 by omega) with rfl | rfl | rfl | rfl | rfl | rfl | rfl <;> rfl
theorem k_now (hN : 200 ≤ N) (hd : d_ok d) (hC : CS C P vl R d F) {p a : Nat} (hp : p < d_n d) (ha : bdr R a = some (k_cl (d_kd d p), Int32.ofNat (d_kd d p), Int32.ofNat p, Int32.ofNat (d_vv d p))) {w : Int32} : ∃ C', k_32 N P vl R (some a) w (C 92 7) (C 92 8) C = some (w_now d F p w, C') ∧ fr [12] C C' := by
  obtain ⟨C1, e, hf⟩ := kw_worth (C := C) (P := P) (w := w) (y := C 92 8) (dy := C 92 7) (N := N) (by omega) hd.1 hC.1.1 ha (hd.2.2.2.2.1 p hp)
  refine ⟨C1, ?_, hf⟩
  rw [e, hC.2.1, hC.2.2.1]
  rfl
theorem CS12 {C' : mS} (h : CS C P vl R d F) (hf : fr [12] C C') : CS C' P vl R d F := CS_fr h hf (by decide) (by decide) (by decide) (by decide) (by decide)
theorem k_lg (hN : 200 ≤ N) (hd : d_ok d) (hC : CS C P vl R d F) {p a : Nat} (hp : p < d_n d) (ha : bdr R a = some (k_cl (d_kd d p), Int32.ofNat (d_kd d p), Int32.ofNat p, Int32.ofNat (d_vv d p))) {w : Int32} : ∃ C', k_34 N P vl R a w C = some (b_lg d F p w, C') ∧ fr [12] C C' := by
  have hn := hd.2.2.2.1
  have hv9 := hd.2.2.2.2.2.1 p hp
  have hk6 := hd.2.2.2.2.1 p hp
  obtain ⟨C1, e1, f1⟩ := k_now (w := w) hN hd hC hp ha
  have S1 := CS12 hC f1
  unfold k_34
  simp only [e1, e_bd, e_bdn, e_st, e_li, e_bs, e_opn, e_ops, e_ob, e_vo, e_ia, e_eq, e_ne, e_lt, e_ge, e_gt, e_le, cond_true, cond_false, Bool.cond_decide, ha, k_cls hk6, k_28, o_eq (show d_vv d p < 2147483648 by omega) (show p < 2147483648 by omega)]
  unfold b_lg
  by_cases c1 : d_vv d p < d_n d
  · obtain ⟨b, e2, hb⟩ := k_one (N := N) hn S1.1 c1
    have hk6' := hd.2.2.2.2.1 (d_vv d p) c1
    simp only [e2, e_bd, e_bdn, e_st, e_li, e_bs, e_opn, e_ops, e_ob, e_vo, e_ia, e_eq, e_ne, e_lt, e_ge, e_gt, e_le, cond_true, cond_false, Bool.cond_decide, hb]
    by_cases c2 : d_vv d p = p
    · rw [if_pos c2, if_neg (by omega)]
      exact ⟨C1, rfl, f1⟩
    · rw [if_neg c2]
      obtain ⟨C2, e3, f3⟩ := k_now (w := w) hN hd S1 c1 hb
      have hct : (List.contains [3, 7, 8] (k_cl (d_kd d (d_vv d p))) || List.contains [0, 1, 4, 6] (k_cl (d_kd d (d_vv d p)))) = true ∧ List.contains [3, 7, 8] (k_cl (d_kd d (d_vv d p))) = decide (d_kd d (d_vv d p) = 2 ∨ 5 ≤ d_kd d (d_vv d p)) := by
        generalize d_kd d (d_vv d p) = k at hk6'
        rcases (show k = 0 ∨ k = 1 ∨ k = 2 ∨ k = 3 ∨ k = 4 ∨ k = 5 ∨ k = 6 by omega) with rfl | rfl | rfl | rfl | rfl | rfl | rfl <;> decide
      rw [hct.1, hct.2, e3]
      simp only [e_bd, e_bdn, e_st, e_li, e_bs, e_opn, e_ops, e_ob, e_vo, e_ia, e_eq, e_ne, e_lt, e_ge, e_gt, e_le, cond_true, cond_false, Bool.cond_decide]
      by_cases c3 : d_kd d (d_vv d p) = 2 ∨ 5 ≤ d_kd d (d_vv d p)
      · rw [if_pos (show d_vv d p < d_n d ∧ d_vv d p ≠ p ∧ _ from ⟨c1, c2, c3⟩)]
        simp only [c3, if_true, show ¬ (1 : Int32) = 0 by decide, not_false_eq_true]
        exact ⟨C2, rfl, fr_tr f1 f3⟩
      · rw [if_neg (show ¬ (d_vv d p < d_n d ∧ d_vv d p ≠ p ∧ _) from fun h => c3 h.2.2)]
        simp only [c3, if_false, not_true]
        exact ⟨C1, rfl, f1⟩
  · rw [k_no hn S1.1 (by rw [z_ofNat (by omega)]; omega), if_neg (fun h => c1 h.1)]
    simp only [e_bd, e_bdn, e_st, e_li, e_bs, e_opn, e_ops, e_ob, e_vo, e_ia, e_eq, e_ne, e_lt, e_ge, e_gt, e_le, cond_true, cond_false, Bool.cond_decide]
    refine ⟨C1, ?_, f1⟩
    split <;> rfl
theorem k_ah1 (hN : 200 ≤ N) (hd : d_ok d) (hC : CS C P vl R d F) {p a : Nat} (hp : p < d_n d) (ha : bdr R a = some (k_cl (d_kd d p), Int32.ofNat (d_kd d p), Int32.ofNat p, Int32.ofNat (d_vv d p))) {w x : Int32} {u n : Nat} (hu : u < 4) : ∃ C', k_1_12 N P vl R (n + 1) a w x (Int32.ofNat u) C = k_1_12 N P vl R n a w (i_mx x (w_at d p (Int32.ofNat u) w (f_dy F + 1))) (Int32.ofNat (u + 1)) C' ∧ fr [12] C C' := by
  obtain ⟨C1, e, hf⟩ := kw_worth (C := C) (P := P) (w := Int32.ofNat u) (y := w) (dy := f_dy F + 1) (N := N) (by omega) hd.1 hC.1.1 ha (hd.2.2.2.2.1 p hp)
  refine ⟨C1, ?_, hf⟩
  show k_1_12b N P vl R (k_1_12 N P vl R n) _ _ _ _ _ = _
  unfold k_1_12b
  simp only [e_bd, e_bdn, e_st, e_li, e_bs, e_opn, e_ops, e_ob, e_vo, e_ia, e_eq, e_ne, e_lt, e_ge, e_gt, e_le, cond_true, cond_false, Bool.cond_decide, show ¬ (4 : Int32) ≤ Int32.ofNat (u) by rw [show (4 : Int32) = Int32.ofNat 4 from rfl, o_le (by omega) (by omega)]; omega, if_false, hC.2.1, e, show Int32.ofNat (u) + 1 = Int32.ofNat (u + 1) from o_add (q := 1)]
  rfl
theorem k_ah (hN : 200 ≤ N) (hd : d_ok d) (hC : CS C P vl R d F) {p a : Nat} (hp : p < d_n d) (ha : bdr R a = some (k_cl (d_kd d p), Int32.ofNat (d_kd d p), Int32.ofNat p, Int32.ofNat (d_vv d p))) {w : Int32} : ∃ C', k_1 N P vl R a w C = some (b_ah d F p w, C') ∧ fr [12] C C' := by
  obtain ⟨n, rfl⟩ : ∃ n, N = n + 4 := ⟨N - 4, by omega⟩
  obtain ⟨C1, e1, f1⟩ := kw_worth (C := C) (P := P) (w := 0) (y := w) (dy := f_dy F + 1) (N := n + 4) (by omega) hd.1 hC.1.1 ha (hd.2.2.2.2.1 p hp)
  have S1 := CS12 hC f1
  obtain ⟨C2, e2, f2⟩ := k_ah1 (w := w) (x := w_at d p 0 w (f_dy F + 1)) (n := n + 3) hN hd S1 hp ha (show 1 < 4 by omega)
  have S2 := CS12 S1 f2
  obtain ⟨C3, e3, f3⟩ := k_ah1 (w := w) (x := i_mx (w_at d p 0 w (f_dy F + 1)) (w_at d p (Int32.ofNat 1) w (f_dy F + 1))) (n := n + 2) hN hd S2 hp ha (show 2 < 4 by omega)
  have S3 := CS12 S2 f3
  obtain ⟨C4, e4, f4⟩ := k_ah1 (w := w) (x := i_mx (i_mx (w_at d p 0 w (f_dy F + 1)) (w_at d p (Int32.ofNat 1) w (f_dy F + 1))) (w_at d p (Int32.ofNat 2) w (f_dy F + 1))) (n := n + 1) hN hd S3 hp ha (show 3 < 4 by omega)
  have S4 := CS12 S3 f4
  obtain ⟨C5, e5, f5⟩ := k_now (w := w) hN hd S4 hp ha
  refine ⟨C5, ?_, fr_tr f1 (fr_tr f2 (fr_tr f3 (fr_tr f4 f5)))⟩
  unfold k_1
  rw [hC.2.1, e1]
  simp only [e_bd, e_bdn, e_st, e_li, e_bs, e_opn, e_ops, e_ob, e_vo, e_ia, e_eq, e_ne, e_lt, e_ge, e_gt, e_le, cond_true, cond_false, Bool.cond_decide]
  rw [show (1 : Int32) = Int32.ofNat 1 from rfl] at e2 e3 e4 ⊢
  rw [show k_1_12 (n + 4) P vl R (n + 4) = k_1_12 (n + 4) P vl R (n + 3 + 1) from rfl, e2, e3, e4]
  show k_1_12b _ _ _ _ _ _ _ _ _ _ = _
  unfold k_1_12b
  simp only [e_bd, e_bdn, e_st, e_li, e_bs, e_opn, e_ops, e_ob, e_vo, e_ia, e_eq, e_ne, e_lt, e_ge, e_gt, e_le, cond_true, cond_false, Bool.cond_decide, show (4 : Int32) ≤ Int32.ofNat (3 + 1) by decide, if_true, e5, ha, k_cls (hd.2.2.2.2.1 p hp)]
  rfl
theorem k_lo (hN : 200 ≤ N) (hd : d_ok d) (hC : CS C P vl R d F) {p a : Nat} (hp : p < d_n d) (ha : bdr R a = some (k_cl (d_kd d p), Int32.ofNat (d_kd d p), Int32.ofNat p, Int32.ofNat (d_vv d p))) {w : Int32} : ∃ C', k_37 N P vl R a w C = some (b_lo d F p w, C') ∧ fr [12] C C' := by
  have hv9 := hd.2.2.2.2.2.1 p hp
  obtain ⟨C1, e1, f1⟩ := k_now (w := w) hN hd hC hp ha
  refine ⟨C1, ?_, f1⟩
  have hz : ¬ Int32.ofNat (d_vv d p) + 1 = 0 := by
    rw [show Int32.ofNat (d_vv d p) + 1 = Int32.ofNat (d_vv d p + 1) from o_add (q := 1), show (0 : Int32) = Int32.ofNat 0 from rfl, o_eq (by omega) (by omega)]; omega
  have h0 : (0 : Int32) ≤ Int32.ofNat (d_vv d p) := by rw [show (0 : Int32) = Int32.ofNat 0 from rfl, o_le (by omega) (by omega)]; omega
  unfold k_37
  simp only [e1, e_bd, e_bdn, e_st, e_li, e_bs, e_opn, e_ops, e_ob, e_vo, e_ia, e_eq, e_ne, e_lt, e_ge, e_gt, e_le, cond_true, cond_false, Bool.cond_decide, ha, k_cls (hd.2.2.2.2.1 p hp), h0, hz, if_true, not_false_eq_true]
  rfl
theorem k_sh1 (hN : 200 ≤ N) (hd : d_ok d) (hC : CS C P vl R d F) {p a : Nat} (hp : p < d_n d) (ha : bdr R a = some (k_cl (d_kd d p), Int32.ofNat (d_kd d p), Int32.ofNat p, Int32.ofNat (d_vv d p))) {w u n : Nat} (hw : w < 4) (hu : u < 4) : ∃ C', k_59_7 N P vl R (n + 1) a (Int32.ofNat w) (b_lg d F p (Int32.ofNat w)) (Int32.ofNat u) C = (if b_less d F p w u then some (0, C') else k_59_7 N P vl R n a (Int32.ofNat w) (b_lg d F p (Int32.ofNat w)) (Int32.ofNat (u + 1)) C') ∧ fr [12] C C' := by
  obtain ⟨C1, e, hf⟩ := k_lg (w := Int32.ofNat u) hN hd hC hp ha
  refine ⟨C1, ?_, hf⟩
  show k_59_7b N P vl R (k_59_7 N P vl R n) _ _ _ _ _ = _
  unfold k_59_7b b_less
  simp only [e_bd, e_bdn, e_st, e_li, e_bs, e_opn, e_ops, e_ob, e_vo, e_ia, e_eq, e_ne, e_lt, e_ge, e_gt, e_le, cond_true, cond_false, Bool.cond_decide, show ¬ (4 : Int32) ≤ Int32.ofNat (u) by rw [show (4 : Int32) = Int32.ofNat 4 from rfl, o_le (by omega) (by omega)]; omega, if_false, ha, e, show Int32.ofNat (u) + 1 = Int32.ofNat (u + 1) from o_add (q := 1), o_le (show w < 2147483648 by omega) (show u < 2147483648 by omega)]
  by_cases c1 : b_lg d F p (Int32.ofNat w) < b_lg d F p (Int32.ofNat u)
  · simp only [c1, if_true, decide_true, Bool.true_or]
  · by_cases c2 : b_lg d F p (Int32.ofNat u) = b_lg d F p (Int32.ofNat w)
    · by_cases c3 : u < w
      · have c3' : ¬ w ≤ u := by omega
        simp only [c1, c2, c3, c3', if_true, if_false, decide_true, decide_false, Bool.false_or, Bool.true_and, not_true]
        simp
      · have c3' : w ≤ u := by omega
        simp only [c1, c2, c3, c3', if_true, if_false, decide_true, decide_false, Bool.false_or, Bool.true_and, not_true]
        simp
    · simp only [c1, c2, if_true, if_false, decide_false, Bool.false_or, Bool.false_and, not_false_eq_true]
      simp
theorem k_sh (hN : 200 ≤ N) (hd : d_ok d) (hC : CS C P vl R d F) {p a : Nat} (hp : p < d_n d) (ha : bdr R a = some (k_cl (d_kd d p), Int32.ofNat (d_kd d p), Int32.ofNat p, Int32.ofNat (d_vv d p))) {w : Nat} (hw : w < 4) : ∃ C', k_59 N P vl R a (Int32.ofNat w) C = some (b_sh d F p w, C') ∧ fr [12] C C' := by
  obtain ⟨n, rfl⟩ : ∃ n, N = n + 5 := ⟨N - 5, by omega⟩
  obtain ⟨C1, e1, f1⟩ := k_lg (w := Int32.ofNat w) hN hd hC hp ha
  have S1 := CS12 hC f1
  obtain ⟨C2, e2, f2⟩ := k_sh1 (n := n + 4) hN hd S1 hp ha hw (show 0 < 4 by omega)
  have S2 := CS12 S1 f2
  obtain ⟨C3, e3, f3⟩ := k_sh1 (n := n + 3) hN hd S2 hp ha hw (show 1 < 4 by omega)
  have S3 := CS12 S2 f3
  obtain ⟨C4, e4, f4⟩ := k_sh1 (n := n + 2) hN hd S3 hp ha hw (show 2 < 4 by omega)
  have S4 := CS12 S3 f4
  obtain ⟨C5, e5, f5⟩ := k_sh1 (n := n + 1) hN hd S4 hp ha hw (show 3 < 4 by omega)
  unfold k_59
  simp only [ha, e_bd, e_bdn, e_st, e_li, e_bs, e_opn, e_ops, e_ob, e_vo, e_ia, e_eq, e_ne, e_lt, e_ge, e_gt, e_le, cond_true, cond_false, Bool.cond_decide, e1]
  rw [show (0 : Int32) = Int32.ofNat 0 from rfl, show k_59_7 (n + 5) P vl R (n + 5) = k_59_7 (n + 5) P vl R (n + 4 + 1) from rfl, e2]
  unfold b_sh
  by_cases c0 : b_less d F p w 0
  · rw [if_pos c0]
    exact ⟨C2, by simp [c0], fr_tr f1 f2⟩
  · rw [if_neg c0, e3]
    by_cases c1 : b_less d F p w 1
    · rw [if_pos c1]
      exact ⟨C3, by simp [c1], fr_tr f1 (fr_tr f2 f3)⟩
    · rw [if_neg c1, e4]
      by_cases c2 : b_less d F p w 2
      · rw [if_pos c2]
        exact ⟨C4, by simp [c2], fr_tr f1 (fr_tr f2 (fr_tr f3 f4))⟩
      · rw [if_neg c2, e5]
        by_cases c3 : b_less d F p w 3
        · rw [if_pos c3]
          exact ⟨C5, by simp [c3], fr_tr f1 (fr_tr f2 (fr_tr f3 (fr_tr f4 f5)))⟩
        · rw [if_neg c3]
          refine ⟨C5, ?_, fr_tr f1 (fr_tr f2 (fr_tr f3 (fr_tr f4 f5)))⟩
          show k_59_7b _ _ _ _ _ _ _ _ _ _ = _
          unfold k_59_7b
          simp only [e_bd, e_bdn, e_st, e_li, e_bs, e_opn, e_ops, e_ob, e_vo, e_ia, e_eq, e_ne, e_lt, e_ge, e_gt, e_le, cond_true, cond_false, Bool.cond_decide, show (4 : Int32) ≤ Int32.ofNat (3 + 1) by decide, if_true, c0, c1, c2, c3]
          rfl
/-- what one wishes, by its class -/
theorem k_wish (hN : 200 ≤ N) (hd : d_ok d) (hC : CS C P vl R d F) {p a : Nat} (hp : p < d_n d) (ha : bdr R a = some (k_cl (d_kd d p), Int32.ofNat (d_kd d p), Int32.ofNat p, Int32.ofNat (d_vv d p))) {w : Nat} (hw : w < 4) : ∃ C', (if k_cl (d_kd d p) = 0 then k_1 N P vl R a (Int32.ofNat w) C else if k_cl (d_kd d p) = 1 then k_4 N P vl R a (Int32.ofNat w) C else if k_cl (d_kd d p) = 3 then k_34 N P vl R a (Int32.ofNat w) C else if k_cl (d_kd d p) = 4 then k_37 N P vl R a (Int32.ofNat w) C else if k_cl (d_kd d p) = 6 then k_56 N P vl R a (Int32.ofNat w) C else if k_cl (d_kd d p) = 7 then k_59 N P vl R a (Int32.ofNat w) C else if k_cl (d_kd d p) = 8 then k_62 N P vl R a (Int32.ofNat w) C else none) = some (b_wi d F p w, C') ∧ fr [12] C C' := by
  have hn := hd.2.2.2.1
  have hk6 := hd.2.2.2.2.1 p hp
  unfold b_wi
  rcases (show d_kd d p = 0 ∨ d_kd d p = 1 ∨ d_kd d p = 2 ∨ d_kd d p = 3 ∨ d_kd d p = 4 ∨ d_kd d p = 5 ∨ d_kd d p = 6 by omega) with hk | hk | hk | hk | hk | hk | hk
  · obtain ⟨C1, e1, f1⟩ := k_now (w := Int32.ofNat w) hN hd hC hp ha
    refine ⟨C1, ?_, f1⟩
    rw [hk]
    simp [k_cl, k_4, e1, e_bd, e_bdn, e_st, e_li, e_bs, e_opn, e_ops, e_ob, e_vo, e_ia, e_eq, e_ne, e_lt, e_ge, e_gt, e_le, cond_true, cond_false, Bool.cond_decide]
  · obtain ⟨C1, e1, f1⟩ := k_lo (w := Int32.ofNat w) hN hd hC hp ha
    refine ⟨C1, ?_, f1⟩
    rw [hk]
    simp [k_cl, e1]
  · obtain ⟨C1, e1, f1⟩ := k_lg (w := Int32.ofNat w) hN hd hC hp ha
    refine ⟨C1, ?_, f1⟩
    rw [hk]
    simp [k_cl, e1]
  · obtain ⟨C1, e1, f1⟩ := k_ah (w := Int32.ofNat w) hN hd hC hp ha
    refine ⟨C1, ?_, f1⟩
    rw [hk]
    simp [k_cl, e1]
  · obtain ⟨C1, e1, f1⟩ := k_lo (w := Int32.ofNat w) hN hd hC hp ha
    have hpu := hC.2.2.2.2 p (by omega)
    rw [show k_cl (d_kd d p) = 6 by rw [hk]; rfl]
    simp only [show ¬ (6 : Nat) = 0 by decide, show ¬ (6 : Nat) = 1 by decide, show ¬ (6 : Nat) = 3 by decide, show ¬ (6 : Nat) = 4 by decide, if_false, if_true, hk, show ¬ (4 : Nat) = 1 by decide, show ¬ (4 : Nat) = 2 by decide, show ¬ (4 : Nat) = 3 by decide]
    unfold k_56 k_21
    simp only [ha, e_bd, e_bdn, e_st, e_li, e_bs, e_opn, e_ops, e_ob, e_vo, e_ia, e_eq, e_ne, e_lt, e_ge, e_gt, e_le, cond_true, cond_false, Bool.cond_decide, k_cls hk6, show a_in (Int32.ofNat (p)) 8 = true by rw [o_in (by omega)]; simp; omega, o_cl (show p < 2147483648 by omega), hpu, e1]
    by_cases c : f_pu F p < 10 * Int32.ofNat (d_vv d p)
    · have c' : ¬ 10 * Int32.ofNat (d_vv d p) ≤ f_pu F p := by rw [z_lt] at c; rw [z_le]; omega
      simp only [c, c', if_true, if_false]
      exact ⟨C, rfl, fr_rfl⟩
    · have c' : 10 * Int32.ofNat (d_vv d p) ≤ f_pu F p := by rw [z_lt] at c; rw [z_le]; omega
      simp only [c, c', if_true, if_false]
      exact ⟨C1, rfl, f1⟩
  · obtain ⟨C1, e1, f1⟩ := k_sh hN hd hC hp ha hw
    refine ⟨C1, ?_, f1⟩
    rw [hk]
    simp [k_cl, e1]
  · have hrw := hC.1.2.2.2.1 (4 * p + w) (by omega)
    rw [show k_cl (d_kd d p) = 8 by rw [hk]; rfl]
    simp only [show ¬ (8 : Nat) = 0 by decide, show ¬ (8 : Nat) = 1 by decide, show ¬ (8 : Nat) = 3 by decide, show ¬ (8 : Nat) = 4 by decide, show ¬ (8 : Nat) = 6 by decide, show ¬ (8 : Nat) = 7 by decide, if_false, if_true, hk, show ¬ (6 : Nat) = 1 by decide, show ¬ (6 : Nat) = 2 by decide, show ¬ (6 : Nat) = 3 by decide, show ¬ (6 : Nat) = 4 by decide, show ¬ (6 : Nat) = 5 by decide]
    unfold k_62 k_27
    simp only [ha, e_bd, e_bdn, e_st, e_li, e_bs, e_opn, e_ops, e_ob, e_vo, e_ia, e_eq, e_ne, e_lt, e_ge, e_gt, e_le, cond_true, cond_false, Bool.cond_decide, k_cls hk6, show Int32.ofNat (p) * 4 + Int32.ofNat (w) = Int32.ofNat (4 * (p) + w) by rw [show (4 : Int32) = Int32.ofNat 4 from rfl, o_mul, o_add, Nat.mul_comm], show a_in (Int32.ofNat (4 * p + w)) 32 = true by rw [o_in (by omega)]; simp; omega, o_cl (show 4 * p + w < 2147483648 by omega), hrw]
    exact ⟨C, rfl, fr_rfl⟩
theorem kp_mm {pu b : Int32} (h : 0 ≤ pu.toInt) : (if (0 : Int32) < (if b < pu then b else pu) then (if b < pu then b else pu) else 0) = b_kp pu b := by
  unfold b_kp
  have k0 : (0 : Int32).toInt = 0 := rfl
  by_cases c1 : b < pu
  · rw [if_pos c1]
    by_cases c2 : 0 < b
    · rw [if_pos c2, if_neg (by rw [z_lt] at *; omega), if_neg (by rw [z_lt] at *; omega)]
    · rw [if_neg c2]
      by_cases c3 : b < 0
      · rw [if_pos c3]
      · rw [if_neg c3, if_neg (by rw [z_lt] at *; omega), z_eq]; rw [z_lt] at *; omega
  · rw [if_neg c1]
    rw [z_lt] at c1
    rw [if_neg (show ¬ b < 0 by rw [z_lt]; omega)]
    by_cases c2 : 0 < pu
    · rw [if_pos c2]
      by_cases c3 : pu < b
      · rw [if_pos c3]
      · rw [if_neg c3, z_eq]; rw [z_lt] at c3; omega
    · rw [if_neg c2]
      by_cases c3 : pu < b
      · rw [if_pos c3, z_eq]; rw [z_lt] at *; omega
      · rw [if_neg c3, z_eq]; rw [z_lt] at *; omega
/-- putBid -/
theorem k_pb (hd : d_ok d) (hf : f_ok d F) (hC : CS C P vl R d F) {p : Nat} (hp : p < d_n d) {w : Nat} (hw : w < 4) {x : Int32} : k_14 N P vl R (Int32.ofNat p) (Int32.ofNat w) x C = some (0, va_up C 10 (upd (C 10) (4 * p + w) (b_kp (f_pu F p) x))) := by
  have hn := hd.2.2.2.1
  have hpu := hC.2.2.2.2 p (by omega)
  unfold k_14
  simp only [e_bd, e_bdn, e_st, e_li, e_bs, e_opn, e_ops, e_ob, e_vo, e_ia, e_eq, e_ne, e_lt, e_ge, e_gt, e_le, cond_true, cond_false, Bool.cond_decide, show a_in (Int32.ofNat (p)) 8 = true by rw [o_in (by omega)]; simp; omega, o_cl (show p < 2147483648 by omega), hpu, kp_mm (hf.2.2.2 p hp).1, show Int32.ofNat (p) * 4 + Int32.ofNat (w) = Int32.ofNat (4 * (p) + w) by rw [show (4 : Int32) = Int32.ofNat 4 from rfl, o_mul, o_add, Nat.mul_comm], show a_in (Int32.ofNat (4 * p + w)) 32 = true by rw [o_in (by omega)]; simp; omega, o_cl (show 4 * p + w < 2147483648 by omega)]
end KB
