/-! 55.kw2: the class's worth -/
def c_cod (V : List cl) : List Int32 := V.flatMap (fun c => c.1.map t_c)
def c_en : List cl → Nat → List Int32
  | [], _ => []
  | c :: V, k => Int32.ofNat (k + c.1.length) :: c_en V (k + c.1.length)
/-- the class holds the clauses, rule and gift -/
def CV (vl : Option Nat) (R : List aC) (V : List cl) (ru gi : Int32) : Prop := (vl = none ∧ V = [] ∧ ru = 0 ∧ gi = 0) ∨ ∃ a cr er ar fc fe fa, vl = some a ∧ vly R a = some (cr, er, ar, ru, gi) ∧ iar R cr = some ((c_cod V).length, fc) ∧ iar R er = some (V.length, fe) ∧ iar R ar = some (V.length, fa) ∧ (c_cod V).length ≤ 120 ∧ sg fc 0 (c_cod V) ∧ sg fe 0 (c_en V 0) ∧ sg fa 0 (V.map c_am)
def k_cl (k : Nat) : Nat := if k = 0 then 1 else if k = 1 then 4 else if k = 2 then 3 else if k = 3 then 0 else if k = 4 then 6 else if k = 5 then 7 else 8
def CD (C : mS) (P : Nat → Option Nat) (vl : Option Nat) (R : List aC) (d : dS) : Prop := CV vl R (d_V d) (d_ru d) (d_gi d) ∧ C 90 12 = Int32.ofNat (d_n d) ∧ (∀ p, p < d_n d → ∃ a, P p = some a ∧ bdr R a = some (k_cl (d_kd d p), Int32.ofNat (d_kd d p), Int32.ofNat p, Int32.ofNat (d_vv d p))) ∧ (∀ j, j < 4 * d_n d → C 3 j = d_rw d j) ∧ C 90 7 = Int32.ofNat (d_fn d) ∧ ∀ j, j < d_fn d → C 1 j = d_fo d j
theorem kw_all {N : Nat} (hN : 130 ≤ N) {P : Nat → Option Nat} {vl : Option Nat} {R : List aC} {a cr er ar m L : Nat} {ru gi : Int32} {C : mS} {fc fe fa : Nat → Int32} (hv0 : vly R a = some (cr, er, ar, ru, gi)) (hic : iar R cr = some (m, fc)) (hie : iar R er = some (L, fe)) (hia : iar R ar = some (L, fa)) (hm : m ≤ 120) (hL : L ≤ 10) : ∀ (V : List cl) (x2 : Int32) (q o n : Nat), (∀ c, c ∈ V → c_ok c) → sg fc o (c_cod V) → sg fe q (c_en V o) → sg fa q (V.map c_am) → q + V.length ≤ L → o + (c_cod V).length ≤ m →
    k_65_6 N P vl R (n + V.length) a x2 (Int32.ofNat o) (Int32.ofNat q) C = k_65_6 N P vl R n a (s_w (C 12) V x2) (Int32.ofNat (o + (c_cod V).length)) (Int32.ofNat (q + V.length)) C := by
  intro V
  induction V with
  | nil => intro x2 q o n _ _ _ _ _ _; rfl
  | cons c V ih =>
    intro x2 q o n hok hsc hse hsa hq ho
    have hcc : c_cod (c :: V) = c.1.map t_c ++ c_cod V := by simp [c_cod]
    rw [hcc] at hsc ho ⊢
    rw [sg_app] at hsc
    simp only [List.length_append, List.length_map, List.length_cons] at hsc ho hq ⊢
    obtain ⟨hs1, hs2⟩ := hsc
    obtain ⟨he1, he2⟩ := hse
    obtain ⟨ha1, ha2⟩ := hsa
    have hck := hok c List.mem_cons_self
    have e1 := kw_holds (P := P) (vl := vl) (C := C) hN hv0 hic hm hck hs1 (by omega)
    have hge : ¬ Int32.ofNat L ≤ Int32.ofNat q := by rw [o_le (by omega) (by omega)]; omega
    have hin : a_in (Int32.ofNat q) L = true := by rw [o_in (by omega)]; simp; omega
    rw [show n + (V.length + 1) = (n + V.length) + 1 by omega]
    show k_65_6b N P vl R (k_65_6 N P vl R (n + V.length)) _ _ _ _ _ = _
    unfold k_65_6b
    simp only [e_bd, e_bdn, e_st, e_li, e_bs, e_opn, e_ops, e_ob, e_vo, e_ia, e_eq, e_ne, e_lt, e_ge, e_gt, e_le, cond_true, cond_false, Bool.cond_decide, hv0, hie, hia, hge, hin, o_cl (show q < 2147483648 by omega), he1, ha1, e1, if_false, b_i0, show Int32.ofNat q + 1 = Int32.ofNat (q + 1) from o_add (q := 1)]
    have e2 := ih (if c_ho (C 12) c then x2 + c_am c else x2) (q + 1) (o + c.1.length) n (fun c' h' => hok c' (List.mem_cons_of_mem _ h')) hs2 he2 ha2 (by omega) (by omega)
    rw [show o + c.1.length + (c_cod V).length = o + (c.1.length + (c_cod V).length) by omega, show q + 1 + V.length = q + (V.length + 1) by omega] at e2
    rw [s_w, ← e2]
    cases c_ho (C 12) c <;> simp
theorem kw_worth {N : Nat} (hN : 130 ≤ N) {d : dS} {C : mS} {P : Nat → Option Nat} {vl : Option Nat} {R : List aC} {p a : Nat} {w y dy : Int32} (hv : v_ok (d_V d)) (hC : CV vl R (d_V d) (d_ru d) (d_gi d)) (ha : bdr R a = some (k_cl (d_kd d p), Int32.ofNat (d_kd d p), Int32.ofNat p, Int32.ofNat (d_vv d p))) (hk : d_kd d p ≤ 6) : ∃ C', k_32 N P vl R (some a) w dy y C = some (w_at d p w y dy, C') ∧ fr [12] C C' := by
  unfold k_32
  have hct : List.contains [0, 1, 3, 4, 6, 7, 8] (k_cl (d_kd d p)) = true := by
    generalize d_kd d p = k at hk
    rcases (show k = 0 ∨ k = 1 ∨ k = 2 ∨ k = 3 ∨ k = 4 ∨ k = 5 ∨ k = 6 by omega) with rfl | rfl | rfl | rfl | rfl | rfl | rfl <;> rfl
  rcases hC with ⟨hvl, hVn, -⟩ | ⟨b, cr, er, ar, fc, fe, fa, hvl, hv0, hic, hie, hia, hm, hsc, hse, hsa⟩
  · refine ⟨C, ?_, fr_rfl⟩
    simp only [e_bd, e_bdn, e_st, e_li, e_bs, e_opn, e_ops, e_ob, e_vo, e_ia, e_eq, e_ne, e_lt, e_ge, e_gt, e_le, cond_true, cond_false, Bool.cond_decide, hvl]
    unfold w_at
    rw [hVn]
    rfl
  · simp only [e_bd, e_bdn, e_st, e_li, e_bs, e_opn, e_ops, e_ob, e_vo, e_ia, e_eq, e_ne, e_lt, e_ge, e_gt, e_le, cond_true, cond_false, Bool.cond_decide, hvl, ha, hct, hv0]
    generalize hC1 : (va_up C 12 (upd (upd (upd (upd (upd (C 12) 0 w) 1 y) 2 (dy - dy / 7 * 7)) 3 (Int32.ofNat p)) 4 (Int32.ofNat (d_kd d p)))) = C1
    have hf : fr [12] C C1 := by rw [← hC1]; exact fr_up fr_rfl (by simp)
    have hby : ∀ j, j < 5 → C1 12 j = w_by w y dy (Int32.ofNat p) (Int32.ofNat (d_kd d p)) j := by
      intro j hj
      rw [← hC1, va_up_self]
      rcases (show j = 0 ∨ j = 1 ∨ j = 2 ∨ j = 3 ∨ j = 4 by omega) with rfl | rfl | rfl | rfl | rfl <;> simp [upd, w_by]
    refine ⟨C1, ?_, hf⟩
    have e1 := kw_all (P := P) (vl := some b) (C := C1) hN hv0 hic hie hia hm hv.1 (d_V d) 0 0 0 (N - (d_V d).length) hv.2 hsc hse hsa (by omega) (by omega)
    have hl := hv.1
    rw [show N - (d_V d).length + (d_V d).length = N by omega] at e1
    unfold k_65
    rw [show (0 : Int32) = Int32.ofNat 0 from rfl] at e1 ⊢
    rw [e1]
    obtain ⟨n, hn⟩ : ∃ n, N - (d_V d).length = n + 1 := ⟨N - (d_V d).length - 1, by omega⟩
    rw [hn]
    show m_bd (k_65_6b _ _ _ _ _ _ _ _ _ _) _ = _
    unfold k_65_6b
    simp only [e_bd, e_bdn, e_st, e_li, e_bs, e_opn, e_ops, e_ob, e_vo, e_ia, e_eq, e_ne, e_lt, e_ge, e_gt, e_le, cond_true, cond_false, Bool.cond_decide, hv0, hie, Nat.zero_add, z_le, Int.le_refl, if_true]
    unfold w_at
    rw [s_w_congr hby _ _ hv.2]
    rfl
