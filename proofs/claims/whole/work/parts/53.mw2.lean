/-! 53.mw2: the model's worthOf, all steps -/
def sg (s : Nat → Int32) : Nat → List Int32 → Prop
  | _, [] => True
  | a, x :: l => s a = x ∧ sg s (a + 1) l
theorem sg_app {s : Nat → Int32} : ∀ {l1 l2 : List Int32} {a : Nat}, sg s a (l1 ++ l2) ↔ sg s a l1 ∧ sg s (a + l1.length) l2 := by
  intro l1
  induction l1 with
  | nil => intro l2 a; simp [sg]
  | cons x l ih =>
    intro l2 a
    simp only [List.cons_append, sg, List.length_cons, ih, and_assoc]
    rw [show a + 1 + l.length = a + (l.length + 1) by omega]
def c_sts (V : List cl) : List Int32 := V.flatMap (fun c => c.1.map t_m ++ [c_st c])
theorem t_do_len {b : Nat → Int32} {t : tk} {st : List Bool} {ts : List tk} {k : Nat} (ht : t_ok t) (h : t_dp 20 (t :: ts) st.length = some k) : t_dp 20 ts (t_do b t st).length = some k ∧ (t.1 = 0 → st.length < 20) ∧ (t.1 = 1 → ∃ x r, st = x :: r) ∧ (2 ≤ t.1 → ∃ x y r, st = x :: y :: r) := by
  obtain ⟨op, w, hh, v⟩ := t
  have h4 : op ≤ 3 := ht.1
  simp only [t_dp] at h
  rcases (show op = 0 ∨ op = 1 ∨ op = 2 ∨ op = 3 by omega) with rfl | rfl | rfl | rfl
  · simp only [if_true] at h
    split at h
    · refine ⟨by simpa [t_do] using h, fun _ => by assumption, by simp, by simp⟩
    · cases h
  · simp only [Nat.one_ne_zero, if_false, if_true] at h
    split at h
    · cases st with
      | nil => simp at *
      | cons x r => exact ⟨by simpa [t_do] using h, by simp, fun _ => ⟨x, r, rfl⟩, by simp⟩
    · cases h
  · simp only [show ¬ (2 : Nat) = 0 by omega, show ¬ (2 : Nat) = 1 by omega, if_false] at h
    split at h
    · cases st with
      | nil => simp at *
      | cons x r => cases r with
        | nil => simp at *
        | cons y r => exact ⟨by simpa [t_do] using h, by simp, by simp, fun _ => ⟨x, y, r, rfl⟩⟩
    · cases h
  · simp only [show ¬ (3 : Nat) = 0 by omega, show ¬ (3 : Nat) = 1 by omega, if_false] at h
    split at h
    · cases st with
      | nil => simp at *
      | cons x r => cases r with
        | nil => simp at *
        | cons y r => exact ⟨by simpa [t_do] using h, by simp, by simp, fun _ => ⟨x, y, r, rfl⟩⟩
    · cases h
theorem mw_one {N : Nat} {rc : Int32 → Int32 → Int32 → Int32 → Int32 → mS → Option (Int32 × mS)} {x5 x6 x7 x9 : Int32} {A : mS} {t : tk} {st : List Bool} (ht : t_ok t) (hge : ¬ x7 + x6 ≤ x9) (hin : a_in x9 947 = true) (hA : A 0 x9.toNatClampNeg = t_m t) (htr : tr (A 4) st) (hl : st.length ≤ 20) (h0 : t.1 = 0 → st.length < 20) (h1 : t.1 = 1 → ∃ x r, st = x :: r) (h2 : 2 ≤ t.1 → ∃ x y r, st = x :: y :: r) :
    ∃ A', g_133_51b N rc x5 x6 x7 (Int32.ofNat st.length) x9 A = rc x5 x6 x7 (Int32.ofNat (t_do (A 3) t st).length) (x9 + 1) A' ∧ fr [4] A A' ∧ tr (A' 4) (t_do (A 3) t st) := by
  obtain ⟨op, w, h, v⟩ := t
  obtain ⟨h3, hw, hh, hv⟩ := ht
  simp only at h3 hw hh hv h0 h1 h2
  rcases (show op = 0 ∨ op = 1 ∨ op = 2 ∨ op = 3 by omega) with rfl | rfl | rfl | rfl
  · have := h0 rfl
    refine ⟨_, mw_test hge hin hA hw hh hv (by omega), fr_up fr_rfl (by simp), ?_⟩
    rw [va_up_self]
    exact tr_push _ htr
  · obtain ⟨x, r, rfl⟩ := h1 rfl
    simp only [List.length_cons] at hl
    refine ⟨_, mw_not (x := x) hge hin hA (by simp) (by simp; omega) (tr_hd htr), fr_up fr_rfl (by simp), ?_⟩
    rw [va_up_self]
    exact tr_top htr
  · obtain ⟨x, y, r, rfl⟩ := h2 (by omega)
    simp only [List.length_cons] at hl
    refine ⟨_, mw_and (x := x) (y := y) hge hin hA (by simp) (by simp; omega) (tr_hd htr) (tr_hd (tr_tl htr)), fr_up fr_rfl (by simp), ?_⟩
    rw [va_up_self]
    exact tr_top (tr_tl htr)
  · obtain ⟨x, y, r, rfl⟩ := h2 (by omega)
    simp only [List.length_cons] at hl
    refine ⟨_, mw_or (x := x) (y := y) hge hin hA (by simp) (by simp; omega) (tr_hd htr) (tr_hd (tr_tl htr)), fr_up fr_rfl (by simp), ?_⟩
    rw [va_up_self]
    exact tr_top (tr_tl htr)
theorem t_do_le {b : Nat → Int32} {t : tk} {st : List Bool} (h : st.length ≤ 20) (h0 : t.1 = 0 → st.length < 20) : (t_do b t st).length ≤ 20 := by
  unfold t_do
  split
  · have := h0 (by assumption)
    simp
    omega
  · split <;> simp_all <;> omega
theorem fr_at {S : List Nat} {A A' : mS} (h : fr S A A') {j : Nat} (hj : j ∉ S) : A' j = A j := h j hj
theorem mw_run {N f m : Nat} {x5 : Int32} {k : Nat} (hfm : f + m ≤ 947) : ∀ (ts : List tk) (st : List Bool) (i n : Nat) (A : mS), (∀ t, t ∈ ts → t_ok t) → t_dp 20 ts st.length = some k → st.length ≤ 20 → sg (A 0) (f + i) (ts.map t_m) → i + ts.length ≤ m → tr (A 4) st →
    ∃ A', g_133_51 N (n + ts.length) x5 (Int32.ofNat m) (Int32.ofNat f) (Int32.ofNat st.length) (Int32.ofNat (f + i)) A = g_133_51 N n x5 (Int32.ofNat m) (Int32.ofNat f) (Int32.ofNat k) (Int32.ofNat (f + i + ts.length)) A' ∧ fr [4] A A' ∧ tr (A' 4) (t_run (A 3) ts st) ∧ (t_run (A 3) ts st).length = k := by
  intro ts
  induction ts with
  | nil =>
    intro st i n A _ hd _ _ _ htr
    have hk : st.length = k := Option.some.inj hd
    exact ⟨A, by rw [hk]; rfl, fr_rfl, htr, hk⟩
  | cons t ts ih =>
    intro st i n A hok hd hl hs hi htr
    simp only [List.length_cons] at hi
    have ht : t_ok t := hok t List.mem_cons_self
    obtain ⟨hd2, h0, h1, h2⟩ := t_do_len (b := A 3) ht hd
    have hge : ¬ Int32.ofNat f + Int32.ofNat m ≤ Int32.ofNat (f + i) := by
      rw [o_add, o_le (by omega) (by omega)]; omega
    have hin : a_in (Int32.ofNat (f + i)) 947 = true := by rw [o_in (by omega)]; simp; omega
    obtain ⟨hs1, hs2⟩ := hs
    have hA : A 0 (Int32.ofNat (f + i)).toNatClampNeg = t_m t := by rw [o_cl (by omega)]; exact hs1
    obtain ⟨A1, e1, hf1, htr1⟩ := mw_one (N := N) (rc := g_133_51 N (n + ts.length)) (x5 := x5) ht hge hin hA htr hl h0 h1 h2
    have e3 : A1 3 = A 3 := fr_at hf1 (by decide)
    have e0 : A1 0 = A 0 := fr_at hf1 (by decide)
    obtain ⟨A2, e2, hf2, htr2, hlen⟩ := ih (t_do (A 3) t st) (i + 1) n A1 (fun t' h' => hok t' (List.mem_cons_of_mem _ h')) hd2 (t_do_le hl h0) (by rw [e0]; exact hs2) (by omega) htr1
    rw [e3] at htr2 hlen
    refine ⟨A2, ?_, fr_tr hf1 hf2, htr2, hlen⟩
    rw [show n + (t :: ts).length = (n + ts.length) + 1 by simp; omega]
    show g_133_51b N (g_133_51 N (n + ts.length)) _ _ _ _ _ _ = _
    rw [e1, show Int32.ofNat (f + i) + 1 = Int32.ofNat (f + (i + 1)) from o_add (q := 1), e2]
    congr 2
    simp
    omega
theorem mw_all {N f m : Nat} (hfm : f + m ≤ 947) : ∀ (V : List cl) (x5 : Int32) (i n : Nat) (A : mS), (∀ c, c ∈ V → c_ok c) → sg (A 0) (f + i) (c_sts V) → i + (c_sts V).length ≤ m →
    ∃ A', g_133_51 N (n + (c_sts V).length) x5 (Int32.ofNat m) (Int32.ofNat f) (Int32.ofNat 0) (Int32.ofNat (f + i)) A = g_133_51 N n (s_w (A 3) V x5) (Int32.ofNat m) (Int32.ofNat f) (Int32.ofNat 0) (Int32.ofNat (f + i + (c_sts V).length)) A' ∧ fr [4] A A' := by
  intro V
  induction V with
  | nil => intro x5 i n A _ _ _; exact ⟨A, rfl, fr_rfl⟩
  | cons c V ih =>
    intro x5 i n A hok hs hi
    have hcs : c_sts (c :: V) = c.1.map t_m ++ (c_st c :: c_sts V) := by simp [c_sts]
    rw [hcs] at hs hi ⊢
    rw [sg_app] at hs
    simp only [List.length_append, List.length_map, List.length_cons] at hi hs ⊢
    obtain ⟨hs1, hs2, hs3⟩ := hs
    obtain ⟨hc1, hc2, hc3⟩ := hok c List.mem_cons_self
    obtain ⟨A1, e1, hf1, htr1, hlen⟩ := mw_run (N := N) (x5 := x5) hfm c.1 [] i (n + (c_sts V).length + 1) A hc1 hc2 (by simp) hs1 (by omega) (by intro i hi; simp at hi)
    have e3 : A1 3 = A 3 := fr_at hf1 (by decide)
    have e0 : A1 0 = A 0 := fr_at hf1 (by decide)
    obtain ⟨q1, q2, q3, q4⟩ := c_end hc3
    have hge : ¬ Int32.ofNat f + Int32.ofNat m ≤ Int32.ofNat (f + i + c.1.length) := by
      rw [o_add, o_le (by omega) (by omega)]; omega
    have hin : a_in (Int32.ofNat (f + i + c.1.length)) 947 = true := by rw [o_in (by omega)]; simp; omega
    have hA : A1 0 (Int32.ofNat (f + i + c.1.length)).toNatClampNeg = c_st c := by rw [o_cl (by omega), e0]; exact hs2
    have hb : A1 4 0 = b_i (c_ho (A 3) c) := by
      have hne : ∃ x, t_run (A 3) c.1 [] = [x] := by
        generalize hst : t_run (A 3) c.1 [] = st at hlen
        match st, hlen with
        | [x], _ => exact ⟨x, rfl⟩
      obtain ⟨x, hx⟩ := hne
      rw [hx] at htr1
      have := tr_hd htr1
      simp only [List.length_nil] at this
      rw [this, c_ho, hx]
      rfl
    have e2 := mw_end (N := N) (rc := g_133_51 N (n + (c_sts V).length)) (x5 := x5) (x8 := Int32.ofNat 1) hge hin hA q1 q2 q3 q4 hb
    obtain ⟨A2, e4, hf2⟩ := ih (if c_ho (A 3) c then x5 + c_am c else x5) (i + c.1.length + 1) n A1 (fun c' h' => hok c' (List.mem_cons_of_mem _ h')) (by rw [e0, show f + (i + c.1.length + 1) = f + i + c.1.length + 1 by omega]; exact hs3) (by omega)
    rw [e3] at e4
    refine ⟨A2, ?_, fr_tr hf1 hf2⟩
    rw [show n + (c.1.length + ((c_sts V).length + 1)) = n + (c_sts V).length + 1 + c.1.length by omega]
    refine e1.trans ?_
    show g_133_51b N (g_133_51 N (n + (c_sts V).length)) _ _ _ _ _ _ = _
    rw [e2, show Int32.ofNat (f + i + c.1.length) + 1 = Int32.ofNat (f + (i + c.1.length + 1)) from (o_add (q := 1)).trans (by congr 1; omega), show (0 : Int32) = Int32.ofNat 0 from rfl, e4]
    rw [show f + (i + c.1.length + 1) + (c_sts V).length = f + i + (c.1.length + ((c_sts V).length + 1)) by omega]
    rfl
theorem tst_congr {b b' : Nat → Int32} (h : ∀ j, j < 5 → b j = b' j) {t : tk} (ht : t_ok t) : tst b t = tst b' t := by
  unfold tst
  rw [h _ ht.2.1]
theorem t_run_congr {b b' : Nat → Int32} (h : ∀ j, j < 5 → b j = b' j) : ∀ (ts : List tk) (st : List Bool), (∀ t, t ∈ ts → t_ok t) → t_run b ts st = t_run b' ts st := by
  intro ts
  induction ts with
  | nil => intro st _; rfl
  | cons t ts ih =>
    intro st hok
    have : t_do b t st = t_do b' t st := by
      unfold t_do
      rw [tst_congr h (hok t List.mem_cons_self)]
    simp only [t_run, this]
    exact ih _ (fun t' h' => hok t' (List.mem_cons_of_mem _ h'))
theorem s_w_congr {b b' : Nat → Int32} (h : ∀ j, j < 5 → b j = b' j) : ∀ (V : List cl) (x : Int32), (∀ c, c ∈ V → c_ok c) → s_w b V x = s_w b' V x := by
  intro V
  induction V with
  | nil => intro x _; rfl
  | cons c V ih =>
    intro x hok
    have : c_ho b c = c_ho b' c := by
      unfold c_ho
      rw [t_run_congr h c.1 [] (hok c List.mem_cons_self).1]
    simp only [s_w, this]
    exact ih _ (fun c' h' => hok c' (List.mem_cons_of_mem _ h'))
/-- the model's row holds d -/
def MV (s : Nat → Int32) (V : List cl) (ru gi : Int32) : Prop := (s 17 = -1 ∧ V = [] ∧ ru = 0 ∧ gi = 0) ∨ ∃ h, h ≤ 4 ∧ s 17 = Int32.ofNat h ∧ s (232 + h) = ru ∧ s (237 + h) = gi ∧ s (242 + h) = Int32.ofNat (c_sts V).length ∧ (c_sts V).length ≤ 140 ∧ sg s (247 + 140 * h) (c_sts V)
def MD (s : Nat → Int32) (d : dS) : Prop := MV s (d_V d) (d_ru d) (d_gi d) ∧ s 11 = Int32.ofNat (d_n d) ∧ (∀ p, p < d_n d → s (140 + p) = Int32.ofNat (d_kd d p)) ∧ (∀ p, p < d_n d → s (148 + p) = Int32.ofNat (d_vv d p)) ∧ (∀ j, j < 4 * d_n d → s (156 + j) = d_rw d j) ∧ s 13 = Int32.ofNat (d_fn d) ∧ ∀ j, j < d_fn d → s (188 + j) = d_fo d j
theorem m_ofnat_ne {h : Nat} (hh : h < 2147483648) : ¬ Int32.ofNat h = -1 := by
  have k1 : (-1 : Int32).toInt = -1 := rfl
  generalize (-1 : Int32) = m1 at *
  rw [z_eq, z_ofNat hh]
  omega
/-- tellsOf -/
theorem m_tells {N : Nat} {A : mS} {a : Nat} {V : List cl} {ru gi : Int32} (ha : a < 900) (h : MV (A 0) V ru gi) : g_132 N (Int32.ofNat a) A = some ((if A 0 17 = -1 then 0 else A 0 (a + (A 0 17).toNatClampNeg)), A) := by
  unfold g_132
  rcases h with ⟨h, -⟩ | ⟨q, hq, h, -⟩
  · simp only [e_bd, e_bdn, e_st, e_li, e_bs, e_opn, e_ops, e_ob, e_vo, e_ia, e_eq, e_ne, e_lt, e_ge, e_gt, e_le, cond_true, cond_false, Bool.cond_decide, h, not_true, if_false, if_true]
  · have e1 : a_in (Int32.ofNat (a + q)) 947 = true := by rw [o_in (by omega)]; simp; omega
    simp only [e_bd, e_bdn, e_st, e_li, e_bs, e_opn, e_ops, e_ob, e_vo, e_ia, e_eq, e_ne, e_lt, e_ge, e_gt, e_le, cond_true, cond_false, Bool.cond_decide, h, m_ofnat_ne (show q < 2147483648 by omega), not_false_eq_true, if_true, if_false, o_add, e1, o_cl (show a + q < 2147483648 by omega), o_cl (show q < 2147483648 by omega)]
theorem mw_worth {N : Nat} (hN : 200 ≤ N) {d : dS} {A : mS} {p : Nat} {w y dy : Int32} (hv : v_ok (d_V d)) (hn : d_n d ≤ 8) (hM : MD (A 0) d) (hp : p < d_n d) : ∃ A', g_133 N (Int32.ofNat p) w y dy A = some (w_at d p w y dy, A') ∧ fr [3, 4] A A' := by
  obtain ⟨hV, h11, hkd, -⟩ := hM
  have e1 : a_in (Int32.ofNat (140 + p)) 947 = true := by rw [o_in (by omega)]; simp; omega
  have hk := hkd p hp
  unfold g_133
  simp only [show (140 : Int32) + Int32.ofNat p = Int32.ofNat (140 + p) from o_add (p := 140), e1, o_cl (show 140 + p < 2147483648 by omega), hk, e_bd, e_bdn, e_st, e_li, e_bs, e_opn, e_ops, e_ob, e_vo, e_ia, e_eq, e_ne, e_lt, e_ge, e_gt, e_le, cond_true, cond_false, Bool.cond_decide]
  generalize hA3 : (va_up (va_up A 3 (upd (upd (upd (upd (A 3) 0 w) 1 y) 2 (dy - dy / 7 * 7)) 3 (Int32.ofNat p))) 3 (upd ((va_up A 3 (upd (upd (upd (upd (A 3) 0 w) 1 y) 2 (dy - dy / 7 * 7)) 3 (Int32.ofNat p))) 3) 4 (Int32.ofNat (d_kd d p)))) = A3
  have f3 : fr [3, 4] A A3 := by
    rw [← hA3]
    exact fr_up (fr_up fr_rfl (by simp)) (by simp)
  have a0 : A3 0 = A 0 := fr_at f3 (by decide)
  have hby : ∀ j, j < 5 → A3 3 j = w_by w y dy (Int32.ofNat p) (Int32.ofNat (d_kd d p)) j := by
    intro j hj
    rw [← hA3, va_up_self, va_up_self]
    rcases (show j = 0 ∨ j = 1 ∨ j = 2 ∨ j = 3 ∨ j = 4 by omega) with rfl | rfl | rfl | rfl | rfl <;> simp [upd, w_by]
  have hV3 : MV (A3 0) (d_V d) (d_ru d) (d_gi d) := by rw [a0]; exact hV
  rw [show (242 : Int32) = Int32.ofNat 242 from rfl, m_tells (by omega) hV3]
  simp only [e_bd, e_bdn, e_st, e_li, e_bs, e_opn, e_ops, e_ob, e_vo, e_ia, e_eq, e_ne, e_lt, e_ge, e_gt, e_le, cond_true, cond_false, Bool.cond_decide, a0]
  unfold w_at
  rw [← s_w_congr hby _ _ hv.2]
  rcases hV with ⟨h17, hVn, -⟩ | ⟨q, hq, h17, -, -, hlen, hle, hsg⟩
  · rw [hVn, if_pos h17, h17]
    obtain ⟨n, rfl⟩ : ∃ n, N = n + 1 := ⟨N - 1, by omega⟩
    refine ⟨A3, ?_, f3⟩
    show g_133_51b _ _ _ _ _ _ _ _ = _
    unfold g_133_51b
    simp only [e_bd, e_bdn, e_st, e_li, e_bs, e_opn, e_ops, e_ob, e_vo, e_ia, e_eq, e_ne, e_lt, e_ge, e_gt, e_le, cond_true, cond_false, Bool.cond_decide, Int32.add_zero, z_le, Int.le_refl, if_true]
    rfl
  · rw [if_neg (by rw [h17]; exact m_ofnat_ne (by omega)), h17, o_cl (by omega), hlen]
    rw [show (247 : Int32) + 140 * Int32.ofNat q = Int32.ofNat (247 + 140 * q) by rw [show (140 : Int32) = Int32.ofNat 140 from rfl, show (247 : Int32) = Int32.ofNat 247 from rfl, o_mul, o_add]]
    obtain ⟨A4, e4, f4⟩ := mw_all (N := N) (f := 247 + 140 * q) (m := (c_sts (d_V d)).length) (by omega) (d_V d) 0 0 (N - (c_sts (d_V d)).length) A3 hv.2 (by rw [a0]; exact hsg) (by omega)
    rw [show N - (c_sts (d_V d)).length + (c_sts (d_V d)).length = N by omega] at e4
    refine ⟨A4, ?_, fr_tr f3 (fr_mono f4 (by simp))⟩
    refine e4.trans ?_
    obtain ⟨n, hn⟩ : ∃ n, N - (c_sts (d_V d)).length = n + 1 := ⟨N - (c_sts (d_V d)).length - 1, by omega⟩
    rw [hn]
    show g_133_51b _ _ _ _ _ _ _ _ = _
    unfold g_133_51b
    simp only [e_bd, e_bdn, e_st, e_li, e_bs, e_opn, e_ops, e_ob, e_vo, e_ia, e_eq, e_ne, e_lt, e_ge, e_gt, e_le, cond_true, cond_false, Bool.cond_decide, o_add, Nat.add_zero, z_le, Int.le_refl, if_true]
