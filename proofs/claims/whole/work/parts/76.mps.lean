/-! 76.mps: the model reads a text -/
def HM (A0 : mS) (T : Nat → Int32) (n act : Nat) : Prop := act ≤ 4 ∧ n ≤ 120 ∧ A0 99 5 = Int32.ofNat act ∧ A0 99 7 = Int32.ofNat n ∧ ∀ j, j < n → A0 0 (20 + j) = T j
def SL (act j : Nat) : Prop := j = 242 + act ∨ (247 + 140 * act ≤ j ∧ j < 387 + 140 * act)
def PG (A0 A : mS) (act : Nat) : Prop := fr [0, 99] A0 A ∧ f9 [6, 8, 9] A0 A ∧ ∀ j, ¬ SL act j → A 0 j = A0 0 j
def PM (A0 A : mS) (act i o : Nat) (L : List Int32) : Prop := PG A0 A act ∧ A 99 6 = Int32.ofNat i ∧ A 99 8 = 0 ∧ A 99 9 = Int32.ofNat o ∧ A 0 (242 + act) = Int32.ofNat L.length ∧ sg (A 0) (247 + 140 * act) L
def PF (A0 A : mS) (act i : Nat) : Prop := PG A0 A act ∧ A 99 6 = Int32.ofNat i ∧ A 99 8 = 1
def RM (A0 : mS) (act o : Nat) (L : List Int32) (m : Option (Int32 × mS)) (x : sR) : Prop := (∀ j ts, x = (j, some ts) → ∃ A', m = some (0, A') ∧ PM A0 A' act j o (L ++ ts.map t_m)) ∧ (∀ j, x = (j, none) → ∃ A', m = some (0, A') ∧ PF A0 A' act j)
def FM (A0 : mS) (n act o : Nat) (rf : mS → Option (Int32 × mS)) (f : Nat → sR) : Prop := (∀ A : mS, A 99 8 = 1 → rf A = some (0, A)) ∧ ∀ A i L, PM A0 A act i o L → L.length ≤ i → i ≤ n → RM A0 act o L (rf A) (f i)
theorem PG_up {A0 A : mS} {act f : Nat} {x : Int32} (h : PG A0 A act) (hf : f ∈ [6, 8, 9]) : PG A0 (va_up A 99 (upd (A 99) f x)) act := ⟨fr_up h.1 (by simp), f9_up h.2.1 hf, fun j hj => by rw [va_up_ne _ _ (by decide)]; exact h.2.2 j hj⟩
theorem up_id {A : mS} {f : Nat} {x : Int32} (h : A 99 f = x) : va_up A 99 (upd (A 99) f x) = A := by
  funext i
  by_cases c : i = 99
  · subst c
    rw [va_up_self]
    funext j
    by_cases c2 : j = f
    · subst c2; rw [upd_self, h]
    · rw [upd_ne _ _ c2]
  · rw [va_up_ne _ _ c]
theorem PM_up6 {A0 A : mS} {act i i' o : Nat} {L : List Int32} (h : PM A0 A act i o L) : PM A0 (va_up A 99 (upd (A 99) 6 (Int32.ofNat i'))) act i' o L :=
  ⟨PG_up h.1 (by simp), by rw [va_up_self, upd_self], by rw [va_up_self, upd_ne _ _ (by decide)]; exact h.2.2.1, by rw [va_up_self, upd_ne _ _ (by decide)]; exact h.2.2.2.1, by rw [va_up_ne _ _ (by decide)]; exact h.2.2.2.2.1, by rw [va_up_ne _ _ (by decide)]; exact h.2.2.2.2.2⟩
theorem PM_up9 {A0 A : mS} {act i o o' : Nat} {L : List Int32} (h : PM A0 A act i o L) : PM A0 (va_up A 99 (upd (A 99) 9 (Int32.ofNat o'))) act i o' L :=
  ⟨PG_up h.1 (by simp), by rw [va_up_self, upd_ne _ _ (by decide)]; exact h.2.1, by rw [va_up_self, upd_ne _ _ (by decide)]; exact h.2.2.1, by rw [va_up_self, upd_self], by rw [va_up_ne _ _ (by decide)]; exact h.2.2.2.2.1, by rw [va_up_ne _ _ (by decide)]; exact h.2.2.2.2.2⟩
theorem PF_up9 {A0 A : mS} {act i : Nat} {x : Int32} (h : PF A0 A act i) : PF A0 (va_up A 99 (upd (A 99) 9 x)) act i :=
  ⟨PG_up h.1 (by simp), by rw [va_up_self, upd_ne _ _ (by decide)]; exact h.2.1, by rw [va_up_self, upd_ne _ _ (by decide)]; exact h.2.2⟩
theorem PF_wr {A0 A : mS} {act i : Nat} (h : PG A0 A act) (h6 : A 99 6 = Int32.ofNat i) : PF A0 (va_up A 99 (upd (A 99) 8 1)) act i :=
  ⟨PG_up h (by simp), by rw [va_up_self, upd_ne _ _ (by decide)]; exact h6, by rw [va_up_self, upd_self]⟩
theorem sg_snoc {s : Nat → Int32} {a : Nat} {L : List Int32} {x : Int32} (h : sg s a L) : sg (upd s (a + L.length) x) a (L ++ [x]) := by
  rw [sg_app]
  refine ⟨?_, by rw [upd_self], trivial⟩
  have gen : ∀ (l : List Int32) (b c : Nat), b + l.length ≤ c → sg s b l → sg (upd s c x) b l := by
    intro l
    induction l with
    | nil => intro b c _ _; trivial
    | cons y l ih =>
      intro b c hc hs
      simp only [List.length_cons] at hc
      exact ⟨by rw [upd_ne _ _ (by omega)]; exact hs.1, ih (b + 1) c (by omega) hs.2⟩
  exact gen L a _ (Nat.le_refl _) h
theorem sg_pre {s s' : Nat → Int32} : ∀ {l : List Int32} {a : Nat}, (∀ j, a ≤ j → j < a + l.length → s' j = s j) → sg s a l → sg s' a l := by
  intro l
  induction l with
  | nil => intro a _ _; trivial
  | cons x l ih =>
    intro a h hs
    simp only [List.length_cons] at h
    exact ⟨(h a (Nat.le_refl _) (by omega)).trans hs.1, ih (fun j h1 h2 => h j (by omega) (by omega)) hs.2⟩
section MPS
variable {N : Nat} {A0 A : mS} {T : Nat → Int32} {n act i o : Nat} {L : List Int32}
theorem m_hr (h0 : HM A0 T n act) (h : PG A0 A act) (h6 : A 99 6 = Int32.ofNat i) (hi : i ≤ n) : g_118 N A = some (tp T n i, A) := by
  obtain ⟨ha, hn, h5, h7, ht⟩ := h0
  have h7' : A 99 7 = Int32.ofNat n := (h.2.1 7 (by decide)).trans h7
  unfold g_118 tp
  simp only [e_bd, e_bdn, e_st, e_li, e_bs, e_opn, e_ops, e_ob, e_vo, e_ia, e_eq, e_ne, e_lt, e_ge, e_gt, e_le, cond_true, cond_false, Bool.cond_decide, h6, h7', o_le (show n < 2147483648 by omega) (show i < 2147483648 by omega)]
  by_cases c : i < n
  · rw [if_neg (by omega), if_pos c]
    simp only [show (20 : Int32) + Int32.ofNat i = Int32.ofNat (20 + i) from o_add (p := 20), show a_in (Int32.ofNat (20 + i)) 947 = true by rw [o_in (by omega)]; simp; omega, o_cl (show 20 + i < 2147483648 by omega), e_bd, e_bdn, e_st, e_li, e_bs, e_opn, e_ops, e_ob, e_vo, e_ia, e_eq, e_ne, e_lt, e_ge, e_gt, e_le, cond_true, cond_false, Bool.cond_decide]
    rw [h.2.2 (20 + i) (by unfold SL; omega), ht i c]
  · rw [if_pos (by omega), if_neg c]
theorem m_ms (h0 : HM A0 T n act) (h : PM A0 A act i o L) (hi : i ≤ n) (c : Int32) : (tp T n i = c → ∃ A', g_119 N c A = some (0, A') ∧ PM A0 A' act (i + 1) o L) ∧ (¬ tp T n i = c → ∃ A', g_119 N c A = some (0, A') ∧ PF A0 A' act i) := by
  have e := m_hr (N := N) h0 h.1 h.2.1 hi
  unfold g_119 g_119_8 g_119_11
  simp only [e_bd, e_bdn, e_st, e_li, e_bs, e_opn, e_ops, e_ob, e_vo, e_ia, e_eq, e_ne, e_lt, e_ge, e_gt, e_le, cond_true, cond_false, Bool.cond_decide, h.2.2.1, not_true, if_false, e]
  constructor
  · intro hc
    rw [if_pos hc]
    simp only [show (decide ((0 : Int32) = 0) || decide ((0 : Int32) = 1)) = true by decide, e_bd, e_bdn, e_st, e_li, e_bs, e_opn, e_ops, e_ob, e_vo, e_ia, e_eq, e_ne, e_lt, e_ge, e_gt, e_le, cond_true, cond_false, Bool.cond_decide, up_id h.2.2.1, h.2.2.1, if_true, h.2.1, show Int32.ofNat (i) + 1 = Int32.ofNat (i + 1) from o_add (q := 1)]
    exact ⟨_, rfl, PM_up6 h⟩
  · intro hc
    rw [if_neg hc]
    simp only [show (decide ((1 : Int32) = 0) || decide ((1 : Int32) = 1)) = true by decide, e_bd, e_bdn, e_st, e_li, e_bs, e_opn, e_ops, e_ob, e_vo, e_ia, e_eq, e_ne, e_lt, e_ge, e_gt, e_le, cond_true, cond_false, Bool.cond_decide, va_up_self, upd_self, show ¬ (1 : Int32) = 0 by decide, if_false, Int32.add_zero]
    refine ⟨_, rfl, ?_⟩
    have hw := PF_wr h.1 h.2.1
    rw [show va_up (va_up A 99 (upd (A 99) 8 1)) 99 (upd (upd (A 99) 8 1) 6 (upd (A 99) 8 1 6)) = va_up A 99 (upd (A 99) 8 1) from by
      have := up_id (A := va_up A 99 (upd (A 99) 8 1)) (f := 6) rfl
      rw [va_up_self] at this
      exact this]
    exact hw
theorem id_ms (h : A 99 8 = 1) (c : Int32) : g_119 N c A = some (0, A) := by
  unfold g_119 g_119_8 g_119_11
  simp only [e_bd, e_bdn, e_st, e_li, e_bs, e_opn, e_ops, e_ob, e_vo, e_ia, e_eq, e_ne, e_lt, e_ge, e_gt, e_le, cond_true, cond_false, Bool.cond_decide, h, show ¬ (1 : Int32) = 0 by decide, not_false_eq_true, if_true, if_false, show (decide ((1 : Int32) = 0) || decide ((1 : Int32) = 1)) = true by decide, up_id h, Int32.add_zero]
  rw [up_id rfl]
  rfl
theorem id_em (h : A 99 8 = 1) (x : Int32) : g_123 N x A = some (0, A) := by
  unfold g_123
  simp only [e_bd, e_bdn, e_st, e_li, e_bs, e_opn, e_ops, e_ob, e_vo, e_ia, e_eq, e_ne, e_lt, e_ge, e_gt, e_le, cond_true, cond_false, Bool.cond_decide, h, show ¬ (1 : Int32) = 0 by decide, not_false_eq_true, if_true]
theorem m_em (h0 : HM A0 T n act) (h : PM A0 A act i o L) (hl : L.length < 140) (x : Int32) : ∃ A', g_123 N x A = some (0, A') ∧ PM A0 A' act i o (L ++ [x]) := by
  obtain ⟨ha, hn, h5, h7, ht⟩ := h0
  obtain ⟨hg, h6, h8, h9, hc, hs⟩ := h
  have h5' : A 99 5 = Int32.ofNat act := (hg.2.1 5 (by decide)).trans h5
  have e1 : (242 : Int32) + Int32.ofNat act = Int32.ofNat (242 + act) := o_add (p := 242)
  have e2 : (247 : Int32) + 140 * Int32.ofNat act + Int32.ofNat L.length = Int32.ofNat (247 + 140 * act + L.length) := by
    rw [show (247 : Int32) = Int32.ofNat 247 from rfl, show (140 : Int32) = Int32.ofNat 140 from rfl, o_mul, o_add, o_add]
  unfold g_123
  simp only [e_bd, e_bdn, e_st, e_li, e_bs, e_opn, e_ops, e_ob, e_vo, e_ia, e_eq, e_ne, e_lt, e_ge, e_gt, e_le, cond_true, cond_false, Bool.cond_decide, h8, not_true, if_false, h5', e1, show a_in (Int32.ofNat (242 + act)) 947 = true by rw [o_in (by omega)]; simp; omega, o_cl (show 242 + act < 2147483648 by omega), hc, e2, show a_in (Int32.ofNat (247 + 140 * act + L.length)) 947 = true by rw [o_in (by omega)]; simp; omega, o_cl (show 247 + 140 * act + L.length < 2147483648 by omega), va_up_ne _ _ (show (99 : Nat) ≠ 0 by decide), va_up_self, upd_ne _ _ (show 242 + act ≠ 247 + 140 * act + L.length by omega), show Int32.ofNat (L.length) + 1 = Int32.ofNat (L.length + 1) from o_add (q := 1)]
  refine ⟨_, rfl, ⟨fr_up (fr_up hg.1 (by simp)) (by simp), fun f hf => by rw [va_up_ne _ _ (by decide), va_up_ne _ _ (by decide)]; exact hg.2.1 f hf, ?_⟩, ?_, ?_, ?_, ?_, ?_⟩
  · intro j hj
    have hj' := hj
    unfold SL at hj
    rw [va_up_self, upd_ne _ _ (by omega), upd_ne _ _ (by omega)]
    exact hg.2.2 j hj'
  · rw [va_up_ne _ _ (by decide), va_up_ne _ _ (by decide)]; exact h6
  · rw [va_up_ne _ _ (by decide), va_up_ne _ _ (by decide)]; exact h8
  · rw [va_up_ne _ _ (by decide), va_up_ne _ _ (by decide)]; exact h9
  · rw [va_up_self, upd_self]; simp
  · rw [va_up_self]
    refine sg_congr (fun j hj => upd_ne _ _ (by omega)) (sg_snoc hs)
theorem m_dg {c : Int32} : g_112 N c 48 57 A = some (b_i (dg c), A) := by
  rw [m_in]
  congr 3
  unfold dg
  rw [decide_eq_decide, z_le, z_le]
  rfl
theorem id_fi (hN : 10 ≤ N) (h : A 99 8 = 1) : g_121 N A = some (0, A) := by
  obtain ⟨q, rfl⟩ : ∃ q, N = q + 1 := ⟨N - 1, by omega⟩
  unfold g_121 g_121_10
  simp only [e_bd, e_bdn, e_st, e_li, e_bs, e_opn, e_ops, e_ob, e_vo, e_ia, e_eq, e_ne, e_lt, e_ge, e_gt, e_le, cond_true, cond_false, Bool.cond_decide, h, show ¬ (1 : Int32) = 0 by decide, not_false_eq_true, if_true, up_id h]
  show g_121_18b _ _ _ _ _ = _
  unfold g_121_18b
  simp only [e_bd, e_bdn, e_st, e_li, e_bs, e_opn, e_ops, e_ob, e_vo, e_ia, e_eq, e_ne, e_lt, e_ge, e_gt, e_le, cond_true, cond_false, Bool.cond_decide, show ¬ (2 : Int32) ≤ 0 by decide, if_false, h, show ¬ (1 : Int32) = 0 by decide, not_false_eq_true, if_true]
theorem m_fi (hN : 10 ≤ N) (h0 : HM A0 T n act) (h : PM A0 A act i o L) (hi : i ≤ n) : (∀ j v, sNum T n i = (j, some v) → ∃ A', g_121 N A = some (Int32.ofNat v, A') ∧ PM A0 A' act j o L) ∧ (∀ j, sNum T n i = (j, none) → ∃ A', g_121 N A = some (0, A') ∧ PF A0 A' act j) := by
  obtain ⟨q, rfl⟩ : ∃ q, N = q + 3 := ⟨N - 3, by omega⟩
  have e := m_hr (N := q + 3) h0 h.1 h.2.1 hi
  have hn120 := h0.2.1
  unfold sNum g_121 g_121_10
  simp only [e_bd, e_bdn, e_st, e_li, e_bs, e_opn, e_ops, e_ob, e_vo, e_ia, e_eq, e_ne, e_lt, e_ge, e_gt, e_le, cond_true, cond_false, Bool.cond_decide, h.2.2.1, not_true, if_false, e, m_dg, up_id h.2.2.1]
  by_cases c : dg (tp T n i) = true
  · have hlt := dg_lt c
    obtain ⟨hd1, hd2⟩ := dg_dv c
    rw [c]
    simp only [show ¬ b_i true = 0 by decide, not_false_eq_true, if_true]
    have hx : (10 : Int32) * 0 + tp T n i - 48 = Int32.ofNat (dv (tp T n i)) := by
      rw [hd2, show (10 : Int32) * 0 = Int32.ofNat 0 from rfl, show (48 : Int32) = Int32.ofNat 48 from rfl, o_add, o_sub (by omega)]
      congr 1
      have : dv (Int32.ofNat (48 + dv (tp T n i))) = dv (tp T n i) := by rw [← hd2]
      omega
    have s1 : g_121_18 (q + 3) (q + 3) 0 0 A = g_121_18 (q + 3) (q + 2) (Int32.ofNat (dv (tp T n i))) 1 (va_up A 99 (upd (A 99) 6 (Int32.ofNat (i + 1)))) := by
      show g_121_18b _ _ _ _ _ = _
      unfold g_121_18b g_121_34
      simp only [e_bd, e_bdn, e_st, e_li, e_bs, e_opn, e_ops, e_ob, e_vo, e_ia, e_eq, e_ne, e_lt, e_ge, e_gt, e_le, cond_true, cond_false, Bool.cond_decide, show ¬ (2 : Int32) ≤ 0 by decide, if_false, h.2.2.1, not_true, e, m_dg, c, show ¬ b_i true = 0 by decide, if_true, hx, h.2.1, show Int32.ofNat (i) + 1 = Int32.ofNat (i + 1) from o_add (q := 1), show (0 : Int32) + 1 = 1 by decide]
    rw [s1]
    have h' := PM_up6 (i' := i + 1) h
    generalize va_up A 99 (upd (A 99) 6 (Int32.ofNat (i + 1))) = A1 at h'
    have e' := m_hr (N := q + 3) h0 h'.1 h'.2.1 (show i + 1 ≤ n by omega)
    have s2 : g_121_18 (q + 3) (q + 2) (Int32.ofNat (dv (tp T n i))) 1 A1 = (if dv (tp T n i) = 0 ∨ dg (tp T n (i + 1)) = false then some (Int32.ofNat (dv (tp T n i)), A1) else some (Int32.ofNat (10 * dv (tp T n i) + dv (tp T n (i + 1))), va_up A1 99 (upd (A1 99) 6 (Int32.ofNat (i + 1 + 1))))) := by
      show g_121_18b _ _ _ _ _ = _
      unfold g_121_18b g_121_34
      have hz : (Int32.ofNat (dv (tp T n i)) ≤ 0) ↔ dv (tp T n i) = 0 := by
        rw [show (0 : Int32) = Int32.ofNat 0 from rfl, o_le (by omega) (by omega)]; omega
      simp only [e_bd, e_bdn, e_st, e_li, e_bs, e_opn, e_ops, e_ob, e_vo, e_ia, e_eq, e_ne, e_lt, e_ge, e_gt, e_le, cond_true, cond_false, Bool.cond_decide, show ¬ (2 : Int32) ≤ 1 by decide, if_false, h'.2.2.1, not_true, e', m_dg, show ¬ (1 : Int32) = 0 by decide, hz, h'.2.1, show Int32.ofNat (i + 1) + 1 = Int32.ofNat (i + 1 + 1) from o_add (q := 1)]
      cases c2 : dg (tp T n (i + 1))
      · rw [if_pos (show b_i false = 0 from rfl), if_pos (.inr rfl)]
      · rw [if_neg (show ¬ b_i true = 0 by decide)]
        by_cases c3 : dv (tp T n i) = 0
        · rw [if_pos c3, if_pos (.inl c3)]
        · rw [if_neg c3, if_neg (by simp [c3])]
          obtain ⟨hd3, hd4⟩ := dg_dv c2
          have hy : (10 : Int32) * Int32.ofNat (dv (tp T n i)) + tp T n (i + 1) - 48 = Int32.ofNat (10 * dv (tp T n i) + dv (tp T n (i + 1))) := by
            have hd5 : tp T n (i + 1) = Int32.ofNat (48 + dv (tp T n (i + 1))) := hd4
            generalize dv (tp T n (i + 1)) = w at hd5
            rw [hd5, show (10 : Int32) = Int32.ofNat 10 from rfl, show (48 : Int32) = Int32.ofNat 48 from rfl, o_mul, o_add, o_sub (by omega)]
            congr 1
            omega
          rw [hy]
          show g_121_18b _ _ _ _ _ = _
          unfold g_121_18b
          simp only [e_bd, e_bdn, e_st, e_li, e_bs, e_opn, e_ops, e_ob, e_vo, e_ia, e_eq, e_ne, e_lt, e_ge, e_gt, e_le, cond_true, cond_false, Bool.cond_decide, show (2 : Int32) ≤ 1 + 1 by decide, if_true]
    rw [s2]
    by_cases c2 : dv (tp T n i) = 0 ∨ dg (tp T n (i + 1)) = false
    · rw [if_pos c2, if_pos c2]
      exact ⟨fun j v hh => by cases hh; exact ⟨_, rfl, h'⟩, fun j hh => (by cases hh)⟩
    · rw [if_neg c2, if_neg c2]
      exact ⟨fun j v hh => by cases hh; exact ⟨_, rfl, PM_up6 h'⟩, fun j hh => (by cases hh)⟩
  · have c' : dg (tp T n i) = false := by cases hh : dg (tp T n i); rfl; exact absurd hh c
    rw [c']
    simp only [show b_i false = 0 from rfl, not_true, if_false]
    refine ⟨fun j v hh => (by simp at hh), fun j hh => ?_⟩
    simp at hh
    subst hh
    have hw := PF_wr h.1 h.2.1
    generalize va_up A 99 (upd (A 99) 8 1) = A1 at hw
    refine ⟨A1, ?_, hw⟩
    show g_121_18b _ _ _ _ _ = _
    unfold g_121_18b
    simp only [e_bd, e_bdn, e_st, e_li, e_bs, e_opn, e_ops, e_ob, e_vo, e_ia, e_eq, e_ne, e_lt, e_ge, e_gt, e_le, cond_true, cond_false, Bool.cond_decide, show ¬ (2 : Int32) ≤ 0 by decide, if_false, hw.2.2, show ¬ (1 : Int32) = 0 by decide, not_false_eq_true, if_true]
theorem tl6 : t_len 6 = some 5 := by decide +kernel
theorem tl7 : t_len 7 = some 3 := by decide +kernel
theorem tc6 : t_chr 6 0 = some 119 ∧ t_chr 6 1 = some 121 ∧ t_chr 6 2 = some 100 ∧ t_chr 6 3 = some 112 ∧ t_chr 6 4 = some 107 := by decide +kernel
theorem tc7 : t_chr 7 0 = some 60 ∧ t_chr 7 1 = some 61 ∧ t_chr 7 2 = some 62 := by decide +kernel
theorem m_as (hN : 10 ≤ N) (h0 : HM A0 T n act) (h : PM A0 A act i o L) (hi : i ≤ n) : (∀ a, aIx (tp T n i) = some a → ∃ A', g_122 N 6 A = some (Int32.ofNat a, A') ∧ PM A0 A' act (i + 1) o L) ∧ (aIx (tp T n i) = none → g_122 N 6 A = some (-1, A)) := by
  obtain ⟨q, rfl⟩ : ∃ q, N = q + 6 := ⟨N - 6, by omega⟩
  have e := m_hr (N := q + 6) h0 h.1 h.2.1 hi
  have h' := PM_up6 (i' := i + 1) h
  have hstep : ∀ (m : Nat) (k c k' : Int32), t_chr 6 k = some c → ¬ (5 : Int32) ≤ k → k + 1 = k' → g_122_2 (q + 6) (m + 1) 6 k A = if tp T n i = c then some (k, va_up A 99 (upd (A 99) 6 (Int32.ofNat (i + 1)))) else g_122_2 (q + 6) m 6 k' A := by
    intro m k c k' hc hk hk'
    show g_122_2b _ _ _ _ _ = _
    unfold g_122_2b
    simp only [tl6, hc, e_bd, e_bdn, e_st, e_li, e_bs, e_opn, e_ops, e_ob, e_vo, e_ia, e_eq, e_ne, e_lt, e_ge, e_gt, e_le, cond_true, cond_false, Bool.cond_decide, hk, if_false, e, h.2.1, show Int32.ofNat (i) + 1 = Int32.ofNat (i + 1) from o_add (q := 1), hk']
    by_cases cc : tp T n i = c
    · rw [if_neg (by simp [cc]), if_pos cc]
    · rw [if_pos cc, if_neg cc]
  obtain ⟨t0, t1, t2, t3, t4⟩ := tc6
  have eg : g_122 (q + 6) 6 A = if tp T n i = 119 then some (0, va_up A 99 (upd (A 99) 6 (Int32.ofNat (i + 1)))) else if tp T n i = 121 then some (1, va_up A 99 (upd (A 99) 6 (Int32.ofNat (i + 1)))) else if tp T n i = 100 then some (2, va_up A 99 (upd (A 99) 6 (Int32.ofNat (i + 1)))) else if tp T n i = 112 then some (3, va_up A 99 (upd (A 99) 6 (Int32.ofNat (i + 1)))) else if tp T n i = 107 then some (4, va_up A 99 (upd (A 99) 6 (Int32.ofNat (i + 1)))) else some (-1, A) := by
    unfold g_122
    rw [hstep (q + 5) 0 119 1 t0 (by decide) (by decide), hstep (q + 4) 1 121 2 t1 (by decide) (by decide), hstep (q + 3) 2 100 3 t2 (by decide) (by decide), hstep (q + 2) 3 112 4 t3 (by decide) (by decide), hstep (q + 1) 4 107 5 t4 (by decide) (by decide)]
    rw [show g_122_2 (q + 6) (q + 1) 6 5 A = some (-1, A) from by
      show g_122_2b _ _ _ _ _ = _
      unfold g_122_2b
      simp only [tl6, e_bd, e_bdn, e_st, e_li, e_bs, e_opn, e_ops, e_ob, e_vo, e_ia, e_eq, e_ne, e_lt, e_ge, e_gt, e_le, cond_true, cond_false, Bool.cond_decide, show (5 : Int32) ≤ 5 by decide, if_true]]
  rw [eg]
  unfold aIx
  generalize tp T n i = c
  by_cases c0 : c = 119
  · simp only [c0, if_true]
    exact ⟨fun a ha => by cases ha; exact ⟨_, rfl, h'⟩, fun ha => (by cases ha)⟩
  · simp only [c0, if_false]
    by_cases c1 : c = 121
    · simp only [c1, if_true]
      exact ⟨fun a ha => by cases ha; exact ⟨_, rfl, h'⟩, fun ha => (by cases ha)⟩
    · simp only [c1, if_false]
      by_cases c2 : c = 100
      · simp only [c2, if_true]
        exact ⟨fun a ha => by cases ha; exact ⟨_, rfl, h'⟩, fun ha => (by cases ha)⟩
      · simp only [c2, if_false]
        by_cases c3 : c = 112
        · simp only [c3, if_true]
          exact ⟨fun a ha => by cases ha; exact ⟨_, rfl, h'⟩, fun ha => (by cases ha)⟩
        · simp only [c3, if_false]
          by_cases c4 : c = 107
          · simp only [c4, if_true]
            exact ⟨fun a ha => by cases ha; exact ⟨_, rfl, h'⟩, fun ha => (by cases ha)⟩
          · simp only [c4, if_false]
            exact ⟨fun a ha => (by cases ha), fun _ => trivial⟩
theorem m_sg (hN : 10 ≤ N) (h0 : HM A0 T n act) (h : PM A0 A act i o L) (hi : i ≤ n) : (∀ a, gIx (tp T n i) = some a → ∃ A', g_122 N 7 A = some (Int32.ofNat a, A') ∧ PM A0 A' act (i + 1) o L) ∧ (gIx (tp T n i) = none → g_122 N 7 A = some (-1, A)) := by
  obtain ⟨q, rfl⟩ : ∃ q, N = q + 4 := ⟨N - 4, by omega⟩
  have e := m_hr (N := q + 4) h0 h.1 h.2.1 hi
  have h' := PM_up6 (i' := i + 1) h
  have hstep : ∀ (m : Nat) (k c k' : Int32), t_chr 7 k = some c → ¬ (3 : Int32) ≤ k → k + 1 = k' → g_122_2 (q + 4) (m + 1) 7 k A = if tp T n i = c then some (k, va_up A 99 (upd (A 99) 6 (Int32.ofNat (i + 1)))) else g_122_2 (q + 4) m 7 k' A := by
    intro m k c k' hc hk hk'
    show g_122_2b _ _ _ _ _ = _
    unfold g_122_2b
    simp only [tl7, hc, e_bd, e_bdn, e_st, e_li, e_bs, e_opn, e_ops, e_ob, e_vo, e_ia, e_eq, e_ne, e_lt, e_ge, e_gt, e_le, cond_true, cond_false, Bool.cond_decide, hk, if_false, e, h.2.1, show Int32.ofNat (i) + 1 = Int32.ofNat (i + 1) from o_add (q := 1), hk']
    by_cases cc : tp T n i = c
    · rw [if_neg (by simp [cc]), if_pos cc]
    · rw [if_pos cc, if_neg cc]
  obtain ⟨t0, t1, t2⟩ := tc7
  have eg : g_122 (q + 4) 7 A = if tp T n i = 60 then some (0, va_up A 99 (upd (A 99) 6 (Int32.ofNat (i + 1)))) else if tp T n i = 61 then some (1, va_up A 99 (upd (A 99) 6 (Int32.ofNat (i + 1)))) else if tp T n i = 62 then some (2, va_up A 99 (upd (A 99) 6 (Int32.ofNat (i + 1)))) else some (-1, A) := by
    unfold g_122
    rw [hstep (q + 3) 0 60 1 t0 (by decide) (by decide), hstep (q + 2) 1 61 2 t1 (by decide) (by decide), hstep (q + 1) 2 62 3 t2 (by decide) (by decide)]
    rw [show g_122_2 (q + 4) (q + 1) 7 3 A = some (-1, A) from by
      show g_122_2b _ _ _ _ _ = _
      unfold g_122_2b
      simp only [tl7, e_bd, e_bdn, e_st, e_li, e_bs, e_opn, e_ops, e_ob, e_vo, e_ia, e_eq, e_ne, e_lt, e_ge, e_gt, e_le, cond_true, cond_false, Bool.cond_decide, show (3 : Int32) ≤ 3 by decide, if_true]]
  rw [eg]
  unfold gIx
  generalize tp T n i = c
  by_cases c0 : c = 60
  · simp only [c0, if_true]
    exact ⟨fun a ha => by cases ha; exact ⟨_, rfl, h'⟩, fun ha => (by cases ha)⟩
  · simp only [c0, if_false]
    by_cases c1 : c = 61
    · simp only [c1, if_true]
      exact ⟨fun a ha => by cases ha; exact ⟨_, rfl, h'⟩, fun ha => (by cases ha)⟩
    · simp only [c1, if_false]
      by_cases c2 : c = 62
      · simp only [c2, if_true]
        exact ⟨fun a ha => by cases ha; exact ⟨_, rfl, h'⟩, fun ha => (by cases ha)⟩
      · simp only [c2, if_false]
        exact ⟨fun a ha => (by cases ha), fun _ => trivial⟩
end MPS
