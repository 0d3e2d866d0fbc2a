/-! 81.cps: the class reads a text -/
def HC (C0 : mS) (T : Nat → Int32) (n : Nat) : Prop := n ≤ 120 ∧ C0 91 8 = Int32.ofNat n ∧ ∀ j, j < n → C0 0 j = T j
def f3 (S : List Nat) (C C' : mS) : Prop := ∀ f, f ∉ S → C' 91 f = C 91 f
theorem f3_up {S : List Nat} {A B : mS} {f : Nat} {x : Int32} (h : f3 S A B) (hf : f ∈ S) : f3 S A (va_up B 91 (upd (B 91) f x)) := fun i hi => by
  have hne : i ≠ f := fun e => hi (by rw [e]; exact hf)
  rw [va_up_self, upd_ne _ _ hne]
  exact h i hi
def CG (C0 C : mS) : Prop := fr [6, 91] C0 C ∧ f3 [3, 9, 10] C0 C
def PC (C0 C : mS) (T : Nat → Int32) (n i : Nat) (L : List Int32) : Prop := CG C0 C ∧ C 91 9 = Int32.ofNat i ∧ C 91 10 = tp T n i ∧ C 91 3 = Int32.ofNat L.length ∧ sg (C 6) 0 L
def PD (C0 C : mS) (i : Nat) : Prop := CG C0 C ∧ C 91 9 = Int32.ofNat i
def RC (C0 : mS) (T : Nat → Int32) (n : Nat) (L : List Int32) (m : Option (Int32 × mS)) (x : sR) : Prop := (∀ j ts, x = (j, some ts) → ∃ C', m = some (1, C') ∧ PC C0 C' T n j (L ++ ts.map t_c)) ∧ (∀ j, x = (j, none) → ∃ C', m = some (0, C') ∧ PD C0 C' j)
def FC (C0 : mS) (T : Nat → Int32) (n o : Nat) (rf : Int32 → mS → Option (Int32 × mS)) (f : Nat → sR) : Prop := ∀ C i L, PC C0 C T n i L → L.length ≤ i → i ≤ n → RC C0 T n L (rf (Int32.ofNat o) C) (f i)
section CPS
variable {N : Nat} {P : Nat → Option Nat} {vl : Option Nat} {R : List aC} {C0 C : mS} {T : Nat → Int32} {n i o : Nat} {L : List Int32}
theorem CG_up {f : Nat} {x : Int32} (h : CG C0 C) (hf : f ∈ [3, 9, 10]) : CG C0 (va_up C 91 (upd (C 91) f x)) := ⟨fr_up h.1 (by simp), f3_up h.2 hf⟩
theorem PD_of (h : PC C0 C T n i L) : PD C0 C i := ⟨h.1, h.2.1⟩
theorem c_stp (h0 : HC C0 T n) (h : PC C0 C T n i L) (hi : i < 1000) : ∃ C', k_43 N P vl R C = some (0, C') ∧ PC C0 C' T n (i + 1) L := by
  obtain ⟨hn, h8, ht⟩ := h0
  obtain ⟨hg, h9, h10, h3, hs⟩ := h
  have h8' : C 91 8 = Int32.ofNat n := (hg.2 8 (by decide)).trans h8
  have h00 : C 0 = C0 0 := fr_at hg.1 (by decide)
  unfold k_43
  simp only [e_bd, e_bdn, e_st, e_li, e_bs, e_opn, e_ops, e_ob, e_vo, e_ia, e_eq, e_ne, e_lt, e_ge, e_gt, e_le, cond_true, cond_false, Bool.cond_decide, h9, h8', show Int32.ofNat (i) + 1 = Int32.ofNat (i + 1) from o_add (q := 1), o_le (show n < 2147483648 by omega) (show i + 1 < 2147483648 by omega), va_up_self, upd_self]
  by_cases c : n ≤ i + 1
  · rw [if_pos c]
    refine ⟨_, rfl, ⟨?_, ?_, ?_, ?_, ?_⟩⟩
    · exact ⟨fr_up (fr_up hg.1 (by simp)) (by simp), fun f hf => by
        simp at hf
        rw [va_up_self, upd_ne _ _ (by omega), upd_ne _ _ (by omega)]
        exact hg.2 f (by simp; omega)⟩
    · rw [va_up_self, upd_ne _ _ (by decide), upd_self]
    · rw [va_up_self, upd_self]; unfold tp; rw [if_neg (by omega)]
    · rw [va_up_self, upd_ne _ _ (by decide), upd_ne _ _ (by decide)]; exact h3
    · rw [va_up_ne _ _ (by decide), va_up_ne _ _ (by decide)]; exact hs
  · rw [if_neg c]
    simp only [show a_in (Int32.ofNat (i + 1)) 120 = true by rw [o_in (by omega)]; simp; omega, o_cl (show i + 1 < 2147483648 by omega), e_bd, e_bdn, e_st, e_li, e_bs, e_opn, e_ops, e_ob, e_vo, e_ia, e_eq, e_ne, e_lt, e_ge, e_gt, e_le, cond_true, cond_false, Bool.cond_decide, va_up_ne _ _ (show (0 : Nat) ≠ 91 by decide), h00, ht (i + 1) (by omega)]
    refine ⟨_, rfl, ⟨?_, ?_, ?_, ?_, ?_⟩⟩
    · exact ⟨fr_up (fr_up hg.1 (by simp)) (by simp), fun f hf => by
        simp at hf
        rw [va_up_self, upd_ne _ _ (by omega), upd_ne _ _ (by omega)]
        exact hg.2 f (by simp; omega)⟩
    · rw [va_up_self, upd_ne _ _ (by decide), upd_self]
    · rw [va_up_self, upd_self]; unfold tp; rw [if_pos (by omega)]
    · rw [va_up_self, upd_ne _ _ (by decide), upd_ne _ _ (by decide)]; exact h3
    · rw [va_up_ne _ _ (by decide), va_up_ne _ _ (by decide)]; exact hs
theorem c_put (h : PC C0 C T n i L) (hl : L.length < 120) (x : Int32) : ∃ C', k_54 N P vl R x C = some (1, C') ∧ PC C0 C' T n i (L ++ [x]) := by
  obtain ⟨hg, h9, h10, h3, hs⟩ := h
  unfold k_54
  simp only [e_bd, e_bdn, e_st, e_li, e_bs, e_opn, e_ops, e_ob, e_vo, e_ia, e_eq, e_ne, e_lt, e_ge, e_gt, e_le, cond_true, cond_false, Bool.cond_decide, h3, show Int32.ofNat L.length < 120 by rw [show (120 : Int32) = Int32.ofNat 120 from rfl, o_lt (by omega) (by omega)]; omega, if_true, show a_in (Int32.ofNat (L.length)) 120 = true by rw [o_in (by omega)]; simp; omega, o_cl (show L.length < 2147483648 by omega), va_up_ne _ _ (show (91 : Nat) ≠ 6 by decide), show Int32.ofNat (L.length) + 1 = Int32.ofNat (L.length + 1) from o_add (q := 1)]
  refine ⟨_, rfl, ⟨⟨fr_up (fr_up hg.1 (by simp)) (by simp), fun f hf => by
        simp at hf
        rw [va_up_self, upd_ne _ _ (by omega)]
        exact hg.2 f (by simp; omega)⟩, ?_, ?_, ?_, ?_⟩⟩
  · rw [va_up_self, upd_ne _ _ (by decide)]; exact h9
  · rw [va_up_self, upd_ne _ _ (by decide)]; exact h10
  · rw [va_up_self, upd_self]; simp
  · rw [va_up_ne _ _ (by decide), va_up_self]
    have := sg_snoc (x := x) hs
    rw [Nat.zero_add] at this
    exact this
theorem c_w1 {w q : Nat} (hw : w < 8) (h0 : HC C0 T n) : ∀ (l : List Int32) (k i : Nat) (C : mS), k + l.length = (wd w).length → (∀ j, j < l.length → (wd w).getD (k + j) 0 = l.getD j 0) → (∀ c, c ∈ l → c ≠ -1) → PC C0 C T n i L → i ≤ n → (∀ j, sWd T n l i = (j, true) → ∃ C', k_46_2 N P vl R (l.length + 1 + q) w (Int32.ofNat k) C = some (1, C') ∧ PC C0 C' T n j L) ∧ (∀ j, sWd T n l i = (j, false) → ∃ C', k_46_2 N P vl R (l.length + 1 + q) w (Int32.ofNat k) C = some (0, C') ∧ PD C0 C' j) := by
  have hs := wd_s w hw
  have hn := h0.1
  intro l
  induction l with
  | nil =>
    intro k i C hk hc hne h hi
    simp only [List.length_nil] at hk ⊢
    refine ⟨fun j hh => ?_, fun j hh => (by cases hh)⟩
    cases hh
    refine ⟨C, ?_, h⟩
    rw [show 0 + 1 + q = q + 1 by omega]
    show k_46_2b _ _ _ _ _ _ _ _ = _
    unfold k_46_2b
    simp only [t_lenw hw, e_bd, e_bdn, e_st, e_li, e_bs, e_opn, e_ops, e_ob, e_vo, e_ia, e_eq, e_ne, e_lt, e_ge, e_gt, e_le, cond_true, cond_false, Bool.cond_decide, show Int32.ofNat ((wd w).length) ≤ Int32.ofNat (k) by rw [o_le (by omega) (by omega)]; omega, if_true]
  | cons c l ih =>
    intro k i C hk hc hne h hi
    simp only [List.length_cons] at hk hc ⊢
    have hck := hc 0 (by omega)
    rw [Nat.add_zero] at hck
    have hck' : (wd w).getD k 0 = c := hck
    obtain ⟨C1, e1, p1⟩ := c_stp (N := N) (P := P) (vl := vl) (R := R) h0 h (by omega)
    have est : k_46_2 N P vl R (l.length + 1 + 1 + q) w (Int32.ofNat k) C = if tp T n i = c then k_46_2 N P vl R (l.length + 1 + q) w (Int32.ofNat (k + 1)) C1 else some (0, C) := by
      rw [show l.length + 1 + 1 + q = (l.length + 1 + q) + 1 by omega]
      show k_46_2b _ _ _ _ _ _ _ _ = _
      unfold k_46_2b
      simp only [t_lenw hw, e_bd, e_bdn, e_st, e_li, e_bs, e_opn, e_ops, e_ob, e_vo, e_ia, e_eq, e_ne, e_lt, e_ge, e_gt, e_le, cond_true, cond_false, Bool.cond_decide, show ¬ Int32.ofNat ((wd w).length) ≤ Int32.ofNat (k) by rw [o_le (by omega) (by omega)]; omega, if_false, t_chrw hw (show k < (wd w).length by omega), hck', show Int32.ofNat (k) + 1 = Int32.ofNat (k + 1) from o_add (q := 1), h.2.2.1, e1]
    rw [est]
    unfold sWd
    by_cases e : tp T n i = c
    · rw [if_pos e, if_pos e]
      have hlt := tp_lt e (hne c List.mem_cons_self)
      exact ih (k + 1) (i + 1) C1 (by omega) (fun j hj => by
        have := hc (j + 1) (by omega)
        rw [show k + 1 + j = k + (j + 1) by omega, this]
        rfl) (fun c' h' => hne c' (List.mem_cons_of_mem _ h')) p1 (by omega)
    · rw [if_neg e, if_neg e]
      refine ⟨fun j hh => (by cases hh), fun j hh => ?_⟩
      cases hh
      exact ⟨C, rfl, PD_of h⟩
theorem wd_c8 : ∀ w, w < 8 → ∀ c, c ∈ wd w → c ≠ -1 := by decide +kernel
/-- word -/
theorem c_wd (hN : 200 ≤ N) {w : Nat} (hw : w < 8) (h0 : HC C0 T n) (h : PC C0 C T n i L) (hi : i ≤ n) : (∀ j, sWd T n (wd w) i = (j, true) → ∃ C', k_46 N P vl R w C = some (1, C') ∧ PC C0 C' T n j L) ∧ (∀ j, sWd T n (wd w) i = (j, false) → ∃ C', k_46 N P vl R w C = some (0, C') ∧ PD C0 C' j) := by
  have hs := wd_s w hw
  have := c_w1 (N := N) (P := P) (vl := vl) (R := R) (w := w) (q := N - ((wd w).length + 1)) hw h0 (wd w) 0 i C (by omega) (fun j _ => by rw [Nat.zero_add]) (wd_c8 w hw) h hi
  rw [show (wd w).length + 1 + (N - ((wd w).length + 1)) = N by omega] at this
  exact this
theorem dg_i {c : Int32} : (dg c = true) ↔ ¬ c < 48 ∧ c ≤ 57 := by
  unfold dg
  rw [decide_eq_true_iff, z_lt, z_le, show (48 : Int32).toInt = 48 from rfl, show (57 : Int32).toInt = 57 from rfl]
  omega
theorem dv_i {c : Int32} (h : dg c = true) : c - 48 = Int32.ofNat (dv c) := by
  obtain ⟨hd1, hd2⟩ := dg_dv h
  have hd5 : c = Int32.ofNat (48 + dv c) := hd2
  generalize dv c = w at hd5
  rw [hd5, show (48 : Int32) = Int32.ofNat 48 from rfl, o_sub (by omega)]
  congr 1
  omega
/-- number -/
theorem c_num (h0 : HC C0 T n) (h : PC C0 C T n i L) (hi : i ≤ n) : (∀ j v, sNum T n i = (j, some v) → ∃ C', k_48 N P vl R C = some (Int32.ofNat v, C') ∧ PC C0 C' T n j L) ∧ (∀ j, sNum T n i = (j, none) → ∃ C', k_48 N P vl R C = some (-1, C') ∧ PD C0 C' j) := by
  have hn := h0.1
  obtain ⟨C1, e1, p1⟩ := c_stp (N := N) (P := P) (vl := vl) (R := R) h0 h (by omega)
  obtain ⟨C2, e2, p2⟩ := c_stp (N := N) (P := P) (vl := vl) (R := R) h0 p1 (by omega)
  unfold sNum k_48
  simp only [e_bd, e_bdn, e_st, e_li, e_bs, e_opn, e_ops, e_ob, e_vo, e_ia, e_eq, e_ne, e_lt, e_ge, e_gt, e_le, cond_true, cond_false, Bool.cond_decide, h.2.2.1, e1, p1.2.2.1, e2]
  by_cases c : dg (tp T n i) = true
  · rw [if_pos c, if_neg (dg_i.mp c).1, if_pos (dg_i.mp c).2, dv_i c]
    have hd1 := (dg_dv c).1
    have hz : (Int32.ofNat (dv (tp T n i)) = 0) ↔ dv (tp T n i) = 0 := by
      rw [show (0 : Int32) = Int32.ofNat 0 from rfl, o_eq (by omega) (by omega)]
    by_cases c0 : dv (tp T n i) = 0
    · rw [if_pos (hz.mpr c0), if_pos (.inl c0)]
      exact ⟨fun j v hh => by cases hh; exact ⟨C1, rfl, p1⟩, fun j hh => (by cases hh)⟩
    · rw [if_neg (fun q => c0 (hz.mp q))]
      by_cases c2 : dg (tp T n (i + 1)) = true
      · rw [if_neg (dg_i.mp c2).1, if_pos (dg_i.mp c2).2, if_neg (by simp [c0, c2])]
        have hy : Int32.ofNat (dv (tp T n i)) * 10 + tp T n (i + 1) - 48 = Int32.ofNat (10 * dv (tp T n i) + dv (tp T n (i + 1))) := by
          have hd5 := (dg_dv c2).2
          have hd5' : tp T n (i + 1) = Int32.ofNat (48 + dv (tp T n (i + 1))) := hd5
          generalize dv (tp T n (i + 1)) = w at hd5'
          rw [hd5', show (10 : Int32) = Int32.ofNat 10 from rfl, show (48 : Int32) = Int32.ofNat 48 from rfl, o_mul, o_add, o_sub (by omega)]
          congr 1
          omega
        rw [hy]
        exact ⟨fun j v hh => by cases hh; exact ⟨C2, rfl, p2⟩, fun j hh => (by cases hh)⟩
      · have c2' : dg (tp T n (i + 1)) = false := by cases hh : dg (tp T n (i + 1)); rfl; exact absurd hh c2
        rw [if_pos (show dv (tp T n i) = 0 ∨ dg (tp T n (i + 1)) = false from .inr c2')]
        have hc : ¬ (¬ tp T n (i + 1) < 48 ∧ tp T n (i + 1) ≤ 57) := fun q => c2 (dg_i.mpr q)
        refine ⟨fun j v hh => ?_, fun j hh => (by cases hh)⟩
        cases hh
        refine ⟨C1, ?_, p1⟩
        split
        · rfl
        · rename_i q1
          rw [if_neg (fun q2 => hc ⟨q1, q2⟩)]
  · rw [if_neg c]
    have hc : ¬ (¬ tp T n i < 48 ∧ tp T n i ≤ 57) := fun q => c (dg_i.mpr q)
    refine ⟨fun j v hh => (by cases hh), fun j hh => ?_⟩
    cases hh
    refine ⟨C, ?_, PD_of h⟩
    split
    · rfl
    · rename_i q1
      rw [if_neg (fun q2 => hc ⟨q1, q2⟩)]
theorem lsw5 (x : Int32) : a_lsw 12 [(100, 55), (107, 59), (112, 57), (119, 51), (121, 53)] [6, 10, 8, 2, 4] x = if x = 100 then 6 else if x = 107 then 10 else if x = 112 then 8 else if x = 119 then 2 else if x = 121 then 4 else 12 := by
  simp only [a_lsw, ne_i (x := x) (show (100 : Int32).toInt = 100 from rfl), ne_i (x := x) (show (107 : Int32).toInt = 107 from rfl), ne_i (x := x) (show (112 : Int32).toInt = 112 from rfl), ne_i (x := x) (show (119 : Int32).toInt = 119 from rfl), ne_i (x := x) (show (121 : Int32).toInt = 121 from rfl)]
theorem c_ask {x : Int32} : k_53 N P vl R x C = some ((match aIx x with
  | some a => Int32.ofNat a
  | none => -1), C) := by
  unfold k_53 aIx
  simp only [lsw5]
  by_cases c1 : x = 100
  · subst c1; rfl
  · by_cases c2 : x = 107
    · subst c2; rfl
    · by_cases c3 : x = 112
      · subst c3; rfl
      · by_cases c4 : x = 119
        · subst c4; rfl
        · by_cases c5 : x = 121
          · subst c5; rfl
          · simp only [c1, c2, c3, c4, c5, if_false]
            rfl
theorem gIx_i {c : Int32} : (∀ g, gIx c = some g → ¬ c < 60 ∧ c ≤ 62 ∧ c - 60 = Int32.ofNat g) ∧ (gIx c = none → c < 60 ∨ ¬ c ≤ 62) := by
  unfold gIx
  by_cases c1 : c = 60
  · subst c1; exact ⟨fun g h => by cases h; decide, fun h => (by cases h)⟩
  · by_cases c2 : c = 61
    · subst c2; exact ⟨fun g h => by cases h; decide, fun h => (by cases h)⟩
    · by_cases c3 : c = 62
      · subst c3; exact ⟨fun g h => by cases h; decide, fun h => (by cases h)⟩
      · rw [if_neg c1, if_neg c2, if_neg c3]
        refine ⟨fun g h => (by cases h), fun _ => ?_⟩
        rw [z_eq, show (60 : Int32).toInt = 60 from rfl] at c1
        rw [z_eq, show (61 : Int32).toInt = 61 from rfl] at c2
        rw [z_eq, show (62 : Int32).toInt = 62 from rfl] at c3
        rw [z_lt, z_le, show (60 : Int32).toInt = 60 from rfl, show (62 : Int32).toInt = 62 from rfl]
        omega
/-- test -/
theorem c_te (h0 : HC C0 T n) (h : PC C0 C T n i L) (hl : L.length ≤ i) (hi : i ≤ n) : RC C0 T n L (k_52 N P vl R C) (sTest T n i) := by
  have hn := h0.1
  unfold sTest k_52
  rw [c_ask, h.2.2.1]
  simp only [e_bd, e_bdn, e_st, e_li, e_bs, e_opn, e_ops, e_ob, e_vo, e_ia, e_eq, e_ne, e_lt, e_ge, e_gt, e_le, cond_true, cond_false, Bool.cond_decide]
  cases ha : aIx (tp T n i) with
  | none =>
    simp only [show ¬ (0 : Int32) ≤ -1 by decide, if_false]
    exact ⟨fun j ts hh => (by cases hh), fun j hh => by cases hh; exact ⟨C, rfl, PD_of h⟩⟩
  | some a =>
    have ha5 := (aIx_ok ha).1
    have hlt := tp_lt (T := T) (n := n) rfl (aIx_ok ha).2
    obtain ⟨C1, e1, p1⟩ := c_stp (N := N) (P := P) (vl := vl) (R := R) h0 h (by omega)
    obtain ⟨C2, e2, p2⟩ := c_stp (N := N) (P := P) (vl := vl) (R := R) h0 p1 (by omega)
    simp only [show (0 : Int32) ≤ Int32.ofNat a by rw [show (0 : Int32) = Int32.ofNat 0 from rfl, o_le (by omega) (by omega)]; omega, if_true, e1, e_bd, e_bdn, e_st, e_li, e_bs, e_opn, e_ops, e_ob, e_vo, e_ia, e_eq, e_ne, e_lt, e_ge, e_gt, e_le, cond_true, cond_false, Bool.cond_decide, p1.2.2.1, e2]
    cases hg : gIx (tp T n (i + 1)) with
    | none =>
      have hh2 := gIx_i.2 hg
      refine ⟨fun j ts hh => (by cases hh), fun j hh => ?_⟩
      cases hh
      refine ⟨C1, ?_, PD_of p1⟩
      rcases hh2 with q | q
      · rw [if_pos q]
      · split
        · rfl
        · first | rfl | rw [if_neg q]
    | some g =>
      obtain ⟨q1, q2, q3⟩ := gIx_i.1 g hg
      have hg3 := (gIx_ok hg).1
      have hlt2 := tp_lt (T := T) (n := n) rfl (gIx_ok hg).2
      rw [if_neg q1, if_pos q2, q3]
      have h3 := c_num (N := N) (P := P) (vl := vl) (R := R) h0 p2 (show i + 1 + 1 ≤ n by omega)
      have h4 := sNum_ok (T := T) (n := n) (show i + 2 ≤ n by omega)
      cases hs : sNum T n (i + 2) with
      | mk j ov => cases ov with
        | none =>
          obtain ⟨C3, e3, p3⟩ := h3.2 j hs
          refine ⟨fun j' ts hh => (by cases hh), fun j' hh => ?_⟩
          cases hh
          exact ⟨C3, by simp only [e3, e_bd, e_bdn, e_st, e_li, e_bs, e_opn, e_ops, e_ob, e_vo, e_ia, e_eq, e_ne, e_lt, e_ge, e_gt, e_le, cond_true, cond_false, Bool.cond_decide, show (-1 : Int32) < 0 by decide, if_true], p3⟩
        | some v =>
          obtain ⟨C3, e3, p3⟩ := h3.1 j v hs
          have h5 := h4.1 j v hs
          have hx : (Int32.ofNat a * 3 + Int32.ofNat g) * 100 + Int32.ofNat v = t_c (0, a, g, v) := by
            rw [show (3 : Int32) = Int32.ofNat 3 from rfl, show (100 : Int32) = Int32.ofNat 100 from rfl, o_mul, o_add, o_mul, o_add]
            rfl
          obtain ⟨C4, e4, p4⟩ := c_put (N := N) (P := P) (vl := vl) (R := R) p3 (by omega) (t_c (0, a, g, v))
          refine ⟨fun j' ts hh => ?_, fun j' hh => (by cases hh)⟩
          cases hh
          exact ⟨C4, by simp only [e3, e_bd, e_bdn, e_st, e_li, e_bs, e_opn, e_ops, e_ob, e_vo, e_ia, e_eq, e_ne, e_lt, e_ge, e_gt, e_le, cond_true, cond_false, Bool.cond_decide, o_neg (show v < 2147483648 by omega), if_false, hx, e4, show ¬ (1 : Int32) = 0 by decide], p4⟩
end CPS
