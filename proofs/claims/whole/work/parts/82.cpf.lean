/-! 82.cpf: the class's expression and factor -/
section CPF
variable {N : Nat} {P : Nat → Option Nat} {vl : Option Nat} {R : List aC} {C0 C : mS} {T : Nat → Int32} {n i o : Nat} {L : List Int32} {rf : Int32 → mS → Option (Int32 × mS)}
/-- from behind a factor on, over all & F -/
theorem c_Tl {f : Nat → sR} {B K : Nat} (h0 : HC C0 T n) (hF : FC C0 T n o rf f) (hG : ∀ i, i ≤ n → GR B n i (f i)) (hK : 130 ≤ K) (e : Int32) : ∀ (m i : Nat) (ts : List tk) (C : mS) (c q : Nat), PC C0 C T n i (L ++ ts.map t_c) → L.length + ts.length ≤ i → i ≤ n → n ≤ i + m → c < i → q + c = K →
    (∀ j us, sTl T n f m i ts = (j, some us) → ∃ C' c' q', k_50_21 N P vl R rf (k_50_6 N P vl R rf q) (Int32.ofNat o) e (Int32.ofNat c) C = k_50_28 N P vl R rf (k_50_6 N P vl R rf q') (Int32.ofNat o) e (Int32.ofNat c') 0 C' ∧ PC C0 C' T n j (L ++ us.map t_c) ∧ c' < j ∧ q' + c' = K) ∧
    (∀ j, sTl T n f m i ts = (j, none) → ∃ C', k_50_21 N P vl R rf (k_50_6 N P vl R rf q) (Int32.ofNat o) e (Int32.ofNat c) C = some (0, C') ∧ PD C0 C' j) := by
  have hn := h0.1
  have stop : ∀ (i : Nat) (ts : List tk) (C : mS) (c q : Nat), PC C0 C T n i (L ++ ts.map t_c) → c < i → q + c = K → ¬ tp T n i = 38 → (∀ j us, (i, some ts) = (j, some us) → ∃ C' c' q', k_50_21 N P vl R rf (k_50_6 N P vl R rf q) (Int32.ofNat o) e (Int32.ofNat c) C = k_50_28 N P vl R rf (k_50_6 N P vl R rf q') (Int32.ofNat o) e (Int32.ofNat c') 0 C' ∧ PC C0 C' T n j (L ++ us.map t_c) ∧ c' < j ∧ q' + c' = K) := by
    intro i ts C c q hp hc hq hx j us hh
    cases hh
    refine ⟨C, c, q, ?_, hp, hc, hq⟩
    unfold k_50_21
    simp only [e_bd, e_bdn, e_st, e_li, e_bs, e_opn, e_ops, e_ob, e_vo, e_ia, e_eq, e_ne, e_lt, e_ge, e_gt, e_le, cond_true, cond_false, Bool.cond_decide, hp.2.2.1, hx, not_false_eq_true, if_true]
  intro m
  induction m with
  | zero =>
    intro i ts C c q hp hl hi hm hc hq
    exact ⟨stop i ts C c q hp hc hq (by unfold tp; rw [if_neg (by omega)]; decide), fun j hh => (by cases hh)⟩
  | succ m ih =>
    intro i ts C c q hp hl hi hm hc hq
    unfold sTl
    by_cases hx : tp T n i = 38
    · rw [if_pos hx]
      have hlt := tp_lt hx (by decide)
      obtain ⟨C1, e1, p1⟩ := c_stp (N := N) (P := P) (vl := vl) (R := R) h0 hp (by omega)
      obtain ⟨q', rfl⟩ : ∃ q', q = q' + 1 := ⟨q - 1, by omega⟩
      have h1 := hF C1 (i + 1) _ p1 (by simp; omega) (by omega)
      have h2 := hG (i + 1) (by omega)
      have est : k_50_21 N P vl R rf (k_50_6 N P vl R rf (q' + 1)) (Int32.ofNat o) e (Int32.ofNat c) C = m_bd (rf (Int32.ofNat o) C1) fun r1 C2 => if ¬ r1 = 0 then (m_bd (k_54 N P vl R (-2 : Int32) C2) fun r2 C3 => k_50_21 N P vl R rf (k_50_6 N P vl R rf q') (Int32.ofNat o) e (Int32.ofNat (c + 1)) C3) else some (0, C2) := by
        have est1 : k_50_21 N P vl R rf (k_50_6 N P vl R rf (q' + 1)) (Int32.ofNat o) e (Int32.ofNat c) C = k_50_6b N P vl R rf (k_50_6 N P vl R rf q') (Int32.ofNat o) 1 e (Int32.ofNat (c + 1)) C1 := by
          unfold k_50_21 k_50_28 k_50_37 k_50_48 k_50_55
          simp only [e_bd, e_bdn, e_st, e_li, e_bs, e_opn, e_ops, e_ob, e_vo, e_ia, e_eq, e_ne, e_lt, e_ge, e_gt, e_le, cond_true, cond_false, Bool.cond_decide, hp.2.2.1, hx, not_true, if_false, show ¬ (1 : Int32) = 0 by decide, not_false_eq_true, if_true, e1, show Int32.ofNat (c) + 1 = Int32.ofNat (c + 1) from o_add (q := 1)]
          rfl
        rw [est1]
        unfold k_50_6b
        simp only [e_bd, e_bdn, e_st, e_li, e_bs, e_opn, e_ops, e_ob, e_vo, e_ia, e_eq, e_ne, e_lt, e_ge, e_gt, e_le, cond_true, cond_false, Bool.cond_decide, show ¬ (120 : Int32) ≤ Int32.ofNat (c + 1) by rw [show (120 : Int32) = Int32.ofNat 120 from rfl, o_le (by omega) (by omega)]; omega, if_false, show ¬ (1 : Int32) = 0 by decide]
      rw [est]
      cases hs : f (i + 1) with
      | mk j ov => cases ov with
        | none =>
          obtain ⟨C2, e2, p2⟩ := h1.2 j hs
          refine ⟨fun j' us hh => (by cases hh), fun j' hh => ?_⟩
          cases hh
          exact ⟨C2, by simp only [e2, e_bd, e_bdn, e_st, e_li, e_bs, e_opn, e_ops, e_ob, e_vo, e_ia, e_eq, e_ne, e_lt, e_ge, e_gt, e_le, cond_true, cond_false, Bool.cond_decide, not_true, if_false], p2⟩
        | some us =>
          obtain ⟨C2, e2, p2⟩ := h1.1 j us hs
          obtain ⟨a1, a2, a3, -, -⟩ := h2.1 j us hs
          obtain ⟨C3, e3, p3⟩ := c_put (N := N) (P := P) (vl := vl) (R := R) p2 (by simp; omega) (-2)
          have := ih j (ts ++ us ++ [(2, 0, 0, 0)]) C3 (c + 1) q' (by
            rw [show L ++ (ts ++ us ++ [((2, 0, 0, 0) : tk)]).map t_c = L ++ ts.map t_c ++ us.map t_c ++ [-2] by simp [t_c]]
            exact p3) (by simp; omega) a3 (by omega) (by omega) (by omega)
          simp only [e2, e_bd, e_bdn, e_st, e_li, e_bs, e_opn, e_ops, e_ob, e_vo, e_ia, e_eq, e_ne, e_lt, e_ge, e_gt, e_le, cond_true, cond_false, Bool.cond_decide, show ¬ (1 : Int32) = 0 by decide, not_false_eq_true, if_true, e3]
          exact this
    · rw [if_neg hx]
      exact ⟨stop i ts C c q hp hc hq hx, fun j hh => (by cases hh)⟩
/-- the head of the loop, no & before it -/
theorem c_hd {f : Nat → sR} {B K : Nat} (h0 : HC C0 T n) (hF : FC C0 T n o rf f) (hG : ∀ i, i ≤ n → GR B n i (f i)) (hK : 130 ≤ K) (e : Int32) {c q : Nat} (h : PC C0 C T n i L) (hl : L.length ≤ i) (hi : i ≤ n) (hc : c ≤ i) (hc2 : c < 120) (hq : q + c = K) :
    (∀ j us, sT T n f i = (j, some us) → ∃ C' c' q', k_50_6b N P vl R rf (k_50_6 N P vl R rf q) (Int32.ofNat o) 0 e (Int32.ofNat c) C = k_50_28 N P vl R rf (k_50_6 N P vl R rf q') (Int32.ofNat o) e (Int32.ofNat c') 0 C' ∧ PC C0 C' T n j (L ++ us.map t_c) ∧ c' < j ∧ q' + c' = K) ∧
    (∀ j, sT T n f i = (j, none) → ∃ C', k_50_6b N P vl R rf (k_50_6 N P vl R rf q) (Int32.ofNat o) 0 e (Int32.ofNat c) C = some (0, C') ∧ PD C0 C' j) := by
  have hn := h0.1
  have h1 := hF C i L h hl hi
  have h2 := hG i hi
  unfold sT k_50_6b
  simp only [e_bd, e_bdn, e_st, e_li, e_bs, e_opn, e_ops, e_ob, e_vo, e_ia, e_eq, e_ne, e_lt, e_ge, e_gt, e_le, cond_true, cond_false, Bool.cond_decide, show ¬ (120 : Int32) ≤ Int32.ofNat (c) by rw [show (120 : Int32) = Int32.ofNat 120 from rfl, o_le (by omega) (by omega)]; omega, if_false]
  cases hs : f i with
  | mk j ov => cases ov with
    | none =>
      obtain ⟨C2, e2, p2⟩ := h1.2 j hs
      refine ⟨fun j' us hh => (by cases hh), fun j' hh => ?_⟩
      cases hh
      exact ⟨C2, by simp only [e2, e_bd, e_bdn, e_st, e_li, e_bs, e_opn, e_ops, e_ob, e_vo, e_ia, e_eq, e_ne, e_lt, e_ge, e_gt, e_le, cond_true, cond_false, Bool.cond_decide, not_true, if_false], p2⟩
    | some us =>
      obtain ⟨C2, e2, p2⟩ := h1.1 j us hs
      obtain ⟨a1, a2, a3, -, -⟩ := h2.1 j us hs
      have := c_Tl (N := N) (P := P) (vl := vl) (R := R) (L := L) h0 hF hG hK e 120 j us C2 c q p2 (by omega) a3 (by omega) (by omega) hq
      simp only [e2, e_bd, e_bdn, e_st, e_li, e_bs, e_opn, e_ops, e_ob, e_vo, e_ia, e_eq, e_ne, e_lt, e_ge, e_gt, e_le, cond_true, cond_false, Bool.cond_decide, show ¬ (1 : Int32) = 0 by decide, not_false_eq_true, if_true]
      exact this
theorem c_El {f : Nat → sR} {B K : Nat} (h0 : HC C0 T n) (hF : FC C0 T n o rf f) (hG : ∀ i, i ≤ n → GR B n i (f i)) (hK : 130 ≤ K) : ∀ (m i : Nat) (ts : List tk) (C : mS) (c q : Nat) (e : Int32), PC C0 C T n i (L ++ ts.map t_c) → L.length + ts.length ≤ i → i ≤ n → n ≤ i + m → c < i → q + c = K → RC C0 T n L (k_50_37 N P vl R rf (k_50_6 N P vl R rf q) (Int32.ofNat o) 0 e (Int32.ofNat c) C) (sEl T n f m i ts) := by
  have hn := h0.1
  have stop : ∀ (i : Nat) (ts : List tk) (C : mS) (c q : Nat) (e : Int32), PC C0 C T n i (L ++ ts.map t_c) → ¬ tp T n i = 124 → RC C0 T n L (k_50_37 N P vl R rf (k_50_6 N P vl R rf q) (Int32.ofNat o) 0 e (Int32.ofNat c) C) (i, some ts) := by
    intro i ts C c q e hp hx
    have : k_50_37 N P vl R rf (k_50_6 N P vl R rf q) (Int32.ofNat o) 0 e (Int32.ofNat c) C = some (1, C) := by
      unfold k_50_37 k_50_48
      simp only [e_bd, e_bdn, e_st, e_li, e_bs, e_opn, e_ops, e_ob, e_vo, e_ia, e_eq, e_ne, e_lt, e_ge, e_gt, e_le, cond_true, cond_false, Bool.cond_decide, if_true, hp.2.2.1, hx, not_false_eq_true, not_true, if_false]
    rw [this]
    exact ⟨fun j us hh => by cases hh; exact ⟨C, rfl, hp⟩, fun j hh => (by cases hh)⟩
  intro m
  induction m with
  | zero =>
    intro i ts C c q e hp hl hi hm hc hq
    exact stop i ts C c q e hp (by unfold tp; rw [if_neg (by omega)]; decide)
  | succ m ih =>
    intro i ts C c q e hp hl hi hm hc hq
    unfold sEl
    by_cases hx : tp T n i = 124
    · rw [if_pos hx]
      have hlt := tp_lt hx (by decide)
      obtain ⟨C1, e1, p1⟩ := c_stp (N := N) (P := P) (vl := vl) (R := R) h0 hp (by omega)
      obtain ⟨q', rfl⟩ : ∃ q', q = q' + 1 := ⟨q - 1, by omega⟩
      have h1 := c_hd (N := N) (P := P) (vl := vl) (R := R) (c := c + 1) (q := q') h0 hF hG hK 1 p1 (by simp; omega) (by omega) (by omega) (by omega) (by omega)
      have h2 := GR_T (T := T) hG (show i + 1 ≤ n by omega)
      have est : k_50_37 N P vl R rf (k_50_6 N P vl R rf (q' + 1)) (Int32.ofNat o) 0 e (Int32.ofNat c) C = k_50_6b N P vl R rf (k_50_6 N P vl R rf q') (Int32.ofNat o) 0 1 (Int32.ofNat (c + 1)) C1 := by
        unfold k_50_37 k_50_48 k_50_55
        simp only [e_bd, e_bdn, e_st, e_li, e_bs, e_opn, e_ops, e_ob, e_vo, e_ia, e_eq, e_ne, e_lt, e_ge, e_gt, e_le, cond_true, cond_false, Bool.cond_decide, if_true, hp.2.2.1, hx, not_true, if_false, show ¬ (1 : Int32) = 0 by decide, not_false_eq_true, e1, show Int32.ofNat (c) + 1 = Int32.ofNat (c + 1) from o_add (q := 1)]
        rfl
      rw [est]
      cases hs : sT T n f (i + 1) with
      | mk j ov => cases ov with
        | none =>
          obtain ⟨C2, e2, p2⟩ := h1.2 j hs
          refine ⟨fun j' us hh => (by cases hh), fun j' hh => ?_⟩
          cases hh
          exact ⟨C2, e2, p2⟩
        | some us =>
          obtain ⟨C2, c2, q2, e2, p2, hc2, hq2⟩ := h1.1 j us hs
          obtain ⟨a1, a2, a3, -, -⟩ := h2.1 j us hs
          obtain ⟨C3, e3, p3⟩ := c_put (N := N) (P := P) (vl := vl) (R := R) p2 (by simp; omega) (-3)
          have := ih j (ts ++ us ++ [(3, 0, 0, 0)]) C3 c2 q2 1 (by
            rw [show L ++ (ts ++ us ++ [((3, 0, 0, 0) : tk)]).map t_c = L ++ ts.map t_c ++ us.map t_c ++ [-3] by simp [t_c]]
            exact p3) (by simp; omega) a3 (by omega) hc2 hq2
          have e4 : k_50_28 N P vl R rf (k_50_6 N P vl R rf q2) (Int32.ofNat o) 1 (Int32.ofNat c2) 0 C2 = k_50_37 N P vl R rf (k_50_6 N P vl R rf q2) (Int32.ofNat o) 0 1 (Int32.ofNat c2) C3 := by
            unfold k_50_28
            simp only [e_bd, e_bdn, e_st, e_li, e_bs, e_opn, e_ops, e_ob, e_vo, e_ia, e_eq, e_ne, e_lt, e_ge, e_gt, e_le, cond_true, cond_false, Bool.cond_decide, not_true, if_false, show ¬ (1 : Int32) = 0 by decide, e3]
          rw [e2, e4]
          exact this
    · rw [if_neg hx]
      exact stop i ts C c q e hp hx
/-- expression -/
theorem c_E {f : Nat → sR} {B : Nat} (hN : 200 ≤ N) (h0 : HC C0 T n) (hF : FC C0 T n o rf f) (hG : ∀ i, i ≤ n → GR B n i (f i)) (h : PC C0 C T n i L) (hl : L.length ≤ i) (hi : i ≤ n) : RC C0 T n L (k_50 N P vl R rf (Int32.ofNat o) C) (sE T n f i) := by
  have hn := h0.1
  obtain ⟨q, hq⟩ : ∃ q, N = q + 1 := ⟨N - 1, by omega⟩
  have h1 := c_hd (N := N) (P := P) (vl := vl) (R := R) (c := 0) (q := q) (K := q) h0 hF hG (by omega) 0 h hl hi (by omega) (by omega) (by omega)
  have h2 := GR_T (T := T) hG hi
  have est : k_50 N P vl R rf (Int32.ofNat o) C = k_50_6b N P vl R rf (k_50_6 N P vl R rf q) (Int32.ofNat o) 0 0 (Int32.ofNat 0) C := by
    unfold k_50
    conv => lhs; rw [show k_50_6 N P vl R rf N = k_50_6 N P vl R rf (q + 1) by rw [← hq]]
    rfl
  rw [est]
  unfold sE
  cases hs : sT T n f i with
  | mk j ov => cases ov with
    | none =>
      obtain ⟨C2, e2, p2⟩ := h1.2 j hs
      refine ⟨fun j' us hh => (by cases hh), fun j' hh => ?_⟩
      cases hh
      exact ⟨C2, e2, p2⟩
    | some us =>
      obtain ⟨C2, c2, q2, e2, p2, hc2, hq2⟩ := h1.1 j us hs
      obtain ⟨a1, a2, a3, -, -⟩ := h2.1 j us hs
      have e4 : k_50_28 N P vl R rf (k_50_6 N P vl R rf q2) (Int32.ofNat o) 0 (Int32.ofNat c2) 0 C2 = k_50_37 N P vl R rf (k_50_6 N P vl R rf q2) (Int32.ofNat o) 0 0 (Int32.ofNat c2) C2 := by
        unfold k_50_28
        simp only [e_bd, e_bdn, e_st, e_li, e_bs, e_opn, e_ops, e_ob, e_vo, e_ia, e_eq, e_ne, e_lt, e_ge, e_gt, e_le, cond_true, cond_false, Bool.cond_decide, not_true, if_false, if_true]
      rw [e2, e4]
      exact c_El h0 hF hG (by omega) 120 j us C2 c2 q2 0 p2 (by omega) a3 (by omega) hc2 hq2
theorem wd5 : wd 5 = [41] := by decide +kernel
theorem wd4 : wd 4 = [32] := by decide +kernel
theorem c_fac (hN : 200 ≤ N) (h0 : HC C0 T n) {x : Nat} : ∀ r, r ≤ 5 → FC C0 T n (5 - r) (k_fac N P vl R (r + 1 + x)) (sFac T n r) := by
  have hn := h0.1
  have te : ∀ (q : Nat) (o : Int32) (C : mS) (i : Nat) (L : List Int32), PC C0 C T n i L → L.length ≤ i → i ≤ n → ¬ tp T n i = 33 → ¬ tp T n i = 40 → RC C0 T n L (k_fac N P vl R (q + 1) o C) (sTest T n i) := by
    intro q o C i L h hl hi c1 c2
    have h1 := c_te (N := N) (P := P) (vl := vl) (R := R) h0 h hl hi
    have est : k_fac N P vl R (q + 1) o C = m_bd (k_52 N P vl R C) fun r1 C1 => bif (decide (r1 = 0) || decide (r1 = 1)) then some (r1, C1) else none := by
      show k_51 _ _ _ _ _ _ _ = _
      unfold k_51
      simp only [e_bd, e_bdn, e_st, e_li, e_bs, e_opn, e_ops, e_ob, e_vo, e_ia, e_eq, e_ne, e_lt, e_ge, e_gt, e_le, cond_true, cond_false, Bool.cond_decide, h.2.2.1, c1, c2, if_false]
    rw [est]
    refine ⟨fun j ts hh => ?_, fun j hh => ?_⟩
    · obtain ⟨C', e', p'⟩ := h1.1 j ts hh
      exact ⟨C', by rw [e']; rfl, p'⟩
    · obtain ⟨C', e', p'⟩ := h1.2 j hh
      exact ⟨C', by rw [e']; rfl, p'⟩
  intro r
  induction r with
  | zero =>
    intro _ C i L h hl hi
    rw [show 0 + 1 + x = x + 1 by omega]
    unfold sFac
    by_cases c : tp T n i = 33 ∨ tp T n i = 40
    · rw [if_pos c]
      have : k_fac N P vl R (x + 1) (Int32.ofNat (5 - 0)) C = some (0, C) := by
        show k_51 _ _ _ _ _ _ _ = _
        unfold k_51 k_51_11
        simp only [e_bd, e_bdn, e_st, e_li, e_bs, e_opn, e_ops, e_ob, e_vo, e_ia, e_eq, e_ne, e_lt, e_ge, e_gt, e_le, cond_true, cond_false, Bool.cond_decide, h.2.2.1, show ¬ Int32.ofNat (5 - 0) < 5 by decide, if_false]
        rcases c with c | c
        · rw [if_pos c]
        · split
          · rfl
          · first | rfl | rw [if_pos c]
      rw [this]
      exact ⟨fun j ts hh => (by cases hh), fun j hh => by cases hh; exact ⟨C, rfl, PD_of h⟩⟩
    · rw [if_neg c]
      exact te x _ C i L h hl hi (fun q => c (.inl q)) (fun q => c (.inr q))
  | succ r ih =>
    intro hr5 C i L h hl hi
    have hF := ih (by omega)
    rw [show r + 1 + 1 + x = (r + 1 + x) + 1 by omega]
    unfold sFac
    have ho : Int32.ofNat (5 - (r + 1)) < 5 := by rw [show (5 : Int32) = Int32.ofNat 5 from rfl, o_lt (by omega) (by omega)]; omega
    have hp1 : Int32.ofNat (5 - (r + 1)) + 1 = Int32.ofNat (5 - r) := by
      rw [show Int32.ofNat (5 - (r + 1)) + 1 = Int32.ofNat (5 - (r + 1) + 1) from o_add (q := 1)]; congr 1; omega
    obtain ⟨C1, e1, p1⟩ := c_stp (N := N) (P := P) (vl := vl) (R := R) h0 h (by omega)
    by_cases c1 : tp T n i = 33
    · rw [if_pos c1]
      have hlt := tp_lt c1 (by decide)
      have h1 := hF C1 (i + 1) L p1 (by omega) (by omega)
      have h2 := GR_F (T := T) (n := n) r (i + 1) (by omega)
      have est : k_fac N P vl R (r + 1 + x + 1) (Int32.ofNat (5 - (r + 1))) C = m_bd (k_fac N P vl R (r + 1 + x) (Int32.ofNat (5 - r)) C1) fun r5 C5 => if r5 = 0 then some (0, C5) else m_bd (k_54 N P vl R (-1 : Int32) C5) fun r6 C6 => if r6 = 0 then some (0, C6) else some (1, C6) := by
        show k_51 _ _ _ _ _ _ _ = _
        unfold k_51 k_51_11 k_51_23
        simp only [e_bd, e_bdn, e_st, e_li, e_bs, e_opn, e_ops, e_ob, e_vo, e_ia, e_eq, e_ne, e_lt, e_ge, e_gt, e_le, cond_true, cond_false, Bool.cond_decide, h.2.2.1, c1, if_true, ho, not_true, if_false, e1, show ¬ (1 : Int32) = 0 by decide, hp1]
      rw [est]
      cases hs : sFac T n r (i + 1) with
      | mk j ov => cases ov with
        | none =>
          obtain ⟨C2, e2, p2⟩ := h1.2 j hs
          refine ⟨fun j' us hh => (by cases hh), fun j' hh => ?_⟩
          cases hh
          exact ⟨C2, by simp only [e2, e_bd, e_bdn, e_st, e_li, e_bs, e_opn, e_ops, e_ob, e_vo, e_ia, e_eq, e_ne, e_lt, e_ge, e_gt, e_le, cond_true, cond_false, Bool.cond_decide, if_true], p2⟩
        | some us =>
          obtain ⟨C2, e2, p2⟩ := h1.1 j us hs
          obtain ⟨a1, a2, a3, -, -⟩ := h2.1 j us hs
          obtain ⟨C3, e3, p3⟩ := c_put (N := N) (P := P) (vl := vl) (R := R) p2 (by simp; omega) (-1)
          refine ⟨fun j' ts hh => ?_, fun j' hh => (by cases hh)⟩
          cases hh
          refine ⟨C3, by simp only [e2, e_bd, e_bdn, e_st, e_li, e_bs, e_opn, e_ops, e_ob, e_vo, e_ia, e_eq, e_ne, e_lt, e_ge, e_gt, e_le, cond_true, cond_false, Bool.cond_decide, show ¬ (1 : Int32) = 0 by decide, if_false, e3], ?_⟩
          rw [show L ++ (us ++ [((1, 0, 0, 0) : tk)]).map t_c = L ++ us.map t_c ++ [-1] by simp [t_c]]
          exact p3
    · rw [if_neg c1]
      by_cases c2 : tp T n i = 40
      · rw [if_pos c2]
        have hlt := tp_lt c2 (by decide)
        have h1 := c_E (P := P) (vl := vl) (R := R) hN h0 hF (GR_F (T := T) (n := n) r) p1 (show L.length ≤ i + 1 by omega) (show i + 1 ≤ n by omega)
        have h2 := GR_E (T := T) (GR_F (T := T) (n := n) r) (show i + 1 ≤ n by omega)
        have est : k_fac N P vl R (r + 1 + x + 1) (Int32.ofNat (5 - (r + 1))) C = m_bd (k_50 N P vl R (k_fac N P vl R (r + 1 + x)) (Int32.ofNat (5 - r)) C1) fun r3 C3 => if r3 = 0 then some (0, C3) else m_bd (k_46 N P vl R 5 C3) fun r4 C4 => if r4 = 0 then some (0, C4) else some (1, C4) := by
          show k_51 _ _ _ _ _ _ _ = _
          unfold k_51 k_51_11 k_51_23
          simp only [e_bd, e_bdn, e_st, e_li, e_bs, e_opn, e_ops, e_ob, e_vo, e_ia, e_eq, e_ne, e_lt, e_ge, e_gt, e_le, cond_true, cond_false, Bool.cond_decide, h.2.2.1, c2, if_true, ho, show ¬ (40 : Int32) = 33 by decide, not_false_eq_true, if_false, e1, hp1]
        rw [est]
        cases hs : sE T n (sFac T n r) (i + 1) with
        | mk j ov => cases ov with
          | none =>
            obtain ⟨C2, e2, p2⟩ := h1.2 j hs
            refine ⟨fun j' us hh => (by cases hh), fun j' hh => ?_⟩
            cases hh
            exact ⟨C2, by simp only [e2, e_bd, e_bdn, e_st, e_li, e_bs, e_opn, e_ops, e_ob, e_vo, e_ia, e_eq, e_ne, e_lt, e_ge, e_gt, e_le, cond_true, cond_false, Bool.cond_decide, if_true], p2⟩
          | some us =>
            obtain ⟨C2, e2, p2⟩ := h1.1 j us hs
            obtain ⟨a1, a2, a3, -, -⟩ := h2.1 j us hs
            have h3 := c_wd (N := N) (P := P) (vl := vl) (R := R) (w := 5) hN (by omega) h0 p2 a3
            rw [wd5] at h3
            simp only [e2, e_bd, e_bdn, e_st, e_li, e_bs, e_opn, e_ops, e_ob, e_vo, e_ia, e_eq, e_ne, e_lt, e_ge, e_gt, e_le, cond_true, cond_false, Bool.cond_decide, show ¬ (1 : Int32) = 0 by decide, if_false]
            show RC _ _ _ _ _ (if tp T n j = 41 then (j + 1, some us) else (j, none))
            by_cases c3 : tp T n j = 41
            · rw [if_pos c3]
              obtain ⟨C3, e3, p3⟩ := h3.1 (j + 1) (by unfold sWd sWd; rw [if_pos c3])
              refine ⟨fun j' ts hh => ?_, fun j' hh => (by cases hh)⟩
              cases hh
              exact ⟨C3, by simp only [e3, e_bd, e_bdn, e_st, e_li, e_bs, e_opn, e_ops, e_ob, e_vo, e_ia, e_eq, e_ne, e_lt, e_ge, e_gt, e_le, cond_true, cond_false, Bool.cond_decide, show ¬ (1 : Int32) = 0 by decide, if_false], p3⟩
            · rw [if_neg c3]
              obtain ⟨C3, e3, p3⟩ := h3.2 j (by unfold sWd; rw [if_neg c3])
              refine ⟨fun j' us hh => (by cases hh), fun j' hh => ?_⟩
              cases hh
              exact ⟨C3, by simp only [e3, e_bd, e_bdn, e_st, e_li, e_bs, e_opn, e_ops, e_ob, e_vo, e_ia, e_eq, e_ne, e_lt, e_ge, e_gt, e_le, cond_true, cond_false, Bool.cond_decide, if_true], p3⟩
      · rw [if_neg c2]
        exact te _ _ C i L h hl hi c1 c2
end CPF
