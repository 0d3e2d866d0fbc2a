/-! 87.vq: valley, the pure part: what is read is well made; the model's row, the class's reader -/
section VQ
variable {N : Nat} {d : dS} {F : fS} {A C : mS} {P : Nat → Option Nat} {vl : Option Nat} {R : List aC} {ns nv nb nk : Nat} {T : Nat → Int32} {n : Nat} {s s' : Nat → Int32}
theorem sAp_ok {kd v ru gi : Nat} {ts : List tk} {V : List cl} (hk : kd ≤ 3) (hv : v < 100) (h2 : kd = 2 → v ≤ 2) (hc : kd ≤ 1 → c_ok (ts, false, v) ∧ c_ok (ts, true, v)) (hV : ∀ c, c ∈ V → c_ok c) (hr : ru ≤ 2) (hg : gi < 100) : (∀ c, c ∈ (sAp (kd, v, ts) V ru gi).1 → c_ok c) ∧ (sAp (kd, v, ts) V ru gi).2.1 ≤ 2 ∧ (sAp (kd, v, ts) V ru gi).2.2 < 100 := by
  rcases (show kd = 0 ∨ kd = 1 ∨ kd = 2 ∨ kd = 3 by omega) with rfl | rfl | rfl | rfl
  · refine ⟨fun c hm => ?_, hr, hg⟩
    rcases List.mem_append.mp (show c ∈ V ++ [(ts, false, v)] from hm) with h | h
    · exact hV c h
    · rw [List.mem_singleton.mp h]; exact (hc (by omega)).1
  · refine ⟨fun c hm => ?_, hr, hg⟩
    rcases List.mem_append.mp (show c ∈ V ++ [(ts, true, v)] from hm) with h | h
    · exact hV c h
    · rw [List.mem_singleton.mp h]; exact (hc (by omega)).2
  · exact ⟨hV, h2 rfl, hg⟩
  · exact ⟨hV, hr, hv⟩
theorem sVal_ok : ∀ (m i : Nat) (V : List cl) (ru gi : Nat), V.length + m + 1 ≤ 10 → i ≤ n → (∀ c, c ∈ V → c_ok c) → ru ≤ 2 → gi < 100 → (∀ j V' ru' gi', sVal T n m i V ru gi = (j, some (V', ru', gi')) → V'.length ≤ 10 ∧ (∀ c, c ∈ V' → c_ok c) ∧ ru' ≤ 2 ∧ gi' < 100) ∧ (∀ j, sVal T n m i V ru gi = (j, none) → j ≤ n) := by
  intro m
  induction m with
  | zero =>
    intro i V ru gi hV hi hc hr hg
    have h2 := CX_cl (T := T) hi
    unfold sVal
    cases hs : sCl T n i with
    | mk j ox => cases ox with
      | none =>
        refine ⟨fun j' V' ru' gi' hh => (by cases hh), fun j' hh => ?_⟩
        cases hh
        exact (h2.2 j hs).2
      | some x =>
        obtain ⟨kd, v, ts⟩ := x
        obtain ⟨b1, b2, b3, b4, b5, b6, b7⟩ := h2.1 j kd v ts hs
        obtain ⟨s1, s2⟩ := sAp_c (V := V) (ru := ru) (gi := gi) (v := v) b1 b7
        have s3 := sAp_ok (V := V) b1 b4 b5 b6 hc hr hg
        simp only
        by_cases c : j = n
        · rw [if_pos c]
          refine ⟨fun j' V' ru' gi' hh => ?_, fun j' hh => (by cases hh)⟩
          have hh3 := Option.some.inj (Prod.mk.inj hh).2
          rw [hh3] at s2 s3
          exact ⟨by have : V'.length ≤ V.length + 1 := s2; omega, s3⟩
        · rw [if_neg c]
          refine ⟨fun j' V' ru' gi' hh => (by cases hh), fun j' hh => ?_⟩
          cases hh
          exact b3
  | succ m ih =>
    intro i V ru gi hV hi hc hr hg
    have h2 := CX_cl (T := T) hi
    unfold sVal
    cases hs : sCl T n i with
    | mk j ox => cases ox with
      | none =>
        refine ⟨fun j' V' ru' gi' hh => (by cases hh), fun j' hh => ?_⟩
        cases hh
        exact (h2.2 j hs).2
      | some x =>
        obtain ⟨kd, v, ts⟩ := x
        obtain ⟨b1, b2, b3, b4, b5, b6, b7⟩ := h2.1 j kd v ts hs
        obtain ⟨s1, s2⟩ := sAp_c (V := V) (ru := ru) (gi := gi) (v := v) b1 b7
        have s3 := sAp_ok (V := V) b1 b4 b5 b6 hc hr hg
        simp only
        by_cases c : j = n
        · rw [if_pos c]
          refine ⟨fun j' V' ru' gi' hh => ?_, fun j' hh => (by cases hh)⟩
          have hh3 := Option.some.inj (Prod.mk.inj hh).2
          rw [hh3] at s2 s3
          exact ⟨by have : V'.length ≤ V.length + 1 := s2; omega, s3⟩
        · rw [if_neg c]
          by_cases c2 : tp T n j = 59
          · rw [if_pos c2]
            have hlt := tp_lt c2 (by decide)
            exact ih (j + 1) _ _ _ (by omega) (by omega) s3.1 s3.2.1 s3.2.2
          · rw [if_neg c2]
            refine ⟨fun j' V' ru' gi' hh => (by cases hh), fun j' hh => ?_⟩
            cases hh
            exact b3
/-- what reading a valley leaves of the row -/
def VS (s s' : Nat → Int32) (nv : Nat) : Prop := ∀ j, ¬ SL nv j → j ≠ 232 + nv → j ≠ 237 + nv → j ≠ 16 → s' j = s j
theorem MV_v {V : List cl} {ru gi : Int32} (h : MV s V ru gi) (h17 : s 17 = -1 ∨ ∃ h, h < nv ∧ s 17 = Int32.ofNat h) (hn : nv ≤ 4) (ha : VS s s' nv) : MV s' V ru gi := by
  unfold VS SL at ha
  rcases h with ⟨h1, h2⟩ | ⟨q, hq, h1, h8, h9, h10, h11, h12⟩
  · exact .inl ⟨(ha 17 (by omega) (by omega) (by omega) (by omega)).trans h1, h2⟩
  · have hqn : q < nv := by
      rcases h17 with h | ⟨h, hh, e⟩
      · rw [h1] at h; exact absurd h (m_ofnat_ne (by omega))
      · rw [h1, o_eq (by omega) (by omega)] at e; omega
    exact .inr ⟨q, hq, (ha 17 (by omega) (by omega) (by omega) (by omega)).trans h1, (ha _ (by omega) (by omega) (by omega) (by omega)).trans h8, (ha _ (by omega) (by omega) (by omega) (by omega)).trans h9, (ha _ (by omega) (by omega) (by omega) (by omega)).trans h10, h11, sg_pre (fun j hj1 hj2 => ha j (by omega) (by omega) (by omega) (by omega)) h12⟩
theorem m_val (hN : 200 ≤ N) (h : XR (A 0) C P vl R d F ns nv nb nk) (hnv : nv < 5) :
    (∀ j V ru gi, sVal (C 0) ns 9 0 [] 0 0 = (j, some (V, ru, gi)) → ∃ (A' : mS) (z : Nat → Int32), g_131 N A = some (Int32.ofNat nv, A') ∧ SM A A' ∧ A' 0 = upd (upd z 12 (Int32.ofNat (nv + 1))) 17 (Int32.ofNat nv) ∧ VS (A 0) z nv ∧ z 16 = 0 ∧ z (232 + nv) = Int32.ofNat ru ∧ z (237 + nv) = Int32.ofNat gi ∧ z (242 + nv) = Int32.ofNat (c_sts V).length ∧ sg z (247 + 140 * nv) (c_sts V) ∧ (c_sts V).length ≤ 120) ∧
    (∀ j, sVal (C 0) ns 9 0 [] 0 0 = (j, none) → ∃ A', g_131 N A = some (-10 - Int32.ofNat j, A') ∧ SM A A' ∧ VS (A 0) (A' 0) nv ∧ A' 0 16 = 0) := by
  obtain ⟨-, ⟨hs1, hs2, hs3, hs4⟩, hv, -⟩ := h
  have h12 := hv.2.1
  obtain ⟨A4, e4, f4, z4⟩ : ∃ A4, g_131 N A = (m_bd (g_130 N A4) fun _ A5 => g_131_62 N N 1 A5) ∧ (fr [0, 99] A A4 ∧ A4 0 = upd (upd (upd (upd (A 0) 16 0) (232 + nv) 0) (237 + nv) 0) (242 + nv) 0) ∧ A4 99 = upd (upd (upd (upd (upd (A 99) 5 (Int32.ofNat nv)) 7 (Int32.ofNat ns)) 6 0) 8 0) 9 0 := by
    have c5 : ¬ Int32.ofNat nv = 5 := by rw [show (5 : Int32) = Int32.ofNat 5 from rfl, o_eq (by omega) (by omega)]; omega
    unfold g_131
    simp only [e_bd, e_bdn, e_st, e_li, e_bs, e_opn, e_ops, e_ob, e_vo, e_ia, e_eq, e_ne, e_lt, e_ge, e_gt, e_le, cond_true, cond_false, Bool.cond_decide, h12, hs2, c5, not_false_eq_true, if_true, show (232 : Int32) + Int32.ofNat nv = Int32.ofNat (232 + nv) from o_add (p := 232), show a_in (Int32.ofNat (232 + nv)) 947 = true by rw [o_in (by omega)]; simp; omega, o_cl (show 232 + nv < 2147483648 by omega), va_up_self, upd_self, upd_ne _ _ (show (5 : Nat) ≠ 7 by decide), show (237 : Int32) + Int32.ofNat nv = Int32.ofNat (237 + nv) from o_add (p := 237), show a_in (Int32.ofNat (237 + nv)) 947 = true by rw [o_in (by omega)]; simp; omega, o_cl (show 237 + nv < 2147483648 by omega), va_up_ne _ _ (show (99 : Nat) ≠ 0 by decide), va_up_ne _ _ (show (0 : Nat) ≠ 99 by decide), show (242 : Int32) + Int32.ofNat nv = Int32.ofNat (242 + nv) from o_add (p := 242), show a_in (Int32.ofNat (242 + nv)) 947 = true by rw [o_in (by omega)]; simp; omega, o_cl (show 242 + nv < 2147483648 by omega)]
    refine ⟨_, rfl, ⟨fr_up (fr_up (fr_up (fr_up (fr_up fr_rfl (by simp)) (by simp)) (by simp)) (by simp)) (by simp), ?_⟩, ?_⟩
    · simp only [va_up_self, va_up_ne _ _ (show (0 : Nat) ≠ 99 by decide)]
    · simp only [va_up_self]
  have h0 : HM A4 (C 0) ns nv := by
    refine ⟨by omega, hs1, ?_, ?_, fun j hj => ?_⟩
    · rw [z4, upd_ne _ _ (by decide), upd_ne _ _ (by decide), upd_ne _ _ (by decide), upd_ne _ _ (by decide), upd_self]
    · rw [z4, upd_ne _ _ (by decide), upd_ne _ _ (by decide), upd_ne _ _ (by decide), upd_self]
    · rw [f4.2, upd_ne _ _ (by omega), upd_ne _ _ (by omega), upd_ne _ _ (by omega), upd_ne _ _ (by omega)]
      exact (hs4 j hj).1
  have h1 : PM A4 A4 nv 0 0 (c_sts []) := by
    refine ⟨⟨fr_rfl, fun _ _ => rfl, fun _ _ => rfl⟩, ?_, ?_, ?_, ?_, trivial⟩
    · rw [z4, upd_ne _ _ (by decide), upd_ne _ _ (by decide), upd_self]; rfl
    · rw [z4, upd_ne _ _ (by decide), upd_self]
    · rw [z4, upd_self]; rfl
    · rw [f4.2, upd_self]; rfl
  have h2 := m_va (T := C 0) (n := ns) (act := nv) hN (B0 := A4) (q := N - 10) 9 0 [] 0 0 A4 A4 (by omega) h0 h1 (by simp [c_sts]) (by omega) (by rw [f4.2, upd_ne _ _ (by omega), upd_ne _ _ (by omega), upd_self]; rfl) (by rw [f4.2, upd_ne _ _ (by omega), upd_self]; rfl) ⟨fr_rfl, fun _ _ => rfl, fun _ _ _ _ => rfl⟩
  rw [show 9 + 1 + (N - 10) = N by omega, show Int32.ofNat (10 - 9) = 1 from rfl] at h2
  have g4 : ∀ f, f ≠ 5 → f ≠ 7 → f ≠ 6 → f ≠ 8 → f ≠ 9 → A4 99 f = A 99 f := fun f a1 a2 a3 a4 a5 => by
    rw [z4, upd_ne _ _ a5, upd_ne _ _ a4, upd_ne _ _ a3, upd_ne _ _ a2, upd_ne _ _ a1]
  have vs : ∀ A' : mS, VB A4 A' nv → SM A A' ∧ VS (A 0) (A' 0) nv ∧ A' 0 16 = 0 ∧ A' 0 12 = Int32.ofNat nv := by
    intro A' hb
    refine ⟨⟨?_, ?_, ?_, ?_⟩, ?_, ?_, ?_⟩
    · rw [fr_at hb.1 (by decide), fr_at f4.1 (by decide)]
    · rw [fr_at hb.1 (by decide), fr_at f4.1 (by decide)]
    · rw [hb.2.1 4 (by decide), g4 4 (by decide) (by decide) (by decide) (by decide) (by decide)]
    · rw [hb.2.1 21 (by decide), g4 21 (by decide) (by decide) (by decide) (by decide) (by decide)]
    · intro j j1 j2 j3 j4
      rw [hb.2.2 j j1 j2 j3, f4.2, upd_ne _ _ (fun e => j1 (.inl e)), upd_ne _ _ j3, upd_ne _ _ j2, upd_ne _ _ j4]
    · rw [hb.2.2 16 (by unfold SL; omega) (by omega) (by omega), f4.2, upd_ne _ _ (by omega), upd_ne _ _ (by omega), upd_ne _ _ (by omega), upd_self]
    · rw [hb.2.2 12 (by unfold SL; omega) (by omega) (by omega), f4.2, upd_ne _ _ (by omega), upd_ne _ _ (by omega), upd_ne _ _ (by omega), upd_ne _ _ (by omega), h12]
  refine ⟨fun j V ru gi hh => ?_, fun j hh => ?_⟩
  · obtain ⟨A', e, hb, r1, r2, r3, r4, r5⟩ := h2.1 j V ru gi hh
    obtain ⟨v1, v2, v3, v4⟩ := vs A' hb
    refine ⟨_, A' 0, e4.trans e, ?_, ?_, v2, v3, r1, r2, r3, r4, r5⟩
    · exact ⟨by rw [va_up_ne _ _ (by decide)]; exact v1.1, by rw [va_up_ne _ _ (by decide)]; exact v1.2.1, by rw [va_up_ne _ _ (by decide)]; exact v1.2.2.1, by rw [va_up_ne _ _ (by decide)]; exact v1.2.2.2⟩
    · rw [va_up_self, v4, show Int32.ofNat (nv) + 1 = Int32.ofNat (nv + 1) from o_add (q := 1)]
  · obtain ⟨A', e, hb⟩ := h2.2 j hh
    obtain ⟨v1, v2, v3, v4⟩ := vs A' hb
    exact ⟨A', e4.trans e, v1, v2, v3⟩
theorem c_val (hN : 200 ≤ N) (h : XR s C P vl R d F ns nv nb nk) :
    (∀ j V ru gi, sVal (C 0) ns 9 0 [] 0 0 = (j, some (V, ru, gi)) → ∃ C', k_40 N P vl R (Int32.ofNat ns) C = some (-1, C') ∧ CL C' (C 0) ns j V ru gi ∧ fr [6, 7, 8, 91] C C') ∧
    (∀ j, sVal (C 0) ns 9 0 [] 0 0 = (j, none) → ∃ C', k_40 N P vl R (Int32.ofNat ns) C = some (Int32.ofNat j, C') ∧ fr [6, 7, 8, 91] C C') := by
  obtain ⟨-, ⟨hs1, hs2, hs3, hs4⟩, -⟩ := h
  have hT : ∀ j, j < ns → C 0 j ≠ -1 := fun j hj e => by
    have := (hs4 j hj).2.1
    rw [e] at this
    exact absurd this (by decide)
  obtain ⟨C2, e2, f2, z2⟩ : ∃ C2, k_40 N P vl R (Int32.ofNat ns) C = k_40_26 N P vl R N 0 C2 ∧ fr [91] C C2 ∧ (C2 91 8 = Int32.ofNat ns ∧ C2 91 9 = 0 ∧ C2 91 10 = tp (C 0) ns 0 ∧ C2 91 3 = 0 ∧ C2 91 4 = 0 ∧ C2 91 5 = 0 ∧ C2 91 6 = 0) := by
    have c1 : ¬ (120 : Int32) < Int32.ofNat ns := by rw [show (120 : Int32) = Int32.ofNat 120 from rfl, o_lt (by omega) (by omega)]; omega
    have cz : (-1 : Int32) + 1 = 0 := by decide
    have c0 : (Int32.ofNat ns ≤ 0) ↔ ns ≤ 0 := by rw [show (0 : Int32) = Int32.ofNat 0 from rfl, o_le (by omega) (by omega)]
    unfold k_40 k_43
    simp only [e_bd, e_bdn, e_st, e_li, e_bs, e_opn, e_ops, e_ob, e_vo, e_ia, e_eq, e_ne, e_lt, e_ge, e_gt, e_le, cond_true, cond_false, Bool.cond_decide, c1, if_false, va_up_self, upd_self, upd_ne _ _ (show (8 : Nat) ≠ 9 by decide), cz, c0]
    by_cases c : ns ≤ 0
    · rw [if_pos c]
      simp only [e_bd, e_bdn, e_st, e_li, e_bs, e_opn, e_ops, e_ob, e_vo, e_ia, e_eq, e_ne, e_lt, e_ge, e_gt, e_le, cond_true, cond_false, Bool.cond_decide]
      refine ⟨_, rfl, fr_up (fr_up (fr_up (fr_up fr_rfl (by simp)) (by simp)) (by simp)) (by simp), ?_, ?_, ?_, ?_, ?_, ?_, ?_⟩
      · simp [va_up_self, upd]
      · simp [va_up_self, upd]
      · unfold tp; rw [if_neg (by omega)]; simp [va_up_self, upd]
      · simp [va_up_self, upd]
      · simp [va_up_self, upd]
      · simp [va_up_self, upd]
      · simp [va_up_self, upd]
    · rw [if_neg c]
      simp only [e_bd, e_bdn, e_st, e_li, e_bs, e_opn, e_ops, e_ob, e_vo, e_ia, e_eq, e_ne, e_lt, e_ge, e_gt, e_le, cond_true, cond_false, Bool.cond_decide, show a_in (0 : Int32) 120 = true by decide, va_up_ne _ _ (show (0 : Nat) ≠ 91 by decide), show (0 : Int32).toNatClampNeg = 0 from rfl]
      refine ⟨_, rfl, fr_up (fr_up (fr_up (fr_up fr_rfl (by simp)) (by simp)) (by simp)) (by simp), ?_, ?_, ?_, ?_, ?_, ?_, ?_⟩
      · simp [va_up_self, upd]
      · simp [va_up_self, upd]
      · unfold tp; rw [if_pos (by omega)]; simp [va_up_self, upd]
      · simp [va_up_self, upd]
      · simp [va_up_self, upd]
      · simp [va_up_self, upd]
      · simp [va_up_self, upd]
  have hcl : CL C2 (C 0) ns 0 [] 0 0 := ⟨⟨hs1, z2.1, fun j _ => by rw [fr_at f2 (by decide)]⟩, ⟨z2.2.1, z2.2.2.1, z2.2.2.2.1, trivial⟩, z2.2.2.2.2.1, trivial, trivial, z2.2.2.2.2.2.1, z2.2.2.2.2.2.2⟩
  have h2 := c_va (P := P) (vl := vl) (R := R) hN hT (q := N - 10) 9 0 [] 0 0 C2 (by simp) hcl (by simp [c_cod]) (by omega) (by omega)
  rw [show 9 + 1 + (N - 10) = N by omega, show Int32.ofNat (9 - 9) = 0 from rfl] at h2
  have f2' : fr [6, 7, 8, 91] C C2 := fr_mono f2 (by simp)
  refine ⟨fun j V ru gi hh => ?_, fun j hh => ?_⟩
  · obtain ⟨C', e, l, f⟩ := h2.1 j V ru gi hh
    exact ⟨C', e2.trans e, l, fr_tr f2' f⟩
  · obtain ⟨C', e, f⟩ := h2.2 j hh
    exact ⟨C', e2.trans e, fr_tr f2' f⟩
end VQ
