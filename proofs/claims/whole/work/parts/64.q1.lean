/-! 64.q1: evenings one behind the other; of, sold, harm -/
theorem o_ex {x : Int32} {n : Nat} (h0 : 0 ≤ x.toInt) (h : x.toInt < n) : ∃ p, p < n ∧ x = Int32.ofNat p := ⟨x.toInt.toNat, by omega, o_of h0 rfl⟩
theorem z_sb {x : Int32} {c : Int32} {k n : Nat} (hc : c.toInt = k) (hk : k ≤ 100) (hn : n ≤ 100) : (0 ≤ (x - c).toInt ∧ (x - c).toInt < n) ↔ ((k : Int) ≤ x.toInt ∧ x.toInt < k + n) := by
  have h := z_rng x
  by_cases q : -2147483648 ≤ x.toInt - k
  · have : (x - c).toInt = x.toInt - k := by rw [z_sub (by omega) (by omega), hc]
    omega
  · have : (x - c).toInt = x.toInt - k + 4294967296 := by
      rw [Int32.toInt_sub, hc, ← Int.add_bmod_right, Int.bmod_eq_of_le] <;> omega
    omega
theorem o_sb {x : Int32} {c : Int32} {k w : Nat} (hc : c = Int32.ofNat k) (hk : k ≤ 100) (hw : w ≤ 100) (h : x.toInt = k + w) : x - c = Int32.ofNat w := by
  rw [hc, show x = Int32.ofNat (k + w) from o_of (by omega) (by omega), o_sub (by omega)]
  congr 1
  omega
def e_it (d : dS) (F : fS) : Nat → fS
  | 0 => F
  | k + 1 => e_nx d (e_it d F k)
def e_ww (d : dS) (F : fS) : Nat → Int32
  | 0 => 0
  | k + 1 => e_ww d F k + w_all d (f_ah (e_it d F (k + 1))) (f_ah (e_it d F k)) (f_dy (e_it d F k)) (d_n d)
def e_pp (d : dS) (F : fS) : Nat → Int32
  | 0 => 0
  | k + 1 => e_pp d F k + b_pd d (e_it d F k) (b_all d (e_it d F k)) (d_n d)
theorem it_ok {d : dS} {F : fS} (hd : d_ok d) (hf : f_ok d F) : ∀ k : Nat, (f_dy F).toInt + k < 999 → f_ok d (e_it d F k) ∧ (f_dy (e_it d F k)).toInt = (f_dy F).toInt + k := by
  intro k
  induction k with
  | zero => intro _; exact ⟨hf, by simp [e_it]⟩
  | succ k ih =>
    intro hk
    obtain ⟨h1, h2⟩ := ih (by omega)
    refine ⟨e_ok hd h1 (by omega), ?_⟩
    have k1 : (1 : Int32).toInt = 1 := rfl
    show (f_dy (e_it d F k) + 1).toInt = _
    have := h1.1
    rw [z_add (by omega) (by omega)]
    omega
/-- the class's world stands so -/
def WF (C : mS) (F : fS) : Prop := C 90 4 = f_dy F ∧ C 90 5 = f_ah F ∧ C 90 8 = f_tu F ∧ ∀ p, p < 8 → C 2 p = f_pu F p
/-- what a question leaves as it is -/
def QM (A A' : mS) : Prop := A' 0 = A 0 ∧ A' 1 = A 1 ∧ A' 9 = A 9 ∧ A' 99 4 = A 99 4 ∧ A' 99 21 = A 99 21
def QC (C C' : mS) : Prop := fr [9, 10, 11, 12, 14, 15, 16, 92] C C'
theorem QM_rfl {A : mS} : QM A A := ⟨rfl, rfl, rfl, rfl, rfl⟩
theorem QM_fr {A A' : mS} {S : List Nat} (hf : fr S A A') (h0 : 0 ∉ S) (h1 : 1 ∉ S) (h9 : 9 ∉ S) (h99 : 99 ∉ S) : QM A A' := ⟨hf 0 h0, hf 1 h1, hf 9 h9, by rw [hf 99 h99], by rw [hf 99 h99]⟩
theorem QM_f9 {A A' : mS} {S T : List Nat} (hf : fr S A A') (h0 : 0 ∉ S) (h1 : 1 ∉ S) (h9 : 9 ∉ S) (h99 : f9 T A A') (t4 : 4 ∉ T) (t21 : 21 ∉ T) : QM A A' := ⟨hf 0 h0, hf 1 h1, hf 9 h9, h99 4 t4, h99 21 t21⟩
theorem bi_mx (S : Nat → Int32) : ∀ k v, v ≤ k → (S v).toInt ≤ (S (b_bi S k)).toInt := by
  intro k
  induction k with
  | zero =>
    intro v hv
    obtain rfl : v = 0 := by omega
    exact Int.le_refl _
  | succ k ih =>
    intro v hv
    simp only [b_bi]
    by_cases c : S (b_bi S k) < S (k + 1)
    · rw [if_pos c]
      rw [z_lt] at c
      by_cases c2 : v = k + 1
      · subst c2; exact Int.le_refl _
      · have := ih v (by omega); omega
    · rw [if_neg c]
      rw [z_lt] at c
      by_cases c2 : v = k + 1
      · subst c2; omega
      · exact ih v (by omega)
section ANY
variable {d : dS} {F : fS} {B : Nat → Int32}
theorem any_0 (hd : d_ok d) (hB : B_ok d B) (ha : b_any d B = false) {w : Nat} (hw : w < 4) : b_S d B w = 0 := by
  have h1 := bi_mx (b_S d B) 3 w (by omega)
  have h2 := S_ok hd.2.2.2.1 hB hw
  unfold b_any at ha
  rw [decide_eq_false_iff_not, z_lt] at ha
  have k0 : (0 : Int32).toInt = 0 := rfl
  rw [z_eq]
  omega
theorem sm_ge (hn : d_n d ≤ 8) (hB : B_ok d B) {w p : Nat} (hw : w < 4) : ∀ k, k ≤ d_n d → p < k → (B (4 * p + w)).toInt ≤ (b_sm B w k).toInt := by
  intro k
  induction k with
  | zero => intro _ h; omega
  | succ k ih =>
    intro hk hp
    have h1 := sm_ok hn hB hw k (by omega)
    have h2 := hB (4 * k + w) (by omega)
    simp only [b_sm]
    rw [z_add (by omega) (by omega)]
    by_cases c : p = k
    · subst c; omega
    · have := ih (by omega) (by omega)
      omega
theorem any_B (hd : d_ok d) (hB : B_ok d B) (ha : b_any d B = false) {p w : Nat} (hp : p < d_n d) (hw : w < 4) : B (4 * p + w) = 0 := by
  have h1 := sm_ge hd.2.2.2.1 hB hw (d_n d) (Nat.le_refl _) hp
  have h2 : (b_sm B w (d_n d)) = 0 := any_0 hd hB ha hw
  have h3 := hB (4 * p + w) (by omega)
  have k0 : (0 : Int32).toInt = 0 := rfl
  rw [h2] at h1
  rw [z_eq]
  omega
theorem hm_0 (hd : d_ok d) (hf : f_ok d F) (hB : B_ok d B) (ha : b_any d B = false) {p : Nat} (hp : p < d_n d) : b_hm d F B p = 0 := by
  obtain ⟨q, hq, hso⟩ := so_ok (B := B) hd hf
  unfold b_hm
  rw [hso, o_cl (by omega), any_0 hd hB ha hq, any_B hd hB ha hp hq]
  have h1 : ∀ k, k ≤ 4 → b_mo (b_S d B) B p k = 0 := by
    intro k
    induction k with
    | zero => intro _; rfl
    | succ k ih =>
      intro hk
      simp only [b_mo]
      rw [ih (by omega), any_0 hd hB ha (show k < 4 by omega), any_B hd hB ha hp (show k < 4 by omega)]
      decide
  rw [h1 4 (by omega)]
  decide
end ANY
section Q1
variable {N : Nat} {d : dS} {F : fS} {A C : mS} {P : Nat → Option Nat} {vl : Option Nat} {R : List aC}
/-- begin -/
theorem k_beg (hC : CD C P vl R d) (hW : WF C F) : ∃ C', k_10 N P vl R C = some (0, C') ∧ CS C' P vl R d F ∧ fr [9, 92] C C' := by
  have hf : fr [9, 92] C (va_up (va_up C 9 (va_cpy (C 2) (C 9) 0 0 8)) 92 (upd (upd (upd (C 92) 6 (C 90 8)) 7 (C 90 4)) 8 (C 90 5))) := fr_up (fr_up fr_rfl (by simp)) (by simp)
  refine ⟨_, rfl, ⟨CD_fr hC hf (by decide) (by decide) (by decide), ?_, ?_, ?_, ?_⟩, hf⟩
  · rw [va_up_self, upd_ne _ _ (by decide), upd_self]; exact hW.1
  · rw [va_up_self, upd_self]; exact hW.2.1
  · rw [va_up_self, upd_ne _ _ (by decide), upd_ne _ _ (by decide), upd_self]; exact hW.2.2.1
  · intro p hp
    rw [va_up_ne _ _ (by decide), va_up_self]
    unfold va_cpy
    rw [if_pos (by omega), show 0 + (p - 0) = p by omega]
    exact hW.2.2.2 p hp
theorem m_kp1 {m : Nat} : ∀ (r k : Nat) (A0 A : mS), k + r = 11 → fr [2] A0 A → (∀ j, j < k → A 2 j = A0 0 j) → ∃ A', g_115_2 N (r + 1 + m) (Int32.ofNat k) A = some (0, A') ∧ fr [2] A0 A' ∧ ∀ j, j < 11 → A' 2 j = A0 0 j := by
  intro r
  induction r with
  | zero =>
    intro k A0 A hk hf h2
    obtain rfl : k = 11 := by omega
    refine ⟨A, ?_, hf, h2⟩
    rw [show 0 + 1 + m = m + 1 by omega]
    show g_115_2b _ _ _ _ = _
    unfold g_115_2b
    simp only [e_bd, e_bdn, e_st, e_li, e_bs, e_opn, e_ops, e_ob, e_vo, e_ia, e_eq, e_ne, e_lt, e_ge, e_gt, e_le, cond_true, cond_false, Bool.cond_decide, show (11 : Int32) ≤ Int32.ofNat 11 by decide, if_true]
  | succ r ih =>
    intro k A0 A hk hf h2
    obtain ⟨A1, e1, f1, h1⟩ := ih (k + 1) A0 (va_up A 2 (upd (A 2) k (A 0 k))) (by omega) (fr_up hf (by simp)) (fun j hj => by
      rw [va_up_self]
      by_cases c : j = k
      · subst c; rw [upd_self, fr_at hf (by decide)]
      · rw [upd_ne _ _ c]; exact h2 j (by omega))
    refine ⟨A1, ?_, f1, h1⟩
    rw [show r + 1 + 1 + m = (r + 1 + m) + 1 by omega]
    show g_115_2b _ _ _ _ = _
    unfold g_115_2b
    simp only [e_bd, e_bdn, e_st, e_li, e_bs, e_opn, e_ops, e_ob, e_vo, e_ia, e_eq, e_ne, e_lt, e_ge, e_gt, e_le, cond_true, cond_false, Bool.cond_decide, show ¬ (11 : Int32) ≤ Int32.ofNat (k) by rw [show (11 : Int32) = Int32.ofNat 11 from rfl, o_le (by omega) (by omega)]; omega, if_false, show a_in (Int32.ofNat (k)) 947 = true by rw [o_in (by omega)]; simp; omega, show a_in (Int32.ofNat (k)) 11 = true by rw [o_in (by omega)]; simp; omega, o_cl (show k < 2147483648 by omega), show Int32.ofNat (k) + 1 = Int32.ofNat (k + 1) from o_add (q := 1)]
    exact e1
/-- keeps -/
theorem m_keep (hN : 200 ≤ N) : ∃ A', g_115 N A = some (0, A') ∧ fr [2] A A' ∧ ∀ j, j < 11 → A' 2 j = A 0 j := by
  obtain ⟨A1, e1, f1, h1⟩ := m_kp1 (N := N) (m := N - 12) 11 0 A A (by omega) fr_rfl (fun j hj => by omega)
  rw [show 11 + 1 + (N - 12) = N by omega] at e1
  exact ⟨A1, e1, f1, h1⟩
theorem m_bk1 {m : Nat} : ∀ (r k : Nat) (A0 A : mS), k + r = 11 → fr [0] A0 A → (∀ j, A 0 j = if j < k then A0 2 j else A0 0 j) → ∃ A', g_116_2 N (r + 1 + m) (Int32.ofNat k) A = some (0, A') ∧ fr [0] A0 A' ∧ ∀ j, A' 0 j = if j < 11 then A0 2 j else A0 0 j := by
  intro r
  induction r with
  | zero =>
    intro k A0 A hk hf h2
    obtain rfl : k = 11 := by omega
    refine ⟨A, ?_, hf, h2⟩
    rw [show 0 + 1 + m = m + 1 by omega]
    show g_116_2b _ _ _ _ = _
    unfold g_116_2b
    simp only [e_bd, e_bdn, e_st, e_li, e_bs, e_opn, e_ops, e_ob, e_vo, e_ia, e_eq, e_ne, e_lt, e_ge, e_gt, e_le, cond_true, cond_false, Bool.cond_decide, show (11 : Int32) ≤ Int32.ofNat 11 by decide, if_true]
  | succ r ih =>
    intro k A0 A hk hf h2
    obtain ⟨A1, e1, f1, h1⟩ := ih (k + 1) A0 (va_up A 0 (upd (A 0) k (A 2 k))) (by omega) (fr_up hf (by simp)) (fun j => by
      rw [va_up_self]
      by_cases c : j = k
      · subst c; rw [upd_self, fr_at hf (by decide), if_pos (by omega)]
      · rw [upd_ne _ _ c, h2 j]
        by_cases c2 : j < k
        · rw [if_pos c2, if_pos (by omega)]
        · rw [if_neg c2, if_neg (by omega)])
    refine ⟨A1, ?_, f1, h1⟩
    rw [show r + 1 + 1 + m = (r + 1 + m) + 1 by omega]
    show g_116_2b _ _ _ _ = _
    unfold g_116_2b
    simp only [e_bd, e_bdn, e_st, e_li, e_bs, e_opn, e_ops, e_ob, e_vo, e_ia, e_eq, e_ne, e_lt, e_ge, e_gt, e_le, cond_true, cond_false, Bool.cond_decide, show ¬ (11 : Int32) ≤ Int32.ofNat (k) by rw [show (11 : Int32) = Int32.ofNat 11 from rfl, o_le (by omega) (by omega)]; omega, if_false, show a_in (Int32.ofNat (k)) 947 = true by rw [o_in (by omega)]; simp; omega, show a_in (Int32.ofNat (k)) 11 = true by rw [o_in (by omega)]; simp; omega, o_cl (show k < 2147483648 by omega), show Int32.ofNat (k) + 1 = Int32.ofNat (k + 1) from o_add (q := 1)]
    exact e1
/-- goesBack -/
theorem m_back (hN : 200 ≤ N) : ∃ A', g_116 N A = some (0, A') ∧ fr [0] A A' ∧ ∀ j, A' 0 j = if j < 11 then A 2 j else A 0 j := by
  obtain ⟨A1, e1, f1, h1⟩ := m_bk1 (N := N) (m := N - 12) 11 0 A A (by omega) fr_rfl (fun j => by rw [if_neg (by omega)])
  rw [show 11 + 1 + (N - 12) = N by omega] at e1
  exact ⟨A1, e1, f1, h1⟩
/-- the model, k evenings on -/
def EM (A0 A : mS) (d : dS) (F : fS) (k : Nat) : Prop := MS A d (e_it d F k) ∧ fr [0, 3, 4, 5, 6, 8, 99] A0 A ∧ f9 [14, 15, 16, 17] A0 A ∧ (∀ j, 11 ≤ j → A 0 j = A0 0 j) ∧ (0 < k → A 99 14 = f_ah (e_it d F k))
theorem m_evn (hN : 200 ≤ N) (hd : d_ok d) {A0 : mS} {k : Nat} (hf : f_ok d (e_it d F k)) (h : EM A0 A d F k) : ∃ A', g_152 N A = some (0, A') ∧ EM A0 A' d F (k + 1) ∧ A' 99 14 = f_ah (e_it d F (k + 1)) ∧ A' 99 16 = A 99 16 + w_all d (f_ah (e_it d F (k + 1))) (f_ah (e_it d F k)) (f_dy (e_it d F k)) (d_n d) ∧ A' 99 17 = A 99 17 + b_pd d (e_it d F k) (b_all d (e_it d F k)) (d_n d) ∧ fr [0, 3, 4, 5, 6, 99] A A' := by
  obtain ⟨A1, e1, m1, h14, h16, h17, f1, p1, j1⟩ := m_eve hN hd hf h.1
  refine ⟨A1, e1, ⟨m1, fr_tr h.2.1 (fr_mono f1 (by simp)), f9_tr h.2.2.1 p1, fun j hj => (j1 j hj).trans (h.2.2.2.1 j hj), fun _ => h14⟩, h14, h16, h17, f1⟩
theorem EM_0 {A0 : mS} (hM : MS A d F) (hf : fr [8, 99] A0 A) (h9 : f9 [16, 17] A0 A) : EM A0 A d F 0 := ⟨hM, fr_mono hf (by simp), fun f hf' => h9 f (by simp at hf' ⊢; omega), fun j _ => by rw [fr_at hf (by decide)], fun h => absurd h (by omega)⟩
theorem EM_fr {A0 A' : mS} {S : List Nat} {k : Nat} (h : EM A0 A d F k) (hf : fr S A A') (hS : ∀ j, j ∈ S → j ∈ [3, 4, 5, 6, 8]) : EM A0 A' d F k := by
  have h0 : 0 ∉ S := fun h => absurd (hS 0 h) (by decide)
  have h99 : 99 ∉ S := fun h => absurd (hS 99 h) (by decide)
  refine ⟨MS_fr h.1 hf h0, fr_tr h.2.1 (fr_mono hf (fun j hj => by have := hS j hj; simp at this ⊢; omega)), f9_tr h.2.2.1 (f9_fr hf h99), ?_, ?_⟩
  · intro j hj; rw [fr_at hf h0]; exact h.2.2.2.1 j hj
  · intro hk; rw [fr_at hf h99]; exact h.2.2.2.2 hk
/-- the model goes back -/
theorem m_bck (hN : 200 ≤ N) {A0 : mS} {k : Nat} (h : EM A0 A d F k) (h2 : ∀ j, j < 11 → A0 2 j = A0 0 j) : ∃ A', g_116 N A = some (0, A') ∧ QM A0 A' ∧ A' 99 = A 99 ∧ A' 8 = A 8 := by
  obtain ⟨A1, e1, f1, h1⟩ := m_back (A := A) hN
  refine ⟨A1, e1, ⟨?_, ?_, ?_, ?_, ?_⟩, fr_at f1 (by decide), fr_at f1 (by decide)⟩
  · funext j
    rw [h1 j]
    by_cases c : j < 11
    · rw [if_pos c, fr_at h.2.1 (by decide)]; exact h2 j c
    · rw [if_neg c]; exact h.2.2.2.1 j (by omega)
  · rw [fr_at f1 (by decide), fr_at h.2.1 (by decide)]
  · rw [fr_at f1 (by decide), fr_at h.2.1 (by decide)]
  · rw [fr_at f1 (by decide)]; exact h.2.2.1 4 (by decide)
  · rw [fr_at f1 (by decide)]; exact h.2.2.1 21 (by decide)
theorem QM_tr {A A1 A2 : mS} (h1 : QM A A1) (h2 : QM A1 A2) : QM A A2 := ⟨h2.1.trans h1.1, h2.2.1.trans h1.2.1, h2.2.2.1.trans h1.2.2.1, h2.2.2.2.1.trans h1.2.2.2.1, h2.2.2.2.2.trans h1.2.2.2.2⟩
theorem k_w4 {x : Int32} : k_102 N P vl R x C = some (b_i (decide (0 ≤ x.toInt ∧ x.toInt < 4)), C) := by
  have k0 : (0 : Int32).toInt = 0 := rfl
  have k4 : (4 : Int32).toInt = 4 := rfl
  unfold k_102
  simp only [e_bd, e_bdn, e_st, e_li, e_bs, e_opn, e_ops, e_ob, e_vo, e_ia, e_eq, e_ne, e_lt, e_ge, e_gt, e_le, cond_true, cond_false, Bool.cond_decide, z_lt, z_le, k0, k4]
  by_cases c1 : x.toInt < 0
  · rw [if_pos c1, decide_eq_false (by omega)]; rfl
  · rw [if_neg c1]
    by_cases c2 : (4 : Int) ≤ x.toInt
    · rw [if_pos c2, decide_eq_false (by omega)]; rfl
    · rw [if_neg c2, decide_eq_true (by omega)]; rfl
/-- of -/
theorem q_of (hN : 200 ≤ N) (hd : d_ok d) (hf : f_ok d F) (hM : MS A d F) (hC : CD C P vl R d) (hW : WF C F) (x1 x2 : Int32) : ∃ r A' C', g_146 N x1 x2 A = some (r, A') ∧ k_82 N P vl R x1 x2 C = some (r, C') ∧ QM A A' ∧ QC C C' := by
  have hn := hd.2.2.2.1
  have k10 : (10 : Int32).toInt = 10 := rfl
  have k13 : (13 : Int32).toInt = 13 := rfl
  have k20 : (20 : Int32).toInt = 20 := rfl
  have k23 : (23 : Int32).toInt = 23 := rfl
  by_cases c1 : 0 ≤ x1.toInt ∧ x1.toInt < d_n d
  · obtain ⟨p, hp, rfl⟩ := o_ex c1.1 c1.2
    obtain ⟨a, e1, ha⟩ := k_one (N := N) hn hC hp
    have hv9 := hd.2.2.2.2.2.1 p hp
    have hk6 := hd.2.2.2.2.1 p hp
    unfold g_146 k_82
    rw [m_pers hn hM.1.2.1, decide_eq_true c1]
    simp only [e_bd, e_bdn, e_st, e_li, e_bs, e_opn, e_ops, e_ob, e_vo, e_ia, e_eq, e_ne, e_lt, e_ge, e_gt, e_le, cond_true, cond_false, Bool.cond_decide, show ¬ b_i true = 0 by decide, not_false_eq_true, if_true, m_in, z_le, k10, k13, k20, k23, e1, k_w4]
    rw [show decide (0 ≤ (x2 - 10).toInt ∧ (x2 - 10).toInt < 4) = decide (10 ≤ x2.toInt ∧ x2.toInt ≤ 13) from decide_eq_decide.mpr ((z_sb (k := 10) (n := 4) k10 (by omega) (by omega)).trans (by omega)), show decide (0 ≤ (x2 - 20).toInt ∧ (x2 - 20).toInt < 4) = decide (20 ≤ x2.toInt ∧ x2.toInt ≤ 23) from decide_eq_decide.mpr ((z_sb (k := 20) (n := 4) k20 (by omega) (by omega)).trans (by omega))]
    by_cases c2 : 10 ≤ x2.toInt ∧ x2.toInt ≤ 13
    · rw [decide_eq_true c2]
      obtain ⟨q, hq, rfl⟩ := o_ex (x := x2) (n := 14) (by omega) (by omega)
      rw [z_ofNat (by omega)] at c2
      obtain ⟨w, rfl⟩ : ∃ w, q = 10 + w := ⟨q - 10, by omega⟩
      have hx : Int32.ofNat (10 + w) - 10 = Int32.ofNat w := by
        rw [show (10 : Int32) = Int32.ofNat 10 from rfl, o_sub (by omega)]; congr 1; omega
      obtain ⟨A1, ea, fa⟩ := m_bid hN hd hf hM hp (show w < 4 by omega)
      obtain ⟨C1, ec1, sc1, fc1⟩ := k_beg (N := N) hC hW
      obtain ⟨C2, ec2, fc2, hc2⟩ := k_ask hN hd hf sc1 hp
      have e3 : k_22 N P vl R (Int32.ofNat p) (Int32.ofNat w) C2 = some (b_kp (f_pu F p) (b_wi d F p w), C2) := by
        unfold k_22
        simp only [e_bd, e_bdn, e_st, e_li, e_bs, e_opn, e_ops, e_ob, e_vo, e_ia, e_eq, e_ne, e_lt, e_ge, e_gt, e_le, cond_true, cond_false, Bool.cond_decide, show Int32.ofNat (p) * 4 + Int32.ofNat (w) = Int32.ofNat (4 * (p) + w) by rw [show (4 : Int32) = Int32.ofNat 4 from rfl, o_mul, o_add, Nat.mul_comm], show a_in (Int32.ofNat (4 * p + w)) 32 = true by rw [o_in (by omega)]; simp; omega, o_cl (show 4 * p + w < 2147483648 by omega), hc2 (4 * p + w)]
        rw [if_pos (by omega)]
        show some (b_kp _ _, _) = _
        rw [show (4 * p + w) / 4 = p by omega, show (4 * p + w) % 4 = w by omega]
      refine ⟨b_kp (f_pu F p) (b_wi d F p w), A1, C2, ?_, ?_, QM_fr fa (by decide) (by decide) (by decide) (by decide), fr_mono (fr_tr (fr_mono fc1 (T := [9, 10, 12, 92]) (by simp)) (fr_mono fc2 (by simp))) (by simp)⟩
      · simp only [show ¬ b_i true = 0 by decide, if_false, hx, ea, e_bd, e_bdn, e_st, e_li, e_bs, e_opn, e_ops, e_ob, e_vo, e_ia, e_eq, e_ne, e_lt, e_ge, e_gt, e_le, cond_true, cond_false, Bool.cond_decide]
      · simp only [show ¬ b_i true = 0 by decide, if_false, hx, ec1, ec2, e3, e_bd, e_bdn, e_st, e_li, e_bs, e_opn, e_ops, e_ob, e_vo, e_ia, e_eq, e_ne, e_lt, e_ge, e_gt, e_le, cond_true, cond_false, Bool.cond_decide]
    · rw [decide_eq_false c2]
      simp only [show b_i false = 0 from rfl, if_true]
      by_cases c3 : 20 ≤ x2.toInt ∧ x2.toInt ≤ 23
      · rw [decide_eq_true c3]
        obtain ⟨A1, ea, fa⟩ := m_now (w := x2 - 20) hN hd hM hp
        obtain ⟨C1, ec1, sc1, fc1⟩ := k_beg (N := N) hC hW
        obtain ⟨C2, ec2, fc2⟩ := k_wt (w := x2 - 20) hN hd sc1 hp
        refine ⟨w_now d F p (x2 - 20), A1, C2, ?_, ?_, QM_fr fa (by decide) (by decide) (by decide) (by decide), fr_mono (fr_tr (fr_mono fc1 (T := [9, 12, 92]) (by simp)) (fr_mono fc2 (by simp))) (by simp)⟩
        · simp only [show ¬ b_i true = 0 by decide, if_false, ea, e_bd, e_bdn, e_st, e_li, e_bs, e_opn, e_ops, e_ob, e_vo, e_ia, e_eq, e_ne, e_lt, e_ge, e_gt, e_le, cond_true, cond_false, Bool.cond_decide]
        · simp only [show ¬ b_i true = 0 by decide, if_false, ec1, ec2, e_bd, e_bdn, e_st, e_li, e_bs, e_opn, e_ops, e_ob, e_vo, e_ia, e_eq, e_ne, e_lt, e_ge, e_gt, e_le, cond_true, cond_false, Bool.cond_decide]
      · rw [decide_eq_false c3]
        simp only [show b_i false = 0 from rfl, if_true, ha, e_bd, e_bdn, e_st, e_li, e_bs, e_opn, e_ops, e_ob, e_vo, e_ia, e_eq, e_ne, e_lt, e_ge, e_gt, e_le, cond_true, cond_false, Bool.cond_decide, k_cls hk6, show (140 : Int32) + Int32.ofNat p = Int32.ofNat (140 + p) from o_add (p := 140), show (148 : Int32) + Int32.ofNat p = Int32.ofNat (148 + p) from o_add (p := 148), show (3 : Int32) + Int32.ofNat p = Int32.ofNat (3 + p) from o_add (p := 3), show a_in (Int32.ofNat (140 + p)) 947 = true by rw [o_in (by omega)]; simp; omega, show a_in (Int32.ofNat (148 + p)) 947 = true by rw [o_in (by omega)]; simp; omega, show a_in (Int32.ofNat (3 + p)) 947 = true by rw [o_in (by omega)]; simp; omega, o_cl (show 140 + p < 2147483648 by omega), o_cl (show 148 + p < 2147483648 by omega), o_cl (show 3 + p < 2147483648 by omega), hM.1.2.2.1 p hp, hM.1.2.2.2.1 p hp, hM.2.2.2.2 p (by omega), show a_in (Int32.ofNat (p)) 8 = true by rw [o_in (by omega)]; simp; omega, o_cl (show p < 2147483648 by omega), hW.2.2.2 p (by omega)]
        by_cases d0 : x2 = 0
        · subst d0
          rw [show a_tsw 0 2 59 [47, 50, 53] 0 = 47 by decide]
          exact ⟨_, A, C, by simp; rfl, by simp, QM_rfl, fr_rfl⟩
        · by_cases d1 : x2 = 1
          · subst d1
            rw [show a_tsw 0 2 59 [47, 50, 53] 1 = 50 by decide]
            exact ⟨_, A, C, by simp; rfl, by simp, QM_rfl, fr_rfl⟩
          · by_cases d2 : x2 = 2
            · subst d2
              rw [show a_tsw 0 2 59 [47, 50, 53] 2 = 53 by decide]
              exact ⟨_, A, C, by simp; rfl, by simp, QM_rfl, fr_rfl⟩
            · have ht : a_tsw 0 2 59 [47, 50, 53] x2 = 59 := by
                unfold a_tsw
                rw [if_pos]
                rw [z_eq] at d0 d1 d2
                have k0 : (0 : Int32).toInt = 0 := rfl
                have k1 : (1 : Int32).toInt = 1 := rfl
                have k2 : (2 : Int32).toInt = 2 := rfl
                omega
              rw [ht]
              exact ⟨_, A, C, by simp [d0, d1, d2]; rfl, by simp, QM_rfl, fr_rfl⟩
  · unfold g_146 k_82
    rw [m_pers hn hM.1.2.1, decide_eq_false c1, k_no hn hC c1]
    exact ⟨_, A, C, by simp only [e_bd, e_bdn, e_st, e_li, e_bs, e_opn, e_ops, e_ob, e_vo, e_ia, e_eq, e_ne, e_lt, e_ge, e_gt, e_le, cond_true, cond_false, Bool.cond_decide, show b_i false = 0 from rfl, not_true, if_false]; rfl, by simp only [e_bd, e_bdn, e_st, e_li, e_bs, e_opn, e_ops, e_ob, e_vo, e_ia, e_eq, e_ne, e_lt, e_ge, e_gt, e_le, cond_true, cond_false, Bool.cond_decide], QM_rfl, fr_rfl⟩
/-- harm -/
theorem q_harm (hN : 200 ≤ N) (hd : d_ok d) (hf : f_ok d F) (hM : MS A d F) (hC : CD C P vl R d) (hW : WF C F) (x1 : Int32) : ∃ r A' C', g_159 N x1 A = some (r, A') ∧ k_88 N P vl R x1 C = some (r, C') ∧ QM A A' ∧ QC C C' := by
  have hn := hd.2.2.2.1
  unfold g_159 k_88
  rw [m_pers hn hM.1.2.1, k_is hn hC]
  by_cases c1 : 0 ≤ x1.toInt ∧ x1.toInt < d_n d
  · rw [decide_eq_true c1]
    obtain ⟨p, hp, rfl⟩ := o_ex c1.1 c1.2
    obtain ⟨A1, e1, f1, h1⟩ := m_tb hN hd hf hM
    have M1 := MS_fr hM f1 (by decide)
    obtain ⟨A2, e2, f2, p2, O2⟩ := m_se hN hd hf (B_all hf) M1 h1
    have e3 := m_harm (N := N) hN hd hf O2 hp
    obtain ⟨C1, ec1, sc1, fc1⟩ := k_beg (N := N) hC hW
    obtain ⟨C2, ec2, fc2, -, oc2, -⟩ := k_open hN hd hf sc1
    have ec3 := k_harm (N := N) (P := P) (vl := vl) (R := R) hN hd hf oc2 hp
    have hz : (if b_any d (b_all d F) then b_hm d F (b_all d F) p else 0) = b_hm d F (b_all d F) p := by
      cases ha : b_any d (b_all d F)
      · rw [if_neg (by simp), hm_0 hd hf (B_all hf) ha hp]
      · rw [if_pos rfl]
    rw [hz] at e3
    refine ⟨b_hm d F (b_all d F) p, A2, C2, ?_, ?_, QM_f9 (fr_tr (fr_mono f1 (T := [3, 4, 5, 6, 99]) (by simp)) (fr_mono f2 (by simp))) (by decide) (by decide) (by decide) (f9_tr (f9_fr f1 (by decide)) p2) (by decide) (by decide), fr_mono (fr_tr (fr_mono fc1 (T := [9, 10, 11, 12, 92]) (by simp)) (fr_mono fc2 (by simp))) (by simp)⟩
    · simp only [e_bd, e_bdn, e_st, e_li, e_bs, e_opn, e_ops, e_ob, e_vo, e_ia, e_eq, e_ne, e_lt, e_ge, e_gt, e_le, cond_true, cond_false, Bool.cond_decide, show ¬ b_i true = 0 by decide, not_false_eq_true, if_true, e1, e2, e3]
    · simp only [e_bd, e_bdn, e_st, e_li, e_bs, e_opn, e_ops, e_ob, e_vo, e_ia, e_eq, e_ne, e_lt, e_ge, e_gt, e_le, cond_true, cond_false, Bool.cond_decide, show ¬ b_i true = 0 by decide, not_false_eq_true, if_true, ec1, ec2, ec3]
  · rw [decide_eq_false c1]
    exact ⟨_, A, C, by simp only [e_bd, e_bdn, e_st, e_li, e_bs, e_opn, e_ops, e_ob, e_vo, e_ia, e_eq, e_ne, e_lt, e_ge, e_gt, e_le, cond_true, cond_false, Bool.cond_decide, show b_i false = 0 from rfl, not_true, if_false]; rfl, by simp only [e_bd, e_bdn, e_st, e_li, e_bs, e_opn, e_ops, e_ob, e_vo, e_ia, e_eq, e_ne, e_lt, e_ge, e_gt, e_le, cond_true, cond_false, Bool.cond_decide, show b_i false = 0 from rfl, not_true, if_false], QM_rfl, fr_rfl⟩
theorem ne_i {x : Int32} {c : Int32} {k : Int} (hc : c.toInt = k) : (x = c) ↔ x.toInt = k := by rw [z_eq, hc]
/-- sold -/
theorem q_sold (hN : 200 ≤ N) (hd : d_ok d) (hf : f_ok d F) (hM : MS A d F) (hC : CD C P vl R d) (hW : WF C F) (x1 : Int32) : ∃ r A' C', g_154 N x1 A = some (r, A') ∧ k_84 N P vl R x1 C = some (r, C') ∧ QM A A' ∧ QC C C' := by
  have hn := hd.2.2.2.1
  have k0 : (0 : Int32).toInt = 0 := rfl
  have k1 : (1 : Int32).toInt = 1 := rfl
  have k10 : (10 : Int32).toInt = 10 := rfl
  have hs := z_sb (x := x1) (c := 10) (k := 10) (n := d_n d) k10 (by omega) (by omega)
  obtain ⟨A1, e1, f1, h1⟩ := m_tb hN hd hf hM
  have M1 := MS_fr hM f1 (by decide)
  obtain ⟨A2, e2, g2, p2, O2⟩ := m_se hN hd hf (B_all hf) M1 h1
  have M2 := MS_fr M1 g2 (by decide)
  obtain ⟨C1, ec1, sc1, fc1⟩ := k_beg (N := N) hC hW
  obtain ⟨C2, ec2, fc2, -, oc2, sc2⟩ := k_open hN hd hf sc1
  obtain ⟨q, hq, hso⟩ := so_ok (F := F) (B := b_all d F) hd hf
  have hQM : QM A A2 := QM_f9 (fr_tr (fr_mono f1 (T := [3, 4, 5, 6, 99]) (by simp)) (fr_mono g2 (by simp))) (by decide) (by decide) (by decide) (f9_tr (f9_fr f1 (by decide)) p2) (by decide) (by decide)
  have hQC : QC C C2 := fr_mono (fr_tr (fr_mono fc1 (T := [9, 10, 11, 12, 92]) (by simp)) (fr_mono fc2 (by simp))) (by simp)
  unfold g_154 k_84
  rw [k_is hn hC]
  simp only [m_in, e_bd, e_bdn, e_st, e_li, e_bs, e_opn, e_ops, e_ob, e_vo, e_ia, e_eq, e_ne, e_lt, e_ge, e_gt, e_le, cond_true, cond_false, Bool.cond_decide, z_le, z_lt, k0, k1, k10, ne_i (x := x1) k0, ne_i (x := x1) k1]
  by_cases c1 : 10 ≤ x1.toInt ∧ x1.toInt < 10 + d_n d
  · have hp := hs.mpr c1
    obtain ⟨p, hp2, hx⟩ := o_ex hp.1 hp.2
    rw [decide_eq_false (show ¬ (0 ≤ x1.toInt ∧ x1.toInt ≤ 1) by omega), decide_eq_true hp, m_pers hn hM.1.2.1, decide_eq_true hp]
    simp only [show ¬ x1.toInt < 10 by omega, show ¬ x1.toInt = 0 by omega, show ¬ x1.toInt = 1 by omega, show ¬ b_i true = 0 by decide, show b_i false = 0 from rfl, e_bd, e_bdn, e_st, e_li, e_bs, e_opn, e_ops, e_ob, e_vo, e_ia, e_eq, e_ne, e_lt, e_ge, e_gt, e_le, cond_true, cond_false, Bool.cond_decide, not_true, not_false_eq_true, if_true, if_false, g_154_16, k_84_16, e1, e2, ec1, ec2, hx, m_pay hN hd hf (B_all hf) M2.1 O2 hp2, k_due hN hd hf (B_all hf) sc2.1 oc2 hp2, ne_i (x := x1) k0, ne_i (x := x1) k1]
    exact ⟨_, A2, C2, rfl, rfl, hQM, hQC⟩
  · rw [decide_eq_false (show ¬ (0 ≤ (x1 - 10).toInt ∧ (x1 - 10).toInt < (d_n d : Int)) from fun h => c1 (hs.mp h))]
    by_cases c2 : x1.toInt = 0
    · rw [decide_eq_true (show (0 ≤ x1.toInt ∧ x1.toInt ≤ 1) by omega)]
      simp only [c2, show ¬ b_i true = 0 by decide, show b_i false = 0 from rfl, e_bd, e_bdn, e_st, e_li, e_bs, e_opn, e_ops, e_ob, e_vo, e_ia, e_eq, e_ne, e_lt, e_ge, e_gt, e_le, cond_true, cond_false, Bool.cond_decide, not_true, not_false_eq_true, if_true, if_false, g_154_16, k_84_16, e1, e2, ec1, ec2, ne_i (x := x1) k0, ne_i (x := x1) k1, O2.2.2.1, oc2.2.2.1]
      exact ⟨_, A2, C2, rfl, rfl, hQM, hQC⟩
    · by_cases c3 : x1.toInt = 1
      · rw [decide_eq_true (show (0 ≤ x1.toInt ∧ x1.toInt ≤ 1) by omega)]
        have hz : (if b_i (!b_any d (b_all d F)) = 0 then b_S d (b_all d F) q else 0) = b_S d (b_all d F) q := by
          cases ha : b_any d (b_all d F)
          · rw [if_neg (by decide), any_0 hd (B_all hf) ha hq]
          · rw [if_pos (by decide)]
        simp only [c3, show ¬ ((1 : Int) = 0) by decide, show ¬ b_i true = 0 by decide, show b_i false = 0 from rfl, e_bd, e_bdn, e_st, e_li, e_bs, e_opn, e_ops, e_ob, e_vo, e_ia, e_eq, e_ne, e_lt, e_ge, e_gt, e_le, cond_true, cond_false, Bool.cond_decide, not_true, not_false_eq_true, if_true, if_false, g_154_16, k_84_16, e1, e2, ec1, ec2, ne_i (x := x1) k0, ne_i (x := x1) k1, O2.2.2.1, O2.2.2.2, oc2.2.2.1, k_23, hso, show a_in (Int32.ofNat (q)) 4 = true by rw [o_in (by omega)]; simp; omega, o_cl (show q < 2147483648 by omega), O2.2.1 q hq, oc2.2.1 q hq]
        refine ⟨_, A2, C2, ?_, rfl, hQM, hQC⟩
        rw [← hz]
        split <;> rfl
      · rw [decide_eq_false (show ¬ (0 ≤ x1.toInt ∧ x1.toInt ≤ 1) by omega), m_pers hn hM.1.2.1, decide_eq_false (show ¬ (0 ≤ (x1 - 10).toInt ∧ (x1 - 10).toInt < (d_n d : Int)) from fun h => c1 (hs.mp h))]
        simp only [c2, c3, show b_i false = 0 from rfl, e_bd, e_bdn, e_st, e_li, e_bs, e_opn, e_ops, e_ob, e_vo, e_ia, e_eq, e_ne, e_lt, e_ge, e_gt, e_le, cond_true, cond_false, Bool.cond_decide, not_true, not_false_eq_true, if_true, if_false]
        refine ⟨-10001, A, C, ?_, rfl, QM_rfl, fr_rfl⟩
        split <;> rfl
end Q1
