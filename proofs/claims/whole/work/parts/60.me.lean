/-! 60.me: the model's evening -/
theorem sg_congr {s s' : Nat → Int32} : ∀ {l : List Int32} {a : Nat}, (∀ j, a ≤ j → s' j = s j) → sg s a l → sg s' a l := by
  intro l
  induction l with
  | nil => intro a _ _; trivial
  | cons x l ih =>
    intro a h hs
    exact ⟨(h a (Nat.le_refl _)).trans hs.1, ih (fun j hj => h j (by omega)) hs.2⟩
theorem MD_congr {s s' : Nat → Int32} {d : dS} (h : ∀ j, 11 ≤ j → s' j = s j) (hM : MD s d) : MD s' d := by
  obtain ⟨h1, h2, h3, h4, h5, h6, h7⟩ := hM
  refine ⟨?_, (h 11 (by omega)).trans h2, fun p hp => (h _ (by omega)).trans (h3 p hp), fun p hp => (h _ (by omega)).trans (h4 p hp), fun p hp => (h _ (by omega)).trans (h5 p hp), (h 13 (by omega)).trans h6, fun p hp => (h _ (by omega)).trans (h7 p hp)⟩
  rcases h1 with ⟨h1, h8⟩ | ⟨q, hq, h1, h8, h9, h10, h11, h12⟩
  · exact .inl ⟨(h 17 (by omega)).trans h1, h8⟩
  · exact .inr ⟨q, hq, (h 17 (by omega)).trans h1, (h _ (by omega)).trans h8, (h _ (by omega)).trans h9, (h _ (by omega)).trans h10, h11, sg_congr (fun j hj => h j (by omega)) h12⟩
theorem mx0_ge {z : Int32} : (if 0 ≤ z then z else 0) = i_mx 0 z := by
  unfold i_mx
  have k0 : (0 : Int32).toInt = 0 := rfl
  simp only [z_le, z_lt]
  by_cases c : (0 : Int32).toInt < z.toInt
  · rw [if_pos c, if_pos (by omega)]
  · rw [if_neg c]
    by_cases c' : (0 : Int32).toInt ≤ z.toInt
    · rw [if_pos c', show z = 0 by rw [z_eq]; omega]
    · rw [if_neg c']
theorem cap_le {z : Int32} : (if z ≤ 999 then z else 999) = i_cap z := by
  unfold i_cap
  have k0 : (999 : Int32).toInt = 999 := rfl
  simp only [z_le, z_lt]
  by_cases c : (999 : Int32).toInt < z.toInt
  · rw [if_pos c, if_neg (by omega)]
  · rw [if_neg c, if_pos (by omega)]
section ME
variable {N : Nat} {d : dS} {F : fS} {A : mS} {B : Nat → Int32}
/-- the purse behind the evening -/
def e_pu (d : dS) (F : fS) (B : Nat → Int32) (p : Nat) : Int32 := i_cap (i_mx 0 (f_pu F p - b_pay d F B p) + d_gi d)
theorem m_ev1 (hN : 200 ≤ N) (hd : d_ok d) (hf : f_ok d F) (hB : B_ok d B) {A0 : mS} {x : Int32} (hM : MS A0 d F) {m : Nat} : ∀ (r k : Nat) (A : mS), k + r = d_n d → MO A d F B → (∀ j, A 0 j = if 3 ≤ j ∧ j < 3 + k then e_pu d F B (j - 3) else A0 0 j) → A 99 17 = x + b_pd d F B k →
    ∃ A', g_152_23 N (r + m) (Int32.ofNat k) A = g_152_23 N m (Int32.ofNat (d_n d)) A' ∧ fr [0, 99] A A' ∧ f9 [17] A A' ∧ MO A' d F B ∧ (∀ j, A' 0 j = if 3 ≤ j ∧ j < 3 + d_n d then e_pu d F B (j - 3) else A0 0 j) ∧ A' 99 17 = x + b_pd d F B (d_n d) := by
  have hn := hd.2.2.2.1
  intro r
  induction r with
  | zero =>
    intro k A hk hO h0 h17
    obtain rfl : k = d_n d := by omega
    exact ⟨A, by rw [Nat.zero_add], fr_rfl, fun _ _ => rfl, hO, h0, h17⟩
  | succ r ih =>
    intro k A hk hO h0 h17
    have hM1 : MD (A 0) d := MD_congr (s := A0 0) (fun j hj => by rw [h0 j, if_neg (by omega)]) hM.1
    have hpk : A 0 (3 + k) = f_pu F k := by rw [h0, if_neg (by omega)]; exact hM.2.2.2.2 k (by omega)
    have e1 := m_pay (N := N) hN hd hf hB hM1 hO (show k < d_n d by omega)
    generalize hA1 : va_up A 99 (upd (A 99) 17 (A 99 17 + b_pay d F B k)) = A1
    have f1 : fr [0, 99] A A1 := by rw [← hA1]; exact fr_up fr_rfl (by simp)
    have p1 : f9 [17] A A1 := by rw [← hA1]; exact f9_up (fun _ _ => rfl) (by simp)
    have a10 : A1 0 = A 0 := by rw [← hA1]; exact va_up_ne _ _ (by decide)
    have hM2 : MD (A1 0) d := by rw [a10]; exact hM1
    have eg : g_132 N 237 A1 = some (d_gi d, A1) := mv_gi hM2
    generalize hA2 : va_up A1 0 (upd (A1 0) (3 + k) (e_pu d F B k)) = A2
    have f2 : fr [0, 99] A A2 := by rw [← hA2]; exact fr_up f1 (by simp)
    have a299 : A2 99 = A1 99 := by rw [← hA2]; exact va_up_ne _ _ (by decide)
    have p2 : f9 [17] A A2 := by intro f hf'; rw [a299]; exact p1 f hf'
    have a20 : A2 0 = upd (A 0) (3 + k) (e_pu d F B k) := by rw [← hA2, va_up_self, a10]
    have hO2 : MO A2 d F B := by
      refine ⟨?_, ?_, ?_, ?_⟩
      · rw [fr_at f2 (by decide)]; exact hO.1
      · rw [fr_at f2 (by decide)]; exact hO.2.1
      · rw [p2 14 (by decide)]; exact hO.2.2.1
      · rw [p2 15 (by decide)]; exact hO.2.2.2
    obtain ⟨A3, e3, f3, p3, hO3, h03, h173⟩ := ih (k + 1) A2 (by omega) hO2 (by
      intro j
      rw [a20]
      by_cases c : j = 3 + k
      · subst c
        rw [upd_self, if_pos (by omega), show 3 + k - 3 = k by omega]
      · rw [upd_ne _ _ c, h0 j]
        by_cases c2 : 3 ≤ j ∧ j < 3 + k
        · rw [if_pos c2, if_pos (by omega)]
        · rw [if_neg c2, if_neg (by omega)]) (by
      rw [a299, ← hA1, va_up_self, upd_self, h17, Int32.add_assoc]
      rfl)
    refine ⟨A3, ?_, fr_tr f2 f3, f9_tr p2 p3, hO3, h03, h173⟩
    rw [← e3, show r + 1 + m = (r + m) + 1 by omega]
    show g_152_23b _ _ _ _ = _
    unfold g_152_23b g_152_53
    have hge : ¬ Int32.ofNat (d_n d) ≤ Int32.ofNat k := by rw [o_le (by omega) (by omega)]; omega
    have hin : a_in (Int32.ofNat (3 + k)) 947 = true := by rw [o_in (by omega)]; simp; omega
    simp only [e_bd, e_bdn, e_st, e_li, e_bs, e_opn, e_ops, e_ob, e_vo, e_ia, e_eq, e_ne, e_lt, e_ge, e_gt, e_le, cond_true, cond_false, Bool.cond_decide, hM1.2.1, hge, if_false, e1, show (3 : Int32) + Int32.ofNat k = Int32.ofNat (3 + k) from o_add (p := 3), hin, o_cl (show 3 + k < 2147483648 by omega), hpk, hA1, eg, show Int32.ofNat k + 1 = Int32.ofNat (k + 1) from o_add (q := 1)]
    have hz : ∀ z, (if z + d_gi d ≤ 999 then g_152_23 N (r + m) (Int32.ofNat (k + 1)) (va_up A1 0 (upd (A1 0) (3 + k) (z + d_gi d))) else g_152_23 N (r + m) (Int32.ofNat (k + 1)) (va_up A1 0 (upd (A1 0) (3 + k) 999))) = g_152_23 N (r + m) (Int32.ofNat (k + 1)) (va_up A1 0 (upd (A1 0) (3 + k) (i_cap (z + d_gi d)))) := by
      intro z
      rw [← cap_le]
      split <;> rfl
    rw [hz, hz, ← hA2]
    unfold e_pu
    rw [← mx0_ge]
    split <;> rfl
theorem tu_ok (hd : d_ok d) (hf : f_ok d F) (b : Bool) : (if Int32.ofNat (d_fn d) = 0 then (0 : Int32) else (f_tu F + b_i (!b)) - (f_tu F + b_i (!b)) / Int32.ofNat (d_fn d) * Int32.ofNat (d_fn d)) = if b then f_tu F else if f_tu F + 1 < Int32.ofNat (d_fn d) then f_tu F + 1 else 0 := by
  have hfn := hd.2.2.2.2.2.2.2.1
  have htu := hf.2.2.1
  have ht : f_tu F = Int32.ofNat (f_tu F).toInt.toNat := o_of htu.1 rfl
  generalize hq : (f_tu F).toInt.toNat = q at ht
  rw [ht]
  by_cases c : d_fn d = 0
  · have e : Int32.ofNat (d_fn d) = 0 := by rw [c]; rfl
    have q0 : q = 0 := by omega
    subst q0
    rw [if_pos e, e]
    cases b <;> decide
  · have e : ¬ Int32.ofNat (d_fn d) = 0 := by rw [show (0 : Int32) = Int32.ofNat 0 from rfl, o_eq (by omega) (by omega)]; exact c
    rw [if_neg e]
    cases b
    · rw [show Int32.ofNat q + b_i (!false) = Int32.ofNat (q + 1) from o_add (q := 1), o_rem (by omega) (by omega) (by omega), show Int32.ofNat q + 1 = Int32.ofNat (q + 1) from o_add (q := 1)]
      by_cases c2 : q + 1 < d_fn d
      · rw [Nat.mod_eq_of_lt c2, if_neg (by simp), if_pos ((o_lt (by omega) (by omega)).mpr c2)]
      · rw [show q + 1 = d_fn d by omega, Nat.mod_self, if_neg (by simp), if_neg (fun h => absurd ((o_lt (by omega) (by omega)).mp h) (by omega))]
        rfl
    · rw [show Int32.ofNat q + b_i (!true) = Int32.ofNat q from Int32.add_zero _, o_rem (by omega) (by omega) (by omega), Nat.mod_eq_of_lt (by omega), if_pos rfl]
/-- the model's evening -/
theorem m_eve (hN : 200 ≤ N) (hd : d_ok d) (hf : f_ok d F) (hM : MS A d F) : ∃ A', g_152 N A = some (0, A') ∧ MS A' d (e_nx d F) ∧ A' 99 14 = b_so d F (b_all d F) ∧ A' 99 16 = A 99 16 + w_all d (b_so d F (b_all d F)) (f_ah F) (f_dy F) (d_n d) ∧ A' 99 17 = A 99 17 + b_pd d F (b_all d F) (d_n d) ∧ fr [0, 3, 4, 5, 6, 99] A A' ∧ f9 [14, 15, 16, 17] A A' ∧ ∀ j, 11 ≤ j → A' 0 j = A 0 j := by
  have hn := hd.2.2.2.1
  obtain ⟨A1, e1, f1, h1⟩ := m_tb hN hd hf hM
  have M1 := MS_fr hM f1 (by decide)
  obtain ⟨A2, e2, f2, p2, O2⟩ := m_se hN hd hf (B_all hf) M1 h1
  have M2 := MS_fr M1 f2 (by decide)
  obtain ⟨A3, e3, f3⟩ := m_wall (w := b_so d F (b_all d F)) (y := f_ah F) (dy := f_dy F) hN hd M2.1
  have M3 := MS_fr M2 f3 (by decide)
  have O3 := MO_fr O2 f3 (by decide) (by decide) (by decide)
  have fA3 : fr [0, 3, 4, 5, 6, 99] A A3 := fr_tr (fr_mono f1 (by simp)) (fr_tr (fr_mono f2 (by simp)) (fr_mono f3 (by simp)))
  have pA3 : f9 [14, 15, 16, 17] A A3 := f9_tr (f9_fr f1 (by decide)) (f9_tr (fun f hf' => p2 f (by simp at hf' ⊢; omega)) (f9_fr f3 (by decide)))
  have a30 : A3 0 = A 0 := by rw [fr_at f3 (by decide), fr_at f2 (by decide), fr_at f1 (by decide)]
  have a316 : A3 99 16 = A 99 16 := by rw [fr_at f3 (by decide), p2 16 (by decide), fr_at f1 (by decide)]
  have a317 : A3 99 17 = A 99 17 := by rw [fr_at f3 (by decide), p2 17 (by decide), fr_at f1 (by decide)]
  have a299 : A2 99 16 = A 99 16 := by rw [p2 16 (by decide), fr_at f1 (by decide)]
  unfold g_152
  rw [e1]
  simp only [e_bd, e_bdn, e_st, e_li, e_bs, e_opn, e_ops, e_ob, e_vo, e_ia, e_eq, e_ne, e_lt, e_ge, e_gt, e_le, cond_true, cond_false, Bool.cond_decide, e2, O2.2.2.1, M2.2.1, M2.2.2.1, e3, a299]
  generalize hA4 : va_up A3 99 (upd (A3 99) 16 (A 99 16 + w_all d (b_so d F (b_all d F)) (f_ah F) (f_dy F) (d_n d))) = A4
  have f4 : fr [0, 3, 4, 5, 6, 99] A A4 := by rw [← hA4]; exact fr_up fA3 (by simp)
  have p4 : f9 [14, 15, 16, 17] A A4 := by rw [← hA4]; exact f9_up pA3 (by simp)
  have a40 : A4 0 = A 0 := by rw [← hA4, va_up_ne _ _ (by decide)]; exact a30
  have a416 : A4 99 16 = A 99 16 + w_all d (b_so d F (b_all d F)) (f_ah F) (f_dy F) (d_n d) := by rw [← hA4, va_up_self, upd_self]
  have a417 : A4 99 17 = A 99 17 := by rw [← hA4, va_up_self, upd_ne _ _ (by decide)]; exact a317
  have O4 : MO A4 d F (b_all d F) := by
    rw [← hA4]
    refine ⟨?_, ?_, ?_, ?_⟩
    · rw [va_up_ne _ _ (by decide)]; exact O3.1
    · rw [va_up_ne _ _ (by decide)]; exact O3.2.1
    · rw [va_up_self, upd_ne _ _ (by decide)]; exact O3.2.2.1
    · rw [va_up_self, upd_ne _ _ (by decide)]; exact O3.2.2.2
  obtain ⟨A5, e5, f5, p5, O5, h05, h175⟩ := m_ev1 (N := N) (A0 := A) (x := A 99 17) (m := N - d_n d) hN hd hf (B_all hf) hM (d_n d) 0 A4 (by omega) O4 (fun j => by rw [if_neg (by omega), a40]) (by rw [a417]; exact (Int32.add_zero _).symm)
  rw [show d_n d + (N - d_n d) = N by omega] at e5
  have e5' : g_152_23 N N 0 A4 = g_152_23 N (N - d_n d) (Int32.ofNat (d_n d)) A5 := e5
  rw [e5']
  obtain ⟨m, hm⟩ : ∃ m, N - d_n d = m + 1 := ⟨N - d_n d - 1, by omega⟩
  rw [hm]
  show ∃ A', g_152_23b _ _ _ _ = _ ∧ _
  have hs11 : A5 0 11 = Int32.ofNat (d_n d) := by rw [h05, if_neg (by omega)]; exact hM.1.2.1
  have hs13 : A5 0 13 = Int32.ofNat (d_fn d) := by rw [h05, if_neg (by omega)]; exact hM.1.2.2.2.2.2.1
  have hs2 : A5 0 2 = f_tu F := by rw [h05, if_neg (by omega)]; exact hM.2.2.2.1
  have hs0 : A5 0 0 = f_dy F := by rw [h05, if_neg (by omega)]; exact hM.2.1
  have hb : (b_i (!b_any d (b_all d F)) = 0) = (b_any d (b_all d F) = true) := by cases b_any d (b_all d F) <;> decide
  have key : g_152_23b N (g_152_23 N m) (Int32.ofNat (d_n d)) A5 = some (0, va_up A5 0 (upd (upd (upd (upd (A5 0) 2 (f_tu F + b_i (!b_any d (b_all d F)))) 2 (if b_any d (b_all d F) then f_tu F else if f_tu F + 1 < Int32.ofNat (d_fn d) then f_tu F + 1 else 0)) 0 (f_dy F + 1)) 1 (b_so d F (b_all d F)))) := by
    unfold g_152_23b
    have h83 : ∀ t, g_152_83 N 2 (f_tu F) t A5 = some (0, va_up A5 0 (upd (upd (upd (upd (A5 0) 2 (f_tu F + t)) 2 (if Int32.ofNat (d_fn d) = 0 then (0 : Int32) else (f_tu F + t) - (f_tu F + t) / Int32.ofNat (d_fn d) * Int32.ofNat (d_fn d))) 0 (f_dy F + 1)) 1 (b_so d F (b_all d F)))) := by
      intro t
      unfold g_152_83 g_152_104
      have i2 : a_in (2 : Int32) 947 = true := by decide
      have c2 : (2 : Int32).toNatClampNeg = 2 := by decide
      have vv : ∀ (X : mS) (a b : Nat → Int32), va_up (va_up X 0 a) 0 b = va_up X 0 b := by
        intro X a b
        funext i
        by_cases c : i = 0
        · subst c; rw [va_up_self, va_up_self]
        · rw [va_up_ne _ _ c, va_up_ne _ _ c, va_up_ne _ _ c]
      simp only [e_bd, e_bdn, e_st, e_li, e_bs, e_opn, e_ops, e_ob, e_vo, e_ia, e_eq, e_ne, e_lt, e_ge, e_gt, e_le, cond_true, cond_false, Bool.cond_decide, i2, c2, va_up_self, upd_ne _ _ (show (13 : Nat) ≠ 2 by decide), hs13, upd_self, vv, upd_ne _ _ (show (0 : Nat) ≠ 2 by decide), hs0, va_up_ne _ _ (show (99 : Nat) ≠ 0 by decide), O5.2.2.1]
      by_cases c : Int32.ofNat (d_fn d) = 0
      · simp only [c, not_true, if_false, if_true]
      · simp only [c, not_false_eq_true, if_true, if_false]
    simp only [e_bd, e_bdn, e_st, e_li, e_bs, e_opn, e_ops, e_ob, e_vo, e_ia, e_eq, e_ne, e_lt, e_ge, e_gt, e_le, cond_true, cond_false, Bool.cond_decide, hs11, z_le, Int.le_refl, if_true, O5.2.2.2, hs2, h83]
    rw [← tu_ok hd hf (b_any d (b_all d F))]
    cases b_any d (b_all d F) <;> rfl
  rw [key]
  refine ⟨_, rfl, ⟨?_, ?_⟩, ?_, ?_, ?_, ?_, ?_, ?_⟩
  · rw [va_up_self]
    refine MD_congr (s := A 0) (fun j hj => ?_) hM.1
    rw [upd_ne _ _ (by omega), upd_ne _ _ (by omega), upd_ne _ _ (by omega), upd_ne _ _ (by omega), h05 j, if_neg (by omega)]
  · rw [va_up_self]
    refine ⟨?_, ?_, ?_, ?_⟩
    · rw [upd_ne _ _ (by decide), upd_self]; rfl
    · rw [upd_self]; rfl
    · rw [upd_ne _ _ (by decide), upd_ne _ _ (by decide), upd_self]; rfl
    · intro p hp
      rw [upd_ne _ _ (by omega), upd_ne _ _ (by omega), upd_ne _ _ (by omega), upd_ne _ _ (by omega), h05]
      show _ = if p < d_n d then _ else _
      by_cases c : p < d_n d
      · rw [if_pos (by omega), if_pos c, show 3 + p - 3 = p by omega]
        rfl
      · rw [if_neg (by omega), if_neg c]
        exact hM.2.2.2.2 p hp
  · rw [va_up_ne _ _ (by decide)]; exact O5.2.2.1
  · rw [va_up_ne _ _ (by decide), p5 16 (by decide)]; exact a416
  · rw [va_up_ne _ _ (by decide)]; exact h175
  · exact fr_up (fr_tr f4 (fr_mono f5 (by simp))) (by simp)
  · intro f hf'
    rw [va_up_ne _ _ (by decide), p5 f (by simp at hf' ⊢; omega)]
    exact p4 f hf'
  · intro j hj
    rw [va_up_self, upd_ne _ _ (by omega), upd_ne _ _ (by omega), upd_ne _ _ (by omega), upd_ne _ _ (by omega), h05 j, if_neg (by omega)]
end ME
