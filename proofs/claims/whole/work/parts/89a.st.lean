/-! 89a.st: the whole state of a run; what a call of class and model does to it -/
def PO (P : Nat → Option Nat) (R : List aC) : Prop := ∀ p a, p < 8 → P p = some a → ∃ (ci : Nat) (k n v : Int32), bdr R a = some (ci, k, n, v) ∧ List.contains [0, 1, 3, 4, 6, 7, 8] ci = true
def VF (vl : Option Nat) (R : List aC) (w : Nat) : Prop := vl = none ∨ ∃ (a cr er ar : Nat) (ru gi : Int32), vl = some a ∧ vly R a = some (cr, er, ar, ru, gi) ∧ (∀ x, x = cr ∨ x = er ∨ x = ar → x < w ∨ w + 8 ≤ x)
/-- the image: none, or a world of eight cells among what was made later -/
def IM (A : mS) (vl kp : Option Nat) (R : List aC) : Prop := (kp = none ∧ A 99 4 = 0) ∨ ∃ (R1 R2 : List aC) (K : mS) (P' : Nat → Option Nat) (vl' : Option Nat), kp = some (R1.length + 33) ∧ A 99 4 = 1 ∧ R = R1 ++ (wb (R1.length + 33) K P' vl' ++ R2) ∧ XW (A 1) K P' vl' R ∧ PO P' R ∧ VF vl R (R1.length + 33) ∧ VF vl' R (R1.length + 33)
def ST (A C : mS) (P : Nat → Option Nat) (vl kp : Option Nat) (R : List aC) (t : Nat) : Prop := XW (A 0) C P vl R ∧ (∃ n, TT A C n) ∧ PO P R ∧ IM A vl kp R ∧ R.length ≤ 8 * t ∧ a_hz R ≤ 1000 * t
theorem PO_app {P : Nat → Option Nat} {R : List aC} (c : List aC) (h : PO P R) : PO P (R ++ c) := fun p a hp e => by
  obtain ⟨ci, k, n, v, h1, h2⟩ := h p a hp e
  exact ⟨ci, k, n, v, bdr_app c h1, h2⟩
theorem VF_app {vl : Option Nat} {R : List aC} {w : Nat} (c : List aC) (h : VF vl R w) : VF vl (R ++ c) w := by
  rcases h with h | ⟨a, cr, er, ar, ru, gi, h1, h2, h3⟩
  · exact .inl h
  · exact .inr ⟨a, cr, er, ar, ru, gi, h1, vly_app c h2, h3⟩
theorem IM_app {A : mS} {vl kp : Option Nat} {R : List aC} (c : List aC) (h : IM A vl kp R) : IM A vl kp (R ++ c) := by
  rcases h with h | ⟨R1, R2, K, P', vl', h1, h2, h3, h4, h5, h6, h7⟩
  · exact .inl h
  · refine .inr ⟨R1, R2 ++ c, K, P', vl', h1, h2, ?_, XW_app c h4, PO_app c h5, VF_app c h6, VF_app c h7⟩
    rw [h3]
    simp only [List.append_assoc]
theorem IM_c {A A' : mS} {vl kp : Option Nat} {R : List aC} (e1 : A' 1 = A 1) (e4 : A' 99 4 = A 99 4) (h : IM A vl kp R) : IM A' vl kp R := by
  unfold IM
  rw [e1, e4]
  exact h
theorem TT_c {A A' C C' : mS} {n : Nat} (e9 : A' 9 = A 9) (e21 : A' 99 21 = A 99 21) (e13 : C' 13 = C 13) (h : TT A C n) : TT A' C' n := by
  unfold TT
  rw [e9, e21, e13]
  exact h
theorem a_hz_ap (h c : List aC) : a_hz (h ++ c) = a_hz h + a_hz c := by simp [a_hz]
section STS
variable {A A' C C' : mS} {P : Nat → Option Nat} {vl kp : Option Nat} {R : List aC} {t : Nat}
theorem ST_1 (h : ST A C P vl kp R t) : ST A C P vl kp R (t + 1) := ⟨h.1, h.2.1, h.2.2.1, h.2.2.2.1, by have := h.2.2.2.2.1; omega, by have := h.2.2.2.2.2; omega⟩
theorem ST_s (h : ST A C P vl kp R t) (hx : XW (A' 0) C' P vl R) (hs : SM A A') (h13 : C' 13 = C 13) : ST A' C' P vl kp R (t + 1) := by
  obtain ⟨-, ⟨n, h2⟩, h3, h4, h5, h6⟩ := ST_1 h
  exact ⟨hx, ⟨n, TT_c hs.2.1 hs.2.2.2 h13 h2⟩, h3, IM_c hs.1 hs.2.2.1 h4, h5, h6⟩
theorem ST_q (h : ST A C P vl kp R t) (hM : QM A A') (hC : QC C C') : ST A' C' P vl kp R (t + 1) := by
  obtain ⟨d, F, ns, nv, nb, nk, hx⟩ := h.1
  exact ST_s h ⟨d, F, ns, nv, nb, nk, XR_q hx hM hC⟩ (SM_q hM) (hC 13 (by decide))
theorem ST_a (h : ST A C P vl kp R t) {n : Nat} (e0 : A' 0 = A 0) (e1 : A' 1 = A 1) (e4 : A' 99 4 = A 99 4) (ht : TT A' C' n) (hC : fr [13] C C') : ST A' C' P vl kp R (t + 1) := by
  obtain ⟨⟨d, F, ns, nv, nb, nk, hx⟩, -, h3, h4, h5, h6⟩ := ST_1 h
  refine ⟨⟨d, F, ns, nv, nb, nk, ?_⟩, ⟨n, ht⟩, h3, IM_c e1 e4 h4, h5, h6⟩
  rw [e0]
  exact XR_K hx (hC 0 (by decide)) (hC 1 (by decide)) (hC 2 (by decide)) (hC 3 (by decide)) (hC 4 (by decide)) (hC 5 (by decide)) (hC 90 (by decide))
end STS
/-- a pair of calls: both come to an end with the same answer, and the state holds behind them -/
def PCV (fz : Value) (sc : Nat × (Nat → Int32)) (kc km : Nat) (Ec Em : aL) (A C : mS) (P : Nat → Option Nat) (vl kp : Option Nat) (R : List aC) (t : Nat) (r : Value) : Prop := ∃ A' : mS, (∀ Mo, v_V fz sc 999 kc 0 Ec [] (hX C P vl kp Mo R) (fun rv h' => rv = some r ∧ ∃ (C' : mS) (P' : Nat → Option Nat) (vl' kp' : Option Nat) (R' : List aC), h' = hX C' P' vl' kp' Mo R' ∧ ST A' C' P' vl' kp' R' (t + 1))) ∧ (∀ (c : Nat → aC) (R2 : List aC), v_V fz sc 999 km 0 Em [] (hM c A R2) (fun rv h' => rv = some r ∧ h' = hM c A' R2))
def PCT (fz : Value) (sc : Nat × (Nat → Int32)) (kc km : Nat) (Ec Em : aL) (A C : mS) (P : Nat → Option Nat) (vl kp : Option Nat) (R : List aC) (t : Nat) : Prop := ∃ r : Int32, PCV fz sc kc km Ec Em A C P vl kp R t (.int r)
theorem pcv_0 {fz : Value} {sc : Nat × (Nat → Int32)} {kc km : Nat} {Ec Em : aL} {A A' C C' : mS} {P : Nat → Option Nat} {vl kp : Option Nat} {R : List aC} {t : Nat} {r : Value} (hk : ∀ Mo, v_V fz sc 999 kc 0 Ec [] (hX C P vl kp Mo R) (fun rv h' => rv = some r ∧ h' = hX C' P vl kp Mo R)) (hg : ∀ (c : Nat → aC) (R2 : List aC), v_V fz sc 999 km 0 Em [] (hM c A R2) (fun rv h' => rv = some r ∧ h' = hM c A' R2)) (hs : ST A' C' P vl kp R (t + 1)) : PCV fz sc kc km Ec Em A C P vl kp R t r :=
  ⟨A', fun Mo => v_post (hk Mo) (fun rv h' hq => ⟨hq.1, C', P, vl, kp, R, hq.2, hs⟩), hg⟩
