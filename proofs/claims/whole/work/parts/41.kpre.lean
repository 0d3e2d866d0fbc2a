/-! 41.kpre: rules for the theorems on the class's mirrored functions -/
theorem m_op_ok {β : Type} {o : Option Nat} {f : Option β} {g : Nat → Option β} {q : β} (hf : m_op o f g = some q) : (o = none ∧ f = some q) ∨ ∃ a, o = some a ∧ g a = some q := by
  cases o with
  | none => exact .inl ⟨rfl, hf⟩
  | some a => exact .inr ⟨a, rfl, hf⟩
theorem m_ob_ok {β : Type} {o : Option (Nat × Int32 × Int32 × Int32)} {f : Nat → Int32 → Int32 → Int32 → Option β} {q : β} (hf : m_ob o f = some q) : ∃ a b c d, o = some (a, b, c, d) ∧ f a b c d = some q := by
  cases o with
  | none => cases hf
  | some z => exact ⟨z.1, z.2.1, z.2.2.1, z.2.2.2, rfl, hf⟩
theorem m_vo_ok {β : Type} {o : Option (Nat × Nat × Nat × Int32 × Int32)} {f : Nat → Nat → Nat → Int32 → Int32 → Option β} {q : β} (hf : m_vo o f = some q) : ∃ a b c d e, o = some (a, b, c, d, e) ∧ f a b c d e = some q := by
  cases o with
  | none => cases hf
  | some z => exact ⟨z.1, z.2.1, z.2.2.1, z.2.2.2.1, z.2.2.2.2, rfl, hf⟩
theorem m_ia_ok {β : Type} {o : Option (Nat × (Nat → Int32))} {f : Nat → (Nat → Int32) → Option β} {q : β} (hf : m_ia o f = some q) : ∃ a b, o = some (a, b) ∧ f a b = some q := by
  cases o with
  | none => cases hf
  | some z => exact ⟨z.1, z.2, rfl, hf⟩
theorem hX_up {C : mS} {P : Nat → Option Nat} {vl kp : Option Nat} {Mo : Nat → aC} {R : List aC} {a : Nat} (ha : 33 ≤ a) : (hX C P vl kp Mo R)[a]? = R[a - 33]? := by
  obtain ⟨j, rfl⟩ : ∃ j, a = j + 33 := ⟨a - 33, by omega⟩
  rfl
theorem bdr_ok {C : mS} {P : Nat → Option Nat} {vl kp : Option Nat} {Mo : Nat → aC} {R : List aC} {a ci : Nat} {k n v : Int32} (h : bdr R a = some (ci, k, n, v)) : (hX C P vl kp Mo R)[a]? = some (.inr (ci, [.int k, .int n, .int v])) := by
  unfold bdr at h
  split at h
  · rename_i ha
    rw [hX_up ha]
    split at h
    · rename_i hr
      rw [hr]
      cases h
      rfl
    · cases h
  · cases h
theorem vly_ok {C : mS} {P : Nat → Option Nat} {vl kp : Option Nat} {Mo : Nat → aC} {R : List aC} {a x y z : Nat} {k n : Int32} (h : vly R a = some (x, y, z, k, n)) : (hX C P vl kp Mo R)[a]? = some (.inr (9, [.ref x, .ref y, .ref z, .int k, .int n])) := by
  unfold vly at h
  split at h
  · rename_i ha
    rw [hX_up ha]
    split at h
    · rename_i hr
      rw [hr]
      cases h
      rfl
    · cases h
  · cases h
theorem iar_ok {C : mS} {P : Nat → Option Nat} {vl kp : Option Nat} {Mo : Nat → aC} {R : List aC} {a n : Nat} {f : Nat → Int32} (h : iar R a = some (n, f)) : (hX C P vl kp Mo R)[a]? = some (.inl (0, n, .inl f)) := by
  unfold iar at h
  split at h
  · rename_i ha
    rw [hX_up ha]
    split at h
    · rename_i hr
      rw [hr]
      cases h
      rfl
    · cases h
  · cases h
section KP
variable {fz : Value} {sc : Nat × (Nat → Int32)} {d k i : Nat} {L : aL} {st : List Value} {h : List aC} {Q : Option Value → List aC → Prop}
theorem v_on {o : Option Nat} {r : List Value} (ho : o = none) (hv : v_V fz sc d k i L (.null :: r) h Q) : v_V fz sc d k i L (va_rf o :: r) h Q := by
  rw [ho]
  exact hv
theorem v_os {o : Option Nat} {a : Nat} {r : List Value} (ho : o = some a) (hv : v_V fz sc d k i L (.ref a :: r) h Q) : v_V fz sc d k i L (va_rf o :: r) h Q := by
  rw [ho]
  exact hv
section K2
variable {len pc ml : Nat} {cst : Int32} {y : MethodName} {bs : ByteArray} {rt : Option FieldType} {rows : List aI} {tl : aX} {a ci : Nat} {r : List Value}
theorem v_gf {x f : Nat} {cs : List Nat} {fs : List Value} {v : Value} (hP : a_P[k]? = some (y, bs, ml, rt, rows)) (hrow : rows[i]? = some (pc, .getfield x, len, cst, [f, 0] :: cs :: tl)) (hst : st = .ref a :: r) (hc : h[a]? = some (.inr (ci, fs))) (hfs : fs[f]? = some v) (hcs : cs.contains ci = true) (hv : v_V fz sc d k (i + 1) L (v :: r) h Q) : v_V fz sc d k i L st h Q := by
  refine v_blk 1 (fun n => ?_) hv
  subst hst
  simp only [a_go, hP, hrow, a_fin, a_cal, a_s1, a_s2, a_s3, hc, hfs]
  rw [hcs]
  rfl
theorem v_al {n : Nat} {f : Nat → Int32} (hP : a_P[k]? = some (y, bs, ml, rt, rows)) (hrow : rows[i]? = some (pc, .arraylength, len, cst, tl)) (hst : st = .ref a :: r) (hc : h[a]? = some (.inl (0, n, .inl f))) (hv : v_V fz sc d k (i + 1) L (.int (Int32.ofNat n) :: r) h Q) : v_V fz sc d k i L st h Q := by
  refine v_blk 1 (fun n => ?_) hv
  subst hst
  simp only [a_go, hP, hrow, a_fin, a_cal, a_s1, a_s2, a_s3, hc]
  rfl
theorem v_il {n : Nat} {f : Nat → Int32} {j : Int32} (hP : a_P[k]? = some (y, bs, ml, rt, rows)) (hrow : rows[i]? = some (pc, .iaload, len, cst, tl)) (hst : st = .int j :: .ref a :: r) (hc : h[a]? = some (.inl (0, n, .inl f))) (hg : a_in j n = true) (hv : v_V fz sc d k (i + 1) L (.int (f j.toNatClampNeg) :: r) h Q) : v_V fz sc d k i L st h Q := by
  refine v_blk 1 (fun n => ?_) hv
  subst hst
  simp only [a_go, hP, hrow, a_fin, a_cal, a_s1, a_s2, a_s3, hc]
  rw [hg]
  rfl
theorem v_io {x : Nat} {ys ns : List Nat} {fs : List Value} (hP : a_P[k]? = some (y, bs, ml, rt, rows)) (hrow : rows[i]? = some (pc, .instanceof x, len, cst, ys :: ns :: tl)) (hst : st = .ref a :: r) (hc : h[a]? = some (.inr (ci, fs))) (hg : (ys.contains ci || ns.contains ci) = true) (hv : v_V fz sc d k (i + 1) L (.int (bif ys.contains ci then 1 else 0) :: r) h Q) : v_V fz sc d k i L st h Q := by
  refine v_blk 1 (fun n => ?_) hv
  subst hst
  simp only [a_go, hP, hrow, a_fin, a_cal, a_s1, a_s2, a_s3, hc]
  rw [hg]
  rfl
theorem v_vc {x n kk ml2 : Nat} {vt : aX} {fs : List Value} {y2 : MethodName} {bs2 : ByteArray} {rt2 : Option FieldType} {rows2 : List aI} {E : aL} {rest : List Value} (hP : a_P[k]? = some (y, bs, ml, rt, rows)) (hrow : rows[i]? = some (pc, .invokevirtual x, len, cst, [0, n] :: vt)) (hst : st.drop n = .ref a :: rest) (hc : h[a]? = some (.inr (ci, fs))) (hvt : a_vt ci vt = some kk) (hP2 : a_P[kk]? = some (y2, bs2, ml2, rt2, rows2)) (hck : (decide ((rest.map fun v => v.category).sum ≤ 8) && decide ((Value.ref a :: (st.take n).reverse).length ≤ ml2) && (Value.ref a :: (st.take n).reverse).all (fun v => v.category == 1)) = true) (hE : a_ent ml2 (Value.ref a :: (st.take n).reverse) = E)
    (hv : v_V fz sc d kk 0 E [] h (fun rv h' => v_V fz sc (d + 1) k (i + 1) L (rv.toList ++ rest) h' Q)) : v_V fz sc (d + 1) k i L st h Q := by
  have hc2 : a_cal a_tx.length (.invokevirtual x) ([0, n] :: vt) st h = some (kk, .ref a :: (st.take n).reverse, rest) := by
    simp only [a_cal, hst, hc, hvt]
  refine v_call 1 (k' := kk) (i' := i + 1) (E := E) (L' := L) (rest := rest) (h1 := h) (fun q => ?_) hv
  simp only [a_go, hP, hrow, a_fin, hc2, hP2]
  rw [hck, hE]
  rfl
theorem v_s2 {x n kk ml2 : Nat} {vt : aX} {fs : List Value} {y2 : MethodName} {bs2 : ByteArray} {rt2 : Option FieldType} {rows2 : List aI} {E : aL} {rest : List Value} (hP : a_P[k]? = some (y, bs, ml, rt, rows)) (hrow : rows[i]? = some (pc, .invokespecial x, len, cst, [2, kk, n] :: vt)) (hst : st.drop n = .ref a :: rest) (hc : h[a]? = some (.inr (ci, fs))) (hP2 : a_P[kk]? = some (y2, bs2, ml2, rt2, rows2)) (hck : (decide ((rest.map fun v => v.category).sum ≤ 8) && decide ((Value.ref a :: (st.take n).reverse).length ≤ ml2) && (Value.ref a :: (st.take n).reverse).all (fun v => v.category == 1)) = true) (hE : a_ent ml2 (Value.ref a :: (st.take n).reverse) = E)
    (hv : v_V fz sc d kk 0 E [] h (fun rv h' => v_V fz sc (d + 1) k (i + 1) L (rv.toList ++ rest) h' Q)) : v_V fz sc (d + 1) k i L st h Q := by
  have hc2 : a_cal a_tx.length (.invokespecial x) ([2, kk, n] :: vt) st h = some (kk, .ref a :: (st.take n).reverse, rest) := by
    simp only [a_cal, hst, hc]
  refine v_call 1 (k' := kk) (i' := i + 1) (E := E) (L' := L) (rest := rest) (h1 := h) (fun q => ?_) hv
  simp only [a_go, hP, hrow, a_fin, hc2, hP2]
  rw [hck, hE]
  rfl
theorem v_s7 {x n kk ml2 : Nat} {vt : aX} {fs : List Value} {y2 : MethodName} {bs2 : ByteArray} {rt2 : Option FieldType} {rows2 : List aI} {E : aL} {rest : List Value} (hP : a_P[k]? = some (y, bs, ml, rt, rows)) (hrow : rows[i]? = some (pc, .invokespecial x, len, cst, [7, kk, n] :: vt)) (hst : st.drop n = .ref a :: rest) (hc : h[a]? = some (.inr (ci, fs))) (hP2 : a_P[kk]? = some (y2, bs2, ml2, rt2, rows2)) (hck : (decide ((rest.map fun v => v.category).sum ≤ 8) && decide ((Value.ref a :: (st.take n).reverse).length ≤ ml2) && (Value.ref a :: (st.take n).reverse).all (fun v => v.category == 1)) = true) (hE : a_ent ml2 (Value.ref a :: (st.take n).reverse) = E)
    (hv : v_V fz sc d kk 0 E [] h (fun rv h' => v_V fz sc (d + 1) k (i + 1) L (rv.toList ++ rest) h' Q)) : v_V fz sc (d + 1) k i L st h Q := by
  have hc2 : a_cal a_tx.length (.invokespecial x) ([7, kk, n] :: vt) st h = some (kk, .ref a :: (st.take n).reverse, rest) := by
    simp only [a_cal, hst, hc]
  refine v_call 1 (k' := kk) (i' := i + 1) (E := E) (L' := L) (rest := rest) (h1 := h) (fun q => ?_) hv
  simp only [a_go, hP, hrow, a_fin, hc2, hP2]
  rw [hck, hE]
  rfl
end K2
end KP
