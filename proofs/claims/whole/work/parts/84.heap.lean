/-! 84.heap: rules for what is made; the people's constructors; person -/
section HR
variable {fz : Value} {sc : Nat × (Nat → Int32)} {d k i : Nat} {L : aL} {st : List Value} {h : List aC} {Q : Option Value → List aC → Prop}
variable {len pc ml : Nat} {cst : Int32} {y : MethodName} {bs : ByteArray} {rt : Option FieldType} {rows : List aI} {tl : aX} {a ci : Nat} {r : List Value}
theorem v_pf {x f tc : Nat} {cs : List Nat} {fs fs' : List Value} {v : Value} {h' : List aC} (hP : a_P[k]? = some (y, bs, ml, rt, rows)) (hrow : rows[i]? = some (pc, .putfield x, len, cst, [f, tc] :: cs :: tl)) (hst : st = v :: .ref a :: r) (hc : h[a]? = some (.inr (ci, fs))) (hg : (cs.contains ci && decide (f < fs.length) && a_fk tc v) = true) (hfs : fs.set f v = fs') (hh : h.set a (.inr (ci, fs')) = h') (hv : v_V fz sc d k (i + 1) L r h' Q) : v_V fz sc d k i L st h Q := by
  refine v_blk 1 (fun n => ?_) hv
  subst hst
  subst hfs
  subst hh
  simp only [a_go, hP, hrow, a_fin, a_cal, a_s1, a_s2, a_s3, hc]
  rw [hg]
  rfl
theorem v_nw {x c n : Nat} {fs : List Value} {h' : List aC} (hP : a_P[k]? = some (y, bs, ml, rt, rows)) (hrow : rows[i]? = some (pc, .new x, len, cst, [c] :: tl)) (hd : a_df[c]? = some fs) (hn : h.length = n) (hh : h ++ [.inr (c, fs)] = h') (hv : v_V fz sc d k (i + 1) L (.ref n :: st) h' Q) : v_V fz sc d k i L st h Q := by
  refine v_blk 1 (fun n => ?_) hv
  subst hn
  subst hh
  simp only [a_go, hP, hrow, a_fin, a_cal, a_s1, a_s2, a_s3, hd]
  rfl
theorem v_na {m : Int32} {n : Nat} {h' : List aC} (hP : a_P[k]? = some (y, bs, ml, rt, rows)) (hrow : rows[i]? = some (pc, .newarray .int, len, cst, tl)) (hst : st = .int m :: r) (hg : (decide (¬ m < 0) && decide (m.toNatClampNeg ≤ 1000)) = true) (hn : h.length = n) (hh : h ++ [.inl (0, m.toNatClampNeg, .inl (fun _ => 0))] = h') (hv : v_V fz sc d k (i + 1) L (.ref n :: r) h' Q) : v_V fz sc d k i L st h Q := by
  refine v_blk 1 (fun n => ?_) hv
  subst hst
  subst hn
  subst hh
  simp only [a_go, hP, hrow, a_fin, a_cal, a_s1, a_s2, a_s3]
  rw [hg]
  rfl
theorem v_nb {x n : Nat} {m : Int32} {h' : List aC} (hP : a_P[k]? = some (y, bs, ml, rt, rows)) (hrow : rows[i]? = some (pc, .anewarray x, len, cst, tl)) (hst : st = .int m :: r) (hg : (decide (¬ m < 0) && decide (m.toNatClampNeg ≤ 1000)) = true) (hn : h.length = n) (hh : h ++ [.inl (2, m.toNatClampNeg, .inr (.inr (.inr (.inr (fun _ => none)))))] = h') (hv : v_V fz sc d k (i + 1) L (.ref n :: r) h' Q) : v_V fz sc d k i L st h Q := by
  refine v_blk 1 (fun n => ?_) hv
  subst hst
  subst hn
  subst hh
  simp only [a_go, hP, hrow, a_fin, a_cal, a_s1, a_s2, a_s3]
  rw [hg]
  rfl
theorem v_is {n : Nat} {j w : Int32} {f : Nat → Int32} {h' : List aC} (hP : a_P[k]? = some (y, bs, ml, rt, rows)) (hrow : rows[i]? = some (pc, .iastore, len, cst, tl)) (hst : st = .int w :: .int j :: .ref a :: r) (hc : h[a]? = some (.inl (0, n, .inl f))) (hg : a_in j n = true) (hh : h.set a (.inl (0, n, .inl (upd f j.toNatClampNeg w))) = h') (hv : v_V fz sc d k (i + 1) L r h' Q) : v_V fz sc d k i L st h Q := by
  refine v_blk 1 (fun n => ?_) hv
  subst hst
  subst hh
  simp only [a_go, hP, hrow, a_fin, a_cal, a_s1, a_s2, a_s3, hc]
  rw [hg]
  rfl
theorem v_cy {x b n0 n1 : Nat} {m : Int32} {f g : Nat → Int32} {h' : List aC} (hP : a_P[k]? = some (y, bs, ml, rt, rows)) (hrow : rows[i]? = some (pc, .invokestatic x, len, cst, [3] :: tl)) (hst : st = .int m :: .int 0 :: .ref a :: .int 0 :: .ref b :: r) (hb : h[b]? = some (.inl (0, n0, .inl f))) (ha : h[a]? = some (.inl (0, n1, .inl g))) (hg : (decide ((r.map fun v => v.category).sum ≤ 8) && decide (¬ m < 0) && decide (m.toNatClampNeg ≤ n0) && decide (m.toNatClampNeg ≤ n1)) = true) (hh : h.set a (.inl (0, n1, .inl (va_cpy f g 0 0 m.toNatClampNeg))) = h') (hv : v_V fz sc d k (i + 1) L r h' Q) : v_V fz sc d k i L st h Q := by
  refine v_blk 1 (fun n => ?_) hv
  subst hst
  subst hh
  simp only [Bool.and_eq_true, decide_eq_true_eq] at hg
  have hg2 : (decide ((r.map fun v => v.category).sum ≤ 8) && decide (¬ (0 : Int32) < 0) && decide (¬ (0 : Int32) < 0) && decide (¬ m < 0) && decide ((0 : Int32).toNatClampNeg + m.toNatClampNeg ≤ n0) && decide ((0 : Int32).toNatClampNeg + m.toNatClampNeg ≤ n1)) = true := by
    simp only [Bool.and_eq_true, decide_eq_true_eq]
    have z : (0 : Int32).toNatClampNeg = 0 := rfl
    refine ⟨⟨⟨⟨⟨hg.1.1.1, by decide⟩, by decide⟩, hg.1.1.2⟩, ?_⟩, ?_⟩
    · rw [z]; have := hg.1.2; omega
    · rw [z]; have := hg.2; omega
  simp only [a_go, hP, hrow, a_fin, a_cal, a_s1, a_s2, a_s3, a_s4, hb, ha]
  rw [hg2]
  rfl
theorem v_aa {v n : Nat} {j : Int32} {cs : List Nat} {fs : List Value} {f : Nat → Option Nat} {h' : List aC} (hP : a_P[k]? = some (y, bs, ml, rt, rows)) (hrow : rows[i]? = some (pc, .aastore, len, cst, cs :: tl)) (hst : st = .ref v :: .int j :: .ref a :: r) (hc : h[a]? = some (.inl (2, n, .inr (.inr (.inr (.inr f)))))) (hw : h[v]? = some (.inr (ci, fs))) (hg : (a_in j n && cs.contains ci) = true) (hh : h.set a (.inl (2, n, .inr (.inr (.inr (.inr (va_up f j.toNatClampNeg (some v))))))) = h') (hv : v_V fz sc d k (i + 1) L r h' Q) : v_V fz sc d k i L st h Q := by
  refine v_blk 1 (fun n => ?_) hv
  subst hst
  subst hh
  simp only [a_go, hP, hrow, a_fin, a_cal, a_s1, a_s2, a_s3, hc, hw]
  rw [hg]
  rfl
theorem v_an {n : Nat} {j : Int32} {cs : List Nat} {f : Nat → Option Nat} {h' : List aC} (hP : a_P[k]? = some (y, bs, ml, rt, rows)) (hrow : rows[i]? = some (pc, .aastore, len, cst, cs :: tl)) (hst : st = .null :: .int j :: .ref a :: r) (hc : h[a]? = some (.inl (2, n, .inr (.inr (.inr (.inr f)))))) (hg : a_in j n = true) (hh : h.set a (.inl (2, n, .inr (.inr (.inr (.inr (va_up f j.toNatClampNeg none)))))) = h') (hv : v_V fz sc d k (i + 1) L r h' Q) : v_V fz sc d k i L st h Q := by
  refine v_blk 1 (fun n => ?_) hv
  subst hst
  subst hh
  simp only [a_go, hP, hrow, a_fin, a_cal, a_s1, a_s2, a_s3, hc]
  rw [hg]
  rfl
theorem v_ao {n : Nat} {j : Int32} {f : Nat → Option Nat} (hP : a_P[k]? = some (y, bs, ml, rt, rows)) (hrow : rows[i]? = some (pc, .aaload, len, cst, tl)) (hst : st = .int j :: .ref a :: r) (hc : h[a]? = some (.inl (2, n, .inr (.inr (.inr (.inr f)))))) (hg : a_in j n = true) (hv : v_V fz sc d k (i + 1) L (va_rf (f j.toNatClampNeg) :: r) h Q) : v_V fz sc d k i L st h Q := by
  refine v_blk 1 (fun n => ?_) hv
  subst hst
  simp only [a_go, hP, hrow, a_fin, a_cal, a_s1, a_s2, a_s3, hc]
  rw [hg]
  rfl
theorem v_s0 {x n kk ml2 : Nat} {vt : aX} {y2 : MethodName} {bs2 : ByteArray} {rt2 : Option FieldType} {rows2 : List aI} {E : aL} {rest : List Value} (hP : a_P[k]? = some (y, bs, ml, rt, rows)) (hrow : rows[i]? = some (pc, .invokespecial x, len, cst, [0, kk, n] :: vt)) (hst : st.drop n = .ref a :: rest) (hP2 : a_P[kk]? = some (y2, bs2, ml2, rt2, rows2)) (hck : (decide ((rest.map fun v => v.category).sum ≤ 8) && decide ((Value.ref a :: (st.take n).reverse).length ≤ ml2) && (Value.ref a :: (st.take n).reverse).all (fun v => v.category == 1)) = true) (hE : a_ent ml2 (Value.ref a :: (st.take n).reverse) = E)
    (hv : v_V fz sc d kk 0 E [] h (fun rv h' => v_V fz sc (d + 1) k (i + 1) L (rv.toList ++ rest) h' Q)) : v_V fz sc (d + 1) k i L st h Q := by
  have hc2 : a_cal a_tx.length (.invokespecial x) ([0, kk, n] :: vt) st h = some (kk, .ref a :: (st.take n).reverse, rest) := by
    simp only [a_cal, hst]
  refine v_call 1 (k' := kk) (i' := i + 1) (E := E) (L' := L) (rest := rest) (h1 := h) (fun q => ?_) hv
  simp only [a_go, hP, hrow, a_fin, hc2, hP2]
  rw [hck, hE]
  rfl
end HR
theorem l_at {α : Type} (H : List α) (x : α) : (H ++ [x])[H.length]? = some x := by simp
theorem l_st {α : Type} (H : List α) (x y : α) : (H ++ [x]).set H.length y = H ++ [y] := by simp
section HP
variable {fz : Value} {sc : Nat × (Nat → Int32)} {H : List aC} {ci : Nat}
/-- the constructors of people: of what was made last -/
def BI (k D : Nat) : Prop := ∀ (fz : Value) (sc : Nat × (Nat → Int32)) (H : List aC) (ci d : Nat) (k' n v : Int32), D ≤ d → List.contains [0, 1, 3, 4, 6, 7, 8] ci = true → v_V fz sc d k 0 [some (.ref H.length), some (.int k'), some (.int n), some (.int v)] [] (H ++ [.inr (ci, [.int 0, .int 0, .int 0])]) (fun rv h' => rv = none ∧ h' = H ++ [.inr (ci, [.int k', .int n, .int v])])
set_option maxRecDepth 100000 in
theorem bi_3 : BI 3 0 := by
  intro fz sc H ci d k' n v hd hc
  refine v_blk 4 (i' := 4) (L' := [some (.ref H.length), some (.int k'), some (.int n), some (.int v)]) (st' := [.int k', .ref H.length]) (h' := H ++ [.inr (ci, [.int 0, .int 0, .int 0])]) (fun _ => rfl) ?_
  refine v_pf (ci := ci) (fs := [.int 0, .int 0, .int 0]) (fs' := [.int k', .int 0, .int 0]) (r := []) rfl rfl rfl (l_at _ _) (by rw [hc]; rfl) rfl (l_st _ _ _) ?_
  refine v_blk 2 (i' := 7) (L' := [some (.ref H.length), some (.int k'), some (.int n), some (.int v)]) (st' := [.int n, .ref H.length]) (h' := H ++ [.inr (ci, [.int k', .int 0, .int 0])]) (fun _ => rfl) ?_
  refine v_pf (ci := ci) (fs := [.int k', .int 0, .int 0]) (fs' := [.int k', .int n, .int 0]) (r := []) rfl rfl rfl (l_at _ _) (by rw [hc]; rfl) rfl (l_st _ _ _) ?_
  refine v_blk 2 (i' := 10) (L' := [some (.ref H.length), some (.int k'), some (.int n), some (.int v)]) (st' := [.int v, .ref H.length]) (h' := H ++ [.inr (ci, [.int k', .int n, .int 0])]) (fun _ => rfl) ?_
  refine v_pf (ci := ci) (fs := [.int k', .int n, .int 0]) (fs' := [.int k', .int n, .int v]) (r := []) rfl rfl rfl (l_at _ _) (by rw [hc]; rfl) rfl (l_st _ _ _) ?_
  exact v_ret 1 (fun _ => rfl) ⟨rfl, rfl⟩
set_option maxRecDepth 100000 in
theorem bi_0 : BI 0 1 := by
  intro fz sc H ci d k' n v hd hc
  obtain ⟨d, rfl⟩ : ∃ z, d = z + 1 := ⟨d - 1, by omega⟩
  refine v_blk 4 (i' := 4) (L' := [some (.ref H.length), some (.int k'), some (.int n), some (.int v)]) (st' := [.int v, .int n, .int k', .ref H.length]) (h' := H ++ [.inr (ci, [.int 0, .int 0, .int 0])]) (fun _ => rfl) ?_
  refine v_s0 (a := H.length) (rest := []) (E := [some (.ref H.length), some (.int k'), some (.int n), some (.int v)]) rfl rfl rfl rfl rfl rfl ?_
  refine v_post (bi_3 fz sc H ci d k' n v (by omega) hc) ?_
  rintro rv h' ⟨rfl, rfl⟩
  exact v_ret 1 (fun _ => rfl) ⟨rfl, rfl⟩
set_option maxRecDepth 100000 in
theorem bi_33 : BI 33 1 := by
  intro fz sc H ci d k' n v hd hc
  obtain ⟨d, rfl⟩ : ∃ z, d = z + 1 := ⟨d - 1, by omega⟩
  refine v_blk 4 (i' := 4) (L' := [some (.ref H.length), some (.int k'), some (.int n), some (.int v)]) (st' := [.int v, .int n, .int k', .ref H.length]) (h' := H ++ [.inr (ci, [.int 0, .int 0, .int 0])]) (fun _ => rfl) ?_
  refine v_s0 (a := H.length) (rest := []) (E := [some (.ref H.length), some (.int k'), some (.int n), some (.int v)]) rfl rfl rfl rfl rfl rfl ?_
  refine v_post (bi_3 fz sc H ci d k' n v (by omega) hc) ?_
  rintro rv h' ⟨rfl, rfl⟩
  exact v_ret 1 (fun _ => rfl) ⟨rfl, rfl⟩
set_option maxRecDepth 100000 in
theorem bi_36 : BI 36 1 := by
  intro fz sc H ci d k' n v hd hc
  obtain ⟨d, rfl⟩ : ∃ z, d = z + 1 := ⟨d - 1, by omega⟩
  refine v_blk 4 (i' := 4) (L' := [some (.ref H.length), some (.int k'), some (.int n), some (.int v)]) (st' := [.int v, .int n, .int k', .ref H.length]) (h' := H ++ [.inr (ci, [.int 0, .int 0, .int 0])]) (fun _ => rfl) ?_
  refine v_s0 (a := H.length) (rest := []) (E := [some (.ref H.length), some (.int k'), some (.int n), some (.int v)]) rfl rfl rfl rfl rfl rfl ?_
  refine v_post (bi_3 fz sc H ci d k' n v (by omega) hc) ?_
  rintro rv h' ⟨rfl, rfl⟩
  exact v_ret 1 (fun _ => rfl) ⟨rfl, rfl⟩
set_option maxRecDepth 100000 in
theorem bi_55 : BI 55 2 := by
  intro fz sc H ci d k' n v hd hc
  obtain ⟨d, rfl⟩ : ∃ z, d = z + 1 := ⟨d - 1, by omega⟩
  refine v_blk 4 (i' := 4) (L' := [some (.ref H.length), some (.int k'), some (.int n), some (.int v)]) (st' := [.int v, .int n, .int k', .ref H.length]) (h' := H ++ [.inr (ci, [.int 0, .int 0, .int 0])]) (fun _ => rfl) ?_
  refine v_s0 (a := H.length) (rest := []) (E := [some (.ref H.length), some (.int k'), some (.int n), some (.int v)]) rfl rfl rfl rfl rfl rfl ?_
  refine v_post (bi_36 fz sc H ci d k' n v (by omega) hc) ?_
  rintro rv h' ⟨rfl, rfl⟩
  exact v_ret 1 (fun _ => rfl) ⟨rfl, rfl⟩
set_option maxRecDepth 100000 in
theorem bi_58 : BI 58 2 := by
  intro fz sc H ci d k' n v hd hc
  obtain ⟨d, rfl⟩ : ∃ z, d = z + 1 := ⟨d - 1, by omega⟩
  refine v_blk 4 (i' := 4) (L' := [some (.ref H.length), some (.int k'), some (.int n), some (.int v)]) (st' := [.int v, .int n, .int k', .ref H.length]) (h' := H ++ [.inr (ci, [.int 0, .int 0, .int 0])]) (fun _ => rfl) ?_
  refine v_s0 (a := H.length) (rest := []) (E := [some (.ref H.length), some (.int k'), some (.int n), some (.int v)]) rfl rfl rfl rfl rfl rfl ?_
  refine v_post (bi_33 fz sc H ci d k' n v (by omega) hc) ?_
  rintro rv h' ⟨rfl, rfl⟩
  exact v_ret 1 (fun _ => rfl) ⟨rfl, rfl⟩
set_option maxRecDepth 100000 in
theorem bi_61 : BI 61 2 := by
  intro fz sc H ci d k' n v hd hc
  obtain ⟨d, rfl⟩ : ∃ z, d = z + 1 := ⟨d - 1, by omega⟩
  refine v_blk 4 (i' := 4) (L' := [some (.ref H.length), some (.int k'), some (.int n), some (.int v)]) (st' := [.int v, .int n, .int k', .ref H.length]) (h' := H ++ [.inr (ci, [.int 0, .int 0, .int 0])]) (fun _ => rfl) ?_
  refine v_s0 (a := H.length) (rest := []) (E := [some (.ref H.length), some (.int k'), some (.int n), some (.int v)]) rfl rfl rfl rfl rfl rfl ?_
  refine v_post (bi_33 fz sc H ci d k' n v (by omega) hc) ?_
  rintro rv h' ⟨rfl, rfl⟩
  exact v_ret 1 (fun _ => rfl) ⟨rfl, rfl⟩
set_option maxRecDepth 100000 in
/-- a way through ofKind: made at row j, class c, constructor kk -/
theorem of_1 {j c kk D d : Nat} {x n v : Int32} (hb : BI kk D) (hd : D + 1 ≤ d) (hcc : List.contains [0, 1, 3, 4, 6, 7, 8] c = true) (hdf : a_df[c]? = some [.int 0, .int 0, .int 0])
    (h1 : ∀ (Q : Option Value → List aC → Prop) (st : List Value) (h : List aC), v_V fz sc d 106 (j + 1) [some (.int x), some (.int n), some (.int v)] (.ref h.length :: st) (h ++ [.inr (c, [.int 0, .int 0, .int 0])]) Q → v_V fz sc d 106 j [some (.int x), some (.int n), some (.int v)] st h Q)
    (h2 : ∀ (Q : Option Value → List aC → Prop) (a : Nat) (h : List aC), v_V fz sc (d - 1) kk 0 [some (.ref a), some (.int x), some (.int n), some (.int v)] [] h (fun rv h' => v_V fz sc d 106 (j + 6) [some (.int x), some (.int n), some (.int v)] (rv.toList ++ [.ref a]) h' Q) → v_V fz sc d 106 (j + 1) [some (.int x), some (.int n), some (.int v)] [.ref a] h Q)
    (h3 : ∀ (Q : Option Value → List aC → Prop) (a : Nat) (h : List aC), Q (some (.ref a)) h → v_V fz sc d 106 (j + 6) [some (.int x), some (.int n), some (.int v)] [.ref a] h Q) :
    v_V fz sc d 106 j [some (.int x), some (.int n), some (.int v)] [] H (fun rv h' => rv = some (.ref H.length) ∧ h' = H ++ [.inr (c, [.int x, .int n, .int v])]) := by
  refine h1 _ _ _ (h2 _ _ _ (v_post (hb fz sc H c (d - 1) x n v (by omega) hcc) ?_))
  rintro rv h' ⟨rfl, rfl⟩
  exact h3 _ _ _ ⟨rfl, rfl⟩
set_option maxRecDepth 100000 in
theorem of_k {q d : Nat} (hq : q ≤ 6) (hd : 3 ≤ d) {n v : Int32} : v_V fz sc d 106 0 [some (.int (Int32.ofNat q)), some (.int n), some (.int v)] [] H (fun rv h' => rv = some (.ref H.length) ∧ h' = H ++ [.inr (k_cl q, [.int (Int32.ofNat q), .int n, .int v])]) := by
  obtain ⟨d, rfl⟩ : ∃ z, d = z + 1 := ⟨d - 1, by omega⟩
  rcases (show q = 0 ∨ q = 1 ∨ q = 2 ∨ q = 3 ∨ q = 4 ∨ q = 5 ∨ q = 6 by omega) with rfl | rfl | rfl | rfl | rfl | rfl | rfl
  · refine v_blk 2 (i' := 44) (L' := [some (.int (Int32.ofNat 0)), some (.int n), some (.int v)]) (st' := []) (h' := H) (fun _ => rfl) ?_
    exact of_1 (j := 44) (c := 1) (kk := 3) (D := 0) bi_3 (by omega) rfl rfl (fun Q st h hv => v_nw rfl rfl rfl rfl rfl hv) (fun Q a h hv => v_blk 4 (i' := 49) (L' := [some (.int (Int32.ofNat 0)), some (.int n), some (.int v)]) (st' := [.int v, .int n, .int (Int32.ofNat 0), .ref a, .ref a]) (h' := h) (fun _ => rfl) (v_s0 (a := a) (rest := [.ref a]) rfl rfl rfl rfl rfl rfl hv)) (fun Q a h hq => v_ret 1 (fun _ => rfl) hq)
  · refine v_blk 2 (i' := 2) (L' := [some (.int (Int32.ofNat 1)), some (.int n), some (.int v)]) (st' := []) (h' := H) (fun _ => rfl) ?_
    exact of_1 (j := 2) (c := 4) (kk := 36) (D := 1) bi_36 (by omega) rfl rfl (fun Q st h hv => v_nw rfl rfl rfl rfl rfl hv) (fun Q a h hv => v_blk 4 (i' := 7) (L' := [some (.int (Int32.ofNat 1)), some (.int n), some (.int v)]) (st' := [.int v, .int n, .int (Int32.ofNat 1), .ref a, .ref a]) (h' := h) (fun _ => rfl) (v_s0 (a := a) (rest := [.ref a]) rfl rfl rfl rfl rfl rfl hv)) (fun Q a h hq => v_ret 1 (fun _ => rfl) hq)
  · refine v_blk 2 (i' := 9) (L' := [some (.int (Int32.ofNat 2)), some (.int n), some (.int v)]) (st' := []) (h' := H) (fun _ => rfl) ?_
    exact of_1 (j := 9) (c := 3) (kk := 33) (D := 1) bi_33 (by omega) rfl rfl (fun Q st h hv => v_nw rfl rfl rfl rfl rfl hv) (fun Q a h hv => v_blk 4 (i' := 14) (L' := [some (.int (Int32.ofNat 2)), some (.int n), some (.int v)]) (st' := [.int v, .int n, .int (Int32.ofNat 2), .ref a, .ref a]) (h' := h) (fun _ => rfl) (v_s0 (a := a) (rest := [.ref a]) rfl rfl rfl rfl rfl rfl hv)) (fun Q a h hq => v_ret 1 (fun _ => rfl) hq)
  · refine v_blk 2 (i' := 16) (L' := [some (.int (Int32.ofNat 3)), some (.int n), some (.int v)]) (st' := []) (h' := H) (fun _ => rfl) ?_
    exact of_1 (j := 16) (c := 0) (kk := 0) (D := 1) bi_0 (by omega) rfl rfl (fun Q st h hv => v_nw rfl rfl rfl rfl rfl hv) (fun Q a h hv => v_blk 4 (i' := 21) (L' := [some (.int (Int32.ofNat 3)), some (.int n), some (.int v)]) (st' := [.int v, .int n, .int (Int32.ofNat 3), .ref a, .ref a]) (h' := h) (fun _ => rfl) (v_s0 (a := a) (rest := [.ref a]) rfl rfl rfl rfl rfl rfl hv)) (fun Q a h hq => v_ret 1 (fun _ => rfl) hq)
  · refine v_blk 2 (i' := 23) (L' := [some (.int (Int32.ofNat 4)), some (.int n), some (.int v)]) (st' := []) (h' := H) (fun _ => rfl) ?_
    exact of_1 (j := 23) (c := 6) (kk := 55) (D := 2) bi_55 (by omega) rfl rfl (fun Q st h hv => v_nw rfl rfl rfl rfl rfl hv) (fun Q a h hv => v_blk 4 (i' := 28) (L' := [some (.int (Int32.ofNat 4)), some (.int n), some (.int v)]) (st' := [.int v, .int n, .int (Int32.ofNat 4), .ref a, .ref a]) (h' := h) (fun _ => rfl) (v_s0 (a := a) (rest := [.ref a]) rfl rfl rfl rfl rfl rfl hv)) (fun Q a h hq => v_ret 1 (fun _ => rfl) hq)
  · refine v_blk 2 (i' := 30) (L' := [some (.int (Int32.ofNat 5)), some (.int n), some (.int v)]) (st' := []) (h' := H) (fun _ => rfl) ?_
    exact of_1 (j := 30) (c := 7) (kk := 58) (D := 2) bi_58 (by omega) rfl rfl (fun Q st h hv => v_nw rfl rfl rfl rfl rfl hv) (fun Q a h hv => v_blk 4 (i' := 35) (L' := [some (.int (Int32.ofNat 5)), some (.int n), some (.int v)]) (st' := [.int v, .int n, .int (Int32.ofNat 5), .ref a, .ref a]) (h' := h) (fun _ => rfl) (v_s0 (a := a) (rest := [.ref a]) rfl rfl rfl rfl rfl rfl hv)) (fun Q a h hq => v_ret 1 (fun _ => rfl) hq)
  · refine v_blk 2 (i' := 37) (L' := [some (.int (Int32.ofNat 6)), some (.int n), some (.int v)]) (st' := []) (h' := H) (fun _ => rfl) ?_
    exact of_1 (j := 37) (c := 8) (kk := 61) (D := 2) bi_61 (by omega) rfl rfl (fun Q st h hv => v_nw rfl rfl rfl rfl rfl hv) (fun Q a h hv => v_blk 4 (i' := 42) (L' := [some (.int (Int32.ofNat 6)), some (.int n), some (.int v)]) (st' := [.int v, .int n, .int (Int32.ofNat 6), .ref a, .ref a]) (h' := h) (fun _ => rfl) (v_s0 (a := a) (rest := [.ref a]) rfl rfl rfl rfl rfl rfl hv)) (fun Q a h hq => v_ret 1 (fun _ => rfl) hq)
end HP
