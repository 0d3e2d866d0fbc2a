/-! 88.vm: valley in the machine: head, the valley's constructor, made, valley -/
theorem l_a0 {α : Type} (H Z : List α) (x : α) : (H ++ (x :: Z))[H.length]? = some x := by simp
theorem l_s0 {α : Type} (H Z : List α) (x y : α) : (H ++ (x :: Z)).set H.length y = H ++ (y :: Z) := by simp
section VM
variable {fz : Value} {sc : Nat × (Nat → Int32)} {P : Nat → Option Nat} {vl kp : Option Nat} {Mo : Nat → aC} {R H Z : List aC} {C : mS} {d : Nat}
set_option maxRecDepth 100000 in
theorem hd_42 {h : List aC} {a n0 m : Nat} {f : Nat → Int32} {x : Int32} (hx : x = Int32.ofNat m) (ha : h[a]? = some (.inl (0, n0, .inl f))) (hm : m ≤ n0) (hm2 : m ≤ 1000) : v_V fz sc d 42 0 [some (.ref a), some (.int x), none] [] h (fun rv h' => rv = some (.ref h.length) ∧ h' = h ++ [.inl (0, m, .inl (va_cpy f (fun _ => 0) 0 0 m))]) := by
  have hx0 : ¬ x < 0 := by rw [hx]; exact o_neg (by omega)
  have hxc : x.toNatClampNeg = m := by rw [hx]; exact o_cl (by omega)
  have hal : a < h.length := by
    rcases Nat.lt_or_ge a h.length with q | q
    · exact q
    · rw [List.getElem?_eq_none q] at ha; cases ha
  refine v_blk 1 (i' := 1) (L' := [some (.ref a), some (.int x), none]) (st' := [.int x]) (h' := h) (fun _ => rfl) ?_
  refine v_na (m := x) (r := []) (n := h.length) (h' := h ++ [.inl (0, m, .inl (fun _ => 0))]) rfl rfl rfl (by rw [hxc, decide_eq_true hx0, decide_eq_true hm2]; rfl) rfl (by rw [hxc]) ?_
  refine v_blk 6 (i' := 8) (L' := [some (.ref a), some (.int x), some (.ref h.length)]) (st' := [.int x, .int 0, .ref h.length, .int 0, .ref a]) (h' := h ++ [.inl (0, m, .inl (fun _ => 0))]) (fun _ => rfl) ?_
  refine v_cy (b := a) (a := h.length) (m := x) (n0 := n0) (n1 := m) (f := f) (g := fun _ => 0) (r := []) (h' := h ++ [.inl (0, m, .inl (va_cpy f (fun _ => 0) 0 0 m))]) rfl rfl rfl (by rw [List.getElem?_append_left hal]; exact ha) (l_at _ _) (by rw [hxc, decide_eq_true hx0, decide_eq_true hm, decide_eq_true (Nat.le_refl m)]; rfl) (by rw [l_st, hxc]) ?_
  exact v_ret 2 (fun _ => rfl) ⟨rfl, rfl⟩
set_option maxRecDepth 100000 in
theorem vi_64 {c e m : Nat} {ru gi : Int32} : v_V fz sc d 64 0 [some (.ref H.length), some (.ref c), some (.ref e), some (.ref m), some (.int ru), some (.int gi)] [] (H ++ (.inr (9, [.null, .null, .null, .int 0, .int 0]) :: Z)) (fun rv h' => rv = none ∧ h' = H ++ (.inr (9, [.ref c, .ref e, .ref m, .int ru, .int gi]) :: Z)) := by
  refine v_blk 4 (i' := 4) (L' := [some (.ref H.length), some (.ref c), some (.ref e), some (.ref m), some (.int ru), some (.int gi)]) (st' := [.ref c, .ref H.length]) (h' := H ++ (.inr (9, [.null, .null, .null, .int 0, .int 0]) :: Z)) (fun _ => rfl) ?_
  refine v_pf (ci := 9) (fs := [.null, .null, .null, .int 0, .int 0]) (fs' := [.ref c, .null, .null, .int 0, .int 0]) (r := []) rfl rfl rfl (l_a0 _ _ _) rfl rfl (l_s0 _ _ _ _) ?_
  refine v_blk 2 (i' := 7) (L' := [some (.ref H.length), some (.ref c), some (.ref e), some (.ref m), some (.int ru), some (.int gi)]) (st' := [.ref e, .ref H.length]) (h' := H ++ (.inr (9, [.ref c, .null, .null, .int 0, .int 0]) :: Z)) (fun _ => rfl) ?_
  refine v_pf (ci := 9) (fs := [.ref c, .null, .null, .int 0, .int 0]) (fs' := [.ref c, .ref e, .null, .int 0, .int 0]) (r := []) rfl rfl rfl (l_a0 _ _ _) rfl rfl (l_s0 _ _ _ _) ?_
  refine v_blk 2 (i' := 10) (L' := [some (.ref H.length), some (.ref c), some (.ref e), some (.ref m), some (.int ru), some (.int gi)]) (st' := [.ref m, .ref H.length]) (h' := H ++ (.inr (9, [.ref c, .ref e, .null, .int 0, .int 0]) :: Z)) (fun _ => rfl) ?_
  refine v_pf (ci := 9) (fs := [.ref c, .ref e, .null, .int 0, .int 0]) (fs' := [.ref c, .ref e, .ref m, .int 0, .int 0]) (r := []) rfl rfl rfl (l_a0 _ _ _) rfl rfl (l_s0 _ _ _ _) ?_
  refine v_blk 2 (i' := 13) (L' := [some (.ref H.length), some (.ref c), some (.ref e), some (.ref m), some (.int ru), some (.int gi)]) (st' := [.int ru, .ref H.length]) (h' := H ++ (.inr (9, [.ref c, .ref e, .ref m, .int 0, .int 0]) :: Z)) (fun _ => rfl) ?_
  refine v_pf (ci := 9) (fs := [.ref c, .ref e, .ref m, .int 0, .int 0]) (fs' := [.ref c, .ref e, .ref m, .int ru, .int 0]) (r := []) rfl rfl rfl (l_a0 _ _ _) rfl rfl (l_s0 _ _ _ _) ?_
  refine v_blk 2 (i' := 16) (L' := [some (.ref H.length), some (.ref c), some (.ref e), some (.ref m), some (.int ru), some (.int gi)]) (st' := [.int gi, .ref H.length]) (h' := H ++ (.inr (9, [.ref c, .ref e, .ref m, .int ru, .int 0]) :: Z)) (fun _ => rfl) ?_
  refine v_pf (ci := 9) (fs := [.ref c, .ref e, .ref m, .int ru, .int 0]) (fs' := [.ref c, .ref e, .ref m, .int ru, .int gi]) (r := []) rfl rfl rfl (l_a0 _ _ _) rfl rfl (l_s0 _ _ _ _) ?_
  exact v_ret 1 (fun _ => rfl) ⟨rfl, rfl⟩
/-- a valley's four cells behind R -/
def vb (C : mS) (R : List aC) (s v : Nat) : List aC := [.inr (9, [.ref (R.length + 34), .ref (R.length + 35), .ref (R.length + 36), .int (C 91 5), .int (C 91 6)]), .inl (0, s, .inl (va_cpy (C 6) (fun _ => 0) 0 0 s)), .inl (0, v, .inl (va_cpy (C 7) (fun _ => 0) 0 0 v)), .inl (0, v, .inl (va_cpy (C 8) (fun _ => 0) 0 0 v))]
theorem hX_app (X : List aC) : hX C P vl kp Mo R ++ X = hX C P vl kp Mo (R ++ X) := rfl
theorem l_a1 {α : Type} (R : List α) (x y : α) : (R ++ [x]) ++ [y] = R ++ [x, y] := by simp
theorem l_a2 {α : Type} (R : List α) (x y z : α) : (R ++ [x, y]) ++ [z] = R ++ [x, y, z] := by simp
theorem l_a3 {α : Type} (R : List α) (x y z w : α) : (R ++ [x, y, z]) ++ [w] = R ++ [x, y, z, w] := by simp
set_option maxRecDepth 100000 in
theorem md_41 (hd : 1 ≤ d) {s v : Nat} (hs : C 91 3 = Int32.ofNat s) (hv : C 91 4 = Int32.ofNat v) (hs2 : s ≤ 120) (hv2 : v ≤ 10) : v_V fz sc d 41 0 [some (.ref 9)] [] (hX C P vl kp Mo R) (fun rv h' => rv = some (.ref (R.length + 33)) ∧ h' = hX C P vl kp Mo (R ++ vb C R s v)) := by
  obtain ⟨d, rfl⟩ : ∃ z, d = z + 1 := ⟨d - 1, by omega⟩
  refine v_nw (c := 9) (n := R.length + 33) (fs := [.null, .null, .null, .int 0, .int 0]) (h' := hX C P vl kp Mo (R ++ [.inr (9, [.null, .null, .null, .int 0, .int 0])])) rfl rfl rfl rfl rfl ?_
  refine v_call 6 (k' := 42) (i' := 7) (E := [some (.ref 10), some (.int (C 91 3)), none]) (L' := [some (.ref 9)]) (rest := [.ref (R.length + 33), .ref (R.length + 33)]) (h1 := hX C P vl kp Mo (R ++ [.inr (9, [.null, .null, .null, .int 0, .int 0])])) (fun _ => rfl) ?_
  refine v_post (hd_42 (a := 10) (n0 := 120) (f := C 6) hs rfl hs2 (by omega)) ?_
  rintro rv h' ⟨rfl, rfl⟩
  rw [hX_app, l_a1, show (hX C P vl kp Mo (R ++ [.inr (9, [.null, .null, .null, .int 0, .int 0])])).length = R.length + 34 by show (R ++ [_]).length + 33 = _; simp]
  refine v_call 5 (k' := 42) (i' := 12) (E := [some (.ref 11), some (.int (C 91 4)), none]) (L' := [some (.ref 9)]) (rest := [.ref (R.length + 34), .ref (R.length + 33), .ref (R.length + 33)]) (h1 := hX C P vl kp Mo (R ++ [.inr (9, [.null, .null, .null, .int 0, .int 0]), .inl (0, s, .inl (va_cpy (C 6) (fun _ => 0) 0 0 s))])) (fun _ => rfl) ?_
  refine v_post (hd_42 (a := 11) (n0 := 10) (f := C 7) hv rfl hv2 (by omega)) ?_
  rintro rv h' ⟨rfl, rfl⟩
  rw [hX_app, l_a2, show (hX C P vl kp Mo (R ++ [.inr (9, [.null, .null, .null, .int 0, .int 0]), .inl (0, s, .inl (va_cpy (C 6) (fun _ => 0) 0 0 s))])).length = R.length + 35 by show (R ++ [_, _]).length + 33 = _; simp]
  refine v_call 5 (k' := 42) (i' := 17) (E := [some (.ref 12), some (.int (C 91 4)), none]) (L' := [some (.ref 9)]) (rest := [.ref (R.length + 35), .ref (R.length + 34), .ref (R.length + 33), .ref (R.length + 33)]) (h1 := hX C P vl kp Mo (R ++ [.inr (9, [.null, .null, .null, .int 0, .int 0]), .inl (0, s, .inl (va_cpy (C 6) (fun _ => 0) 0 0 s)), .inl (0, v, .inl (va_cpy (C 7) (fun _ => 0) 0 0 v))])) (fun _ => rfl) ?_
  refine v_post (hd_42 (a := 12) (n0 := 10) (f := C 8) hv rfl hv2 (by omega)) ?_
  rintro rv h' ⟨rfl, rfl⟩
  rw [hX_app, l_a3, show (hX C P vl kp Mo (R ++ [.inr (9, [.null, .null, .null, .int 0, .int 0]), .inl (0, s, .inl (va_cpy (C 6) (fun _ => 0) 0 0 s)), .inl (0, v, .inl (va_cpy (C 7) (fun _ => 0) 0 0 v))])).length = R.length + 36 by show (R ++ [_, _, _]).length + 33 = _; simp]
  refine v_blk 4 (i' := 21) (L' := [some (.ref 9)]) (st' := [.int (C 91 6), .int (C 91 5), .ref (R.length + 36), .ref (R.length + 35), .ref (R.length + 34), .ref (R.length + 33), .ref (R.length + 33)]) (h' := hX C P vl kp Mo (R ++ [.inr (9, [.null, .null, .null, .int 0, .int 0]), .inl (0, s, .inl (va_cpy (C 6) (fun _ => 0) 0 0 s)), .inl (0, v, .inl (va_cpy (C 7) (fun _ => 0) 0 0 v)), .inl (0, v, .inl (va_cpy (C 8) (fun _ => 0) 0 0 v))])) (fun _ => rfl) ?_
  refine v_s0 (a := R.length + 33) (rest := [.ref (R.length + 33)]) (E := [some (.ref (R.length + 33)), some (.ref (R.length + 34)), some (.ref (R.length + 35)), some (.ref (R.length + 36)), some (.int (C 91 5)), some (.int (C 91 6))]) rfl rfl rfl rfl rfl rfl ?_
  refine v_post (vi_64 (H := hX C P vl kp Mo R) (Z := [.inl (0, s, .inl (va_cpy (C 6) (fun _ => 0) 0 0 s)), .inl (0, v, .inl (va_cpy (C 7) (fun _ => 0) 0 0 v)), .inl (0, v, .inl (va_cpy (C 8) (fun _ => 0) 0 0 v))])) ?_
  rintro rv h' ⟨rfl, rfl⟩
  exact v_ret 1 (fun _ => rfl) ⟨rfl, rfl⟩
/-- behind valley -/
def C77 (C : mS) : mS := va_up C 90 (upd (C 90) 1 0)
def D77 (C : mS) : mS := va_up C 90 (upd (upd (C 90) 1 0) 2 (C 90 2 + 1))
set_option maxRecDepth 100000 in
set_option maxHeartbeats 4000000 in
theorem kt_77 (hfz : fz = .null ∨ fz = .retAddr 60) (hd : 32 ≤ d) {N nv : Nat} (hn : C 90 2 = Int32.ofNat nv) (hnv : nv ≤ 5) :
    (nv = 5 → v_V fz sc d 77 0 [some (.ref 0), none] [] (hX C P vl kp Mo R) (fun rv h' => rv = some (.int (-4)) ∧ h' = hX C P vl kp Mo R)) ∧
    (∀ (j : Nat) (C' : mS), nv < 5 → j ≤ 1000 → k_40 N P vl R (C 90 1) C = some (Int32.ofNat j, C') → v_V fz sc d 77 0 [some (.ref 0), none] [] (hX C P vl kp Mo R) (fun rv h' => rv = some (.int (-10 - Int32.ofNat j)) ∧ h' = hX (C77 C') P vl kp Mo R)) ∧
    (∀ (C' : mS) (s v : Nat), nv < 5 → k_40 N P vl R (C 90 1) C = some (-1, C') → C' 90 2 = Int32.ofNat nv → C' 91 3 = Int32.ofNat s → C' 91 4 = Int32.ofNat v → s ≤ 120 → v ≤ 10 → v_V fz sc d 77 0 [some (.ref 0), none] [] (hX C P vl kp Mo R) (fun rv h' => rv = some (.int (Int32.ofNat nv)) ∧ h' = hX (D77 C') P (some (R.length + 33)) kp Mo (R ++ vb C' R s v))) := by
  obtain ⟨d, rfl⟩ : ∃ z, d = z + 1 := ⟨d - 1, by omega⟩
  have h5 : (C 90 2 < 5) ↔ nv < 5 := by rw [hn, show (5 : Int32) = Int32.ofNat 5 from rfl, o_lt (by omega) (by omega)]
  refine ⟨fun c => ?_, fun j C' c hj hk => ?_, fun C' s v c hk h2 h3 h4 hs hv => ?_⟩
  · refine v_blk 5 (i' := (bif (a_ic .lt (C 90 2) (5 : Int32)) then 7 else 5)) (L' := [some (.ref 0), none]) (st' := []) (h' := hX C P vl kp Mo R) (fun _ => rfl) ?_
    refine v_ie (decide_eq_false (fun q => by have := h5.mp q; omega)) ?_
    exact v_ret 2 (fun _ => rfl) ⟨rfl, rfl⟩
  · refine v_blk 5 (i' := (bif (a_ic .lt (C 90 2) (5 : Int32)) then 7 else 5)) (L' := [some (.ref 0), none]) (st' := []) (h' := hX C P vl kp Mo R) (fun _ => rfl) ?_
    refine v_it (decide_eq_true (h5.mpr c)) ?_
    refine v_call 6 (k' := 40) (i' := 13) (E := [some (.ref 9), some (.int (C 90 1)), none]) (L' := [some (.ref 0), none]) (rest := []) (h1 := hX C P vl kp Mo R) (fun _ => rfl) ?_
    refine v_post (kt_40 hfz N P vl kp Mo R d (by omega) _ C _ _ hk) ?_
    rintro rv h' ⟨rfl, rfl⟩
    refine v_blk 7 (i' := (bif (a_ic .lt (Int32.ofNat j) (0 : Int32)) then 24 else 20)) (L' := [some (.ref 0), some (.int (Int32.ofNat j))]) (st' := []) (h' := hX (C77 C') P vl kp Mo R) (fun _ => rfl) ?_
    refine v_ie (decide_eq_false (o_neg (by omega))) ?_
    exact v_ret 4 (fun _ => rfl) ⟨rfl, rfl⟩
  · refine v_blk 5 (i' := (bif (a_ic .lt (C 90 2) (5 : Int32)) then 7 else 5)) (L' := [some (.ref 0), none]) (st' := []) (h' := hX C P vl kp Mo R) (fun _ => rfl) ?_
    refine v_it (decide_eq_true (h5.mpr c)) ?_
    refine v_call 6 (k' := 40) (i' := 13) (E := [some (.ref 9), some (.int (C 90 1)), none]) (L' := [some (.ref 0), none]) (rest := []) (h1 := hX C P vl kp Mo R) (fun _ => rfl) ?_
    refine v_post (kt_40 hfz N P vl kp Mo R d (by omega) _ C _ _ hk) ?_
    rintro rv h' ⟨rfl, rfl⟩
    refine v_blk 7 (i' := (bif (a_ic .lt (-1 : Int32) (0 : Int32)) then 24 else 20)) (L' := [some (.ref 0), some (.int (-1))]) (st' := []) (h' := hX (C77 C') P vl kp Mo R) (fun _ => rfl) ?_
    refine v_it (by decide) ?_
    refine v_call 5 (k' := 41) (i' := 29) (E := [some (.ref 9)]) (L' := [some (.ref 0), some (.int (-1))]) (rest := [.ref 1]) (h1 := hX (C77 C') P vl kp Mo R) (fun _ => rfl) ?_
    refine v_post (md_41 (s := s) (v := v) (by omega) ?_ ?_ hs hv) ?_
    · unfold C77; rw [va_up_ne _ _ (by decide)]; exact h3
    · unfold C77; rw [va_up_ne _ _ (by decide)]; exact h4
    rintro rv h' ⟨rfl, rfl⟩
    refine v_blk 8 (i' := 37) (L' := [some (.ref 0), some (.int (-1))]) (st' := []) (h' := hX (D77 C') P (some (R.length + 33)) kp Mo (R ++ vb C' R s v)) (fun _ => rfl) ?_
    refine v_ret 6 (fun _ => rfl) ⟨?_, rfl⟩
    show some (Value.int (D77 C' 90 2 - 1)) = _
    unfold D77
    rw [va_up_self, upd_self, h2, show Int32.ofNat nv + 1 - 1 = Int32.ofNat nv from Int32.add_sub_cancel ..]
end VM
