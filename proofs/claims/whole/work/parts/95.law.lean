/-! 95.law: the law's cases (printed by wip/whole/genlaw.py) -/
def LL (k : Nat) : aL := [some (.retAddr 50), some (.ref 0), some (.ref 22), some (.int (Int32.ofNat (4 * k)))]
/-- what stands at the j-th place behind 4 k -/
def sx (xs : Nat → Int32) (k : Nat) (j : Int32) : Int32 := xs (Int32.ofNat (4 * k) + j).toNatClampNeg
/-- a case is through: the loop goes on at 545 -/
def LK (fz : Value) (L : Nat) (xs : Nat → Int32) (k : Nat) (Q : Option Value → List aC → Prop) : Prop := ∀ (A C : mS) (P : Nat → Option Nat) (vl kp : Option Nat) (R : List aC), ST A C P vl kp R (k + 1) → v_V fz (L, xs) (999 + 1) 189 545 (LL k) [] (hX C P vl kp (moA A) R) Q
theorem lg_rr (r : Int64) : lg_cmp r r = 0 := by
  unfold lg_cmp
  rw [if_neg (show ¬ r > r from Int64.lt_irrefl), if_pos rfl]
section LC
variable {fz : Value} {L : Nat} {xs : Nat → Int32} {k : Nat} {Q : Option Value → List aC → Prop} {A C : mS} {P : Nat → Option Nat} {vl kp : Option Nat} {R : List aC}
theorem sx_1 (hL : 4 * k + 4 ≤ L) (hk : L ≤ 256) : a_in (Int32.ofNat (4 * k) + 1) L = true := by
  rw [show Int32.ofNat (4 * k) + 1 = Int32.ofNat (4 * k + 1) from o_add (q := 1), o_in (by omega)]
  simp
  omega
theorem sx_2 (hL : 4 * k + 4 ≤ L) (hk : L ≤ 256) : a_in (Int32.ofNat (4 * k) + 2) L = true := by
  rw [show Int32.ofNat (4 * k) + 2 = Int32.ofNat (4 * k + 2) from o_add (q := 2), o_in (by omega)]
  simp
  omega
theorem sx_3 (hL : 4 * k + 4 ≤ L) (hk : L ≤ 256) : a_in (Int32.ofNat (4 * k) + 3) L = true := by
  rw [show Int32.ofNat (4 * k) + 3 = Int32.ofNat (4 * k + 3) from o_add (q := 3), o_in (by omega)]
  simp
  omega
set_option maxRecDepth 100000 in
theorem lc_feed (hfz : fz = .null ∨ fz = .retAddr 60) (hL : 4 * k + 4 ≤ L) (hk : L ≤ 256) (h : ST A C P vl kp R k) (hn : LK fz L xs k Q) : v_V fz (L, xs) (999 + 1) 189 22 (LL k) [] (hX C P vl kp (moA A) R) Q := by
  obtain ⟨r, A', hc, hm⟩ := pc_feed (sc := (L, xs)) hfz h (sx xs k 1)
  refine v_grd 6 (g := a_in (Int32.ofNat (4 * k) + 1) L) (i' := 28) (L' := LL k) (st' := [.int (sx xs k 1), .ref 0]) (h' := hX C P vl kp (moA A) R) (fun _ => rfl) (sx_1 hL hk) ?_
  refine v_call 1 (k' := 76) (i' := 29) (E := [some (.ref 0), some (.int (sx xs k 1))]) (L' := LL k) (rest := []) (h1 := hX C P vl kp (moA A) R) (fun _ => rfl) ?_
  refine v_post (hc (moA A)) ?_
  rintro rv h' ⟨rfl, C', P', vl', kp', R', rfl, hs⟩
  refine v_grd 6 (g := a_in (Int32.ofNat (4 * k) + 1) L) (i' := 35) (L' := LL k) (st' := [.int (sx xs k 1), .ref 22, .int r]) (h' := hX C' P' vl' kp' (moA A) R') (fun _ => rfl) (sx_1 hL hk) ?_
  refine v_call 1 (k' := 117) (i' := 36) (E := [some (.ref 22), some (.int (sx xs k 1))]) (L' := LL k) (rest := [.int r]) (h1 := hX C' P' vl' kp' (moA A) R') (fun _ => rfl) ?_
  rw [eXM]
  refine v_post (hm (cX C' P' vl' kp') R') ?_
  rintro rv h' ⟨rfl, rfl⟩
  rw [← eXM]
  refine v_blk 1 (i' := (bif (a_ic .eq r r) then 545 else 37)) (L' := LL k) (st' := []) (h' := hX C' P' vl' kp' (moA A') R') (fun _ => rfl) ?_
  refine v_it (decide_eq_true rfl) ?_
  exact hn A' C' P' vl' kp' R' hs
set_option maxRecDepth 100000 in
theorem lc_vall (hfz : fz = .null ∨ fz = .retAddr 60) (hL : 4 * k + 4 ≤ L) (hk : L ≤ 256) (h : ST A C P vl kp R k) (hn : LK fz L xs k Q) : v_V fz (L, xs) (999 + 1) 189 39 (LL k) [] (hX C P vl kp (moA A) R) Q := by
  obtain ⟨r, A', hc, hm⟩ := pc_vall (sc := (L, xs)) hfz h
  refine v_call 2 (k' := 77) (i' := 41) (E := [some (.ref 0), none]) (L' := LL k) (rest := []) (h1 := hX C P vl kp (moA A) R) (fun _ => rfl) ?_
  refine v_post (hc (moA A)) ?_
  rintro rv h' ⟨rfl, C', P', vl', kp', R', rfl, hs⟩
  refine v_call 2 (k' := 131) (i' := 43) (E := [some (.ref 22), none]) (L' := LL k) (rest := [.int r]) (h1 := hX C' P' vl' kp' (moA A) R') (fun _ => rfl) ?_
  rw [eXM]
  refine v_post (hm (cX C' P' vl' kp') R') ?_
  rintro rv h' ⟨rfl, rfl⟩
  rw [← eXM]
  refine v_blk 1 (i' := (bif (a_ic .eq r r) then 545 else 44)) (L' := LL k) (st' := []) (h' := hX C' P' vl' kp' (moA A') R') (fun _ => rfl) ?_
  refine v_it (decide_eq_true rfl) ?_
  exact hn A' C' P' vl' kp' R' hs
set_option maxRecDepth 100000 in
theorem lc_told (hfz : fz = .null ∨ fz = .retAddr 60) (hL : 4 * k + 4 ≤ L) (hk : L ≤ 256) (h : ST A C P vl kp R k) (hn : LK fz L xs k Q) : v_V fz (L, xs) (999 + 1) 189 46 (LL k) [] (hX C P vl kp (moA A) R) Q := by
  obtain ⟨r, A', hc, hm⟩ := pc_told (sc := (L, xs)) hfz h (sx xs k 1)
  refine v_grd 6 (g := a_in (Int32.ofNat (4 * k) + 1) L) (i' := 52) (L' := LL k) (st' := [.int (sx xs k 1), .ref 0]) (h' := hX C P vl kp (moA A) R) (fun _ => rfl) (sx_1 hL hk) ?_
  refine v_call 1 (k' := 78) (i' := 53) (E := [some (.ref 0), some (.int (sx xs k 1))]) (L' := LL k) (rest := []) (h1 := hX C P vl kp (moA A) R) (fun _ => rfl) ?_
  refine v_post (hc (moA A)) ?_
  rintro rv h' ⟨rfl, C', P', vl', kp', R', rfl, hs⟩
  refine v_grd 6 (g := a_in (Int32.ofNat (4 * k) + 1) L) (i' := 59) (L' := LL k) (st' := [.int (sx xs k 1), .ref 22, .int r]) (h' := hX C' P' vl' kp' (moA A) R') (fun _ => rfl) (sx_1 hL hk) ?_
  refine v_call 1 (k' := 137) (i' := 60) (E := [some (.ref 22), some (.int (sx xs k 1))]) (L' := LL k) (rest := [.int r]) (h1 := hX C' P' vl' kp' (moA A) R') (fun _ => rfl) ?_
  rw [eXM]
  refine v_post (hm (cX C' P' vl' kp') R') ?_
  rintro rv h' ⟨rfl, rfl⟩
  rw [← eXM]
  refine v_blk 1 (i' := (bif (a_ic .eq r r) then 545 else 61)) (L' := LL k) (st' := []) (h' := hX C' P' vl' kp' (moA A') R') (fun _ => rfl) ?_
  refine v_it (decide_eq_true rfl) ?_
  exact hn A' C' P' vl' kp' R' hs
set_option maxRecDepth 100000 in
theorem lc_fort (hfz : fz = .null ∨ fz = .retAddr 60) (hL : 4 * k + 4 ≤ L) (hk : L ≤ 256) (h : ST A C P vl kp R k) (hn : LK fz L xs k Q) : v_V fz (L, xs) (999 + 1) 189 63 (LL k) [] (hX C P vl kp (moA A) R) Q := by
  obtain ⟨r, A', hc, hm⟩ := pc_fort (sc := (L, xs)) hfz h (sx xs k 1)
  refine v_grd 6 (g := a_in (Int32.ofNat (4 * k) + 1) L) (i' := 69) (L' := LL k) (st' := [.int (sx xs k 1), .ref 0]) (h' := hX C P vl kp (moA A) R) (fun _ => rfl) (sx_1 hL hk) ?_
  refine v_call 1 (k' := 79) (i' := 70) (E := [some (.ref 0), some (.int (sx xs k 1)), none]) (L' := LL k) (rest := []) (h1 := hX C P vl kp (moA A) R) (fun _ => rfl) ?_
  refine v_post (hc (moA A)) ?_
  rintro rv h' ⟨rfl, C', P', vl', kp', R', rfl, hs⟩
  refine v_grd 6 (g := a_in (Int32.ofNat (4 * k) + 1) L) (i' := 76) (L' := LL k) (st' := [.int (sx xs k 1), .ref 22, .int r]) (h' := hX C' P' vl' kp' (moA A) R') (fun _ => rfl) (sx_1 hL hk) ?_
  refine v_call 1 (k' := 138) (i' := 77) (E := [some (.ref 22), some (.int (sx xs k 1))]) (L' := LL k) (rest := [.int r]) (h1 := hX C' P' vl' kp' (moA A) R') (fun _ => rfl) ?_
  rw [eXM]
  refine v_post (hm (cX C' P' vl' kp') R') ?_
  rintro rv h' ⟨rfl, rfl⟩
  rw [← eXM]
  refine v_blk 1 (i' := (bif (a_ic .eq r r) then 545 else 78)) (L' := LL k) (st' := []) (h' := hX C' P' vl' kp' (moA A') R') (fun _ => rfl) ?_
  refine v_it (decide_eq_true rfl) ?_
  exact hn A' C' P' vl' kp' R' hs
set_option maxRecDepth 100000 in
theorem lc_pers (hfz : fz = .null ∨ fz = .retAddr 60) (hL : 4 * k + 4 ≤ L) (hk : L ≤ 256) (h : ST A C P vl kp R k) (hn : LK fz L xs k Q) : v_V fz (L, xs) (999 + 1) 189 80 (LL k) [] (hX C P vl kp (moA A) R) Q := by
  obtain ⟨r, A', hc, hm⟩ := pc_pers (sc := (L, xs)) hfz h (sx xs k 1) (sx xs k 2) (sx xs k 3)
  refine v_grd 6 (g := a_in (Int32.ofNat (4 * k) + 1) L) (i' := 86) (L' := LL k) (st' := [.int (sx xs k 1), .ref 0]) (h' := hX C P vl kp (moA A) R) (fun _ => rfl) (sx_1 hL hk) ?_
  refine v_grd 5 (g := a_in (Int32.ofNat (4 * k) + 2) L) (i' := 91) (L' := LL k) (st' := [.int (sx xs k 2), .int (sx xs k 1), .ref 0]) (h' := hX C P vl kp (moA A) R) (fun _ => rfl) (sx_2 hL hk) ?_
  refine v_grd 5 (g := a_in (Int32.ofNat (4 * k) + 3) L) (i' := 96) (L' := LL k) (st' := [.int (sx xs k 3), .int (sx xs k 2), .int (sx xs k 1), .ref 0]) (h' := hX C P vl kp (moA A) R) (fun _ => rfl) (sx_3 hL hk) ?_
  refine v_call 1 (k' := 80) (i' := 97) (E := [some (.ref 0), some (.int (sx xs k 1)), some (.int (sx xs k 2)), some (.int (sx xs k 3)), none]) (L' := LL k) (rest := []) (h1 := hX C P vl kp (moA A) R) (fun _ => rfl) ?_
  refine v_post (hc (moA A)) ?_
  rintro rv h' ⟨rfl, C', P', vl', kp', R', rfl, hs⟩
  refine v_grd 6 (g := a_in (Int32.ofNat (4 * k) + 1) L) (i' := 103) (L' := LL k) (st' := [.int (sx xs k 1), .ref 22, .int r]) (h' := hX C' P' vl' kp' (moA A) R') (fun _ => rfl) (sx_1 hL hk) ?_
  refine v_grd 5 (g := a_in (Int32.ofNat (4 * k) + 2) L) (i' := 108) (L' := LL k) (st' := [.int (sx xs k 2), .int (sx xs k 1), .ref 22, .int r]) (h' := hX C' P' vl' kp' (moA A) R') (fun _ => rfl) (sx_2 hL hk) ?_
  refine v_grd 5 (g := a_in (Int32.ofNat (4 * k) + 3) L) (i' := 113) (L' := LL k) (st' := [.int (sx xs k 3), .int (sx xs k 2), .int (sx xs k 1), .ref 22, .int r]) (h' := hX C' P' vl' kp' (moA A) R') (fun _ => rfl) (sx_3 hL hk) ?_
  refine v_call 1 (k' := 139) (i' := 114) (E := [some (.ref 22), some (.int (sx xs k 1)), some (.int (sx xs k 2)), some (.int (sx xs k 3)), none, none]) (L' := LL k) (rest := [.int r]) (h1 := hX C' P' vl' kp' (moA A) R') (fun _ => rfl) ?_
  rw [eXM]
  refine v_post (hm (cX C' P' vl' kp') R') ?_
  rintro rv h' ⟨rfl, rfl⟩
  rw [← eXM]
  refine v_blk 1 (i' := (bif (a_ic .eq r r) then 545 else 115)) (L' := LL k) (st' := []) (h' := hX C' P' vl' kp' (moA A') R') (fun _ => rfl) ?_
  refine v_it (decide_eq_true rfl) ?_
  exact hn A' C' P' vl' kp' R' hs
set_option maxRecDepth 100000 in
theorem lc_row (hfz : fz = .null ∨ fz = .retAddr 60) (hL : 4 * k + 4 ≤ L) (hk : L ≤ 256) (h : ST A C P vl kp R k) (hn : LK fz L xs k Q) : v_V fz (L, xs) (999 + 1) 189 117 (LL k) [] (hX C P vl kp (moA A) R) Q := by
  obtain ⟨r, A', hc, hm⟩ := pc_row (sc := (L, xs)) hfz h (sx xs k 1) (sx xs k 2) (sx xs k 3)
  refine v_grd 6 (g := a_in (Int32.ofNat (4 * k) + 1) L) (i' := 123) (L' := LL k) (st' := [.int (sx xs k 1), .ref 0]) (h' := hX C P vl kp (moA A) R) (fun _ => rfl) (sx_1 hL hk) ?_
  refine v_grd 5 (g := a_in (Int32.ofNat (4 * k) + 2) L) (i' := 128) (L' := LL k) (st' := [.int (sx xs k 2), .int (sx xs k 1), .ref 0]) (h' := hX C P vl kp (moA A) R) (fun _ => rfl) (sx_2 hL hk) ?_
  refine v_grd 5 (g := a_in (Int32.ofNat (4 * k) + 3) L) (i' := 133) (L' := LL k) (st' := [.int (sx xs k 3), .int (sx xs k 2), .int (sx xs k 1), .ref 0]) (h' := hX C P vl kp (moA A) R) (fun _ => rfl) (sx_3 hL hk) ?_
  refine v_call 1 (k' := 81) (i' := 134) (E := [some (.ref 0), some (.int (sx xs k 1)), some (.int (sx xs k 2)), some (.int (sx xs k 3)), none, none, none]) (L' := LL k) (rest := []) (h1 := hX C P vl kp (moA A) R) (fun _ => rfl) ?_
  refine v_post (hc (moA A)) ?_
  rintro rv h' ⟨rfl, C', P', vl', kp', R', rfl, hs⟩
  refine v_grd 6 (g := a_in (Int32.ofNat (4 * k) + 1) L) (i' := 140) (L' := LL k) (st' := [.int (sx xs k 1), .ref 22, .int r]) (h' := hX C' P' vl' kp' (moA A) R') (fun _ => rfl) (sx_1 hL hk) ?_
  refine v_grd 5 (g := a_in (Int32.ofNat (4 * k) + 2) L) (i' := 145) (L' := LL k) (st' := [.int (sx xs k 2), .int (sx xs k 1), .ref 22, .int r]) (h' := hX C' P' vl' kp' (moA A) R') (fun _ => rfl) (sx_2 hL hk) ?_
  refine v_grd 5 (g := a_in (Int32.ofNat (4 * k) + 3) L) (i' := 150) (L' := LL k) (st' := [.int (sx xs k 3), .int (sx xs k 2), .int (sx xs k 1), .ref 22, .int r]) (h' := hX C' P' vl' kp' (moA A) R') (fun _ => rfl) (sx_3 hL hk) ?_
  refine v_call 1 (k' := 140) (i' := 151) (E := [some (.ref 22), some (.int (sx xs k 1)), some (.int (sx xs k 2)), some (.int (sx xs k 3)), none]) (L' := LL k) (rest := [.int r]) (h1 := hX C' P' vl' kp' (moA A) R') (fun _ => rfl) ?_
  rw [eXM]
  refine v_post (hm (cX C' P' vl' kp') R') ?_
  rintro rv h' ⟨rfl, rfl⟩
  rw [← eXM]
  refine v_blk 1 (i' := (bif (a_ic .eq r r) then 545 else 152)) (L' := LL k) (st' := []) (h' := hX C' P' vl' kp' (moA A') R') (fun _ => rfl) ?_
  refine v_it (decide_eq_true rfl) ?_
  exact hn A' C' P' vl' kp' R' hs
set_option maxRecDepth 100000 in
theorem lc_of (hfz : fz = .null ∨ fz = .retAddr 60) (hL : 4 * k + 4 ≤ L) (hk : L ≤ 256) (h : ST A C P vl kp R k) (hn : LK fz L xs k Q) : v_V fz (L, xs) (999 + 1) 189 154 (LL k) [] (hX C P vl kp (moA A) R) Q := by
  obtain ⟨r, A', hc, hm⟩ := pc_of (sc := (L, xs)) hfz h (sx xs k 1) (sx xs k 2)
  refine v_grd 6 (g := a_in (Int32.ofNat (4 * k) + 1) L) (i' := 160) (L' := LL k) (st' := [.int (sx xs k 1), .ref 0]) (h' := hX C P vl kp (moA A) R) (fun _ => rfl) (sx_1 hL hk) ?_
  refine v_grd 5 (g := a_in (Int32.ofNat (4 * k) + 2) L) (i' := 165) (L' := LL k) (st' := [.int (sx xs k 2), .int (sx xs k 1), .ref 0]) (h' := hX C P vl kp (moA A) R) (fun _ => rfl) (sx_2 hL hk) ?_
  refine v_call 1 (k' := 82) (i' := 166) (E := [some (.ref 0), some (.int (sx xs k 1)), some (.int (sx xs k 2)), none]) (L' := LL k) (rest := []) (h1 := hX C P vl kp (moA A) R) (fun _ => rfl) ?_
  refine v_post (hc (moA A)) ?_
  rintro rv h' ⟨rfl, C', P', vl', kp', R', rfl, hs⟩
  refine v_grd 6 (g := a_in (Int32.ofNat (4 * k) + 1) L) (i' := 172) (L' := LL k) (st' := [.int (sx xs k 1), .ref 22, .int r]) (h' := hX C' P' vl' kp' (moA A) R') (fun _ => rfl) (sx_1 hL hk) ?_
  refine v_grd 5 (g := a_in (Int32.ofNat (4 * k) + 2) L) (i' := 177) (L' := LL k) (st' := [.int (sx xs k 2), .int (sx xs k 1), .ref 22, .int r]) (h' := hX C' P' vl' kp' (moA A) R') (fun _ => rfl) (sx_2 hL hk) ?_
  refine v_call 1 (k' := 146) (i' := 178) (E := [some (.ref 22), some (.int (sx xs k 1)), some (.int (sx xs k 2))]) (L' := LL k) (rest := [.int r]) (h1 := hX C' P' vl' kp' (moA A) R') (fun _ => rfl) ?_
  rw [eXM]
  refine v_post (hm (cX C' P' vl' kp') R') ?_
  rintro rv h' ⟨rfl, rfl⟩
  rw [← eXM]
  refine v_blk 1 (i' := (bif (a_ic .eq r r) then 545 else 179)) (L' := LL k) (st' := []) (h' := hX C' P' vl' kp' (moA A') R') (fun _ => rfl) ?_
  refine v_it (decide_eq_true rfl) ?_
  exact hn A' C' P' vl' kp' R' hs
set_option maxRecDepth 100000 in
theorem lc_go (hfz : fz = .null ∨ fz = .retAddr 60) (hL : 4 * k + 4 ≤ L) (hk : L ≤ 256) (h : ST A C P vl kp R k) (hn : LK fz L xs k Q) : v_V fz (L, xs) (999 + 1) 189 181 (LL k) [] (hX C P vl kp (moA A) R) Q := by
  obtain ⟨r, A', hc, hm⟩ := pc_go (sc := (L, xs)) hfz h
  refine v_call 2 (k' := 83) (i' := 183) (E := [some (.ref 0)]) (L' := LL k) (rest := []) (h1 := hX C P vl kp (moA A) R) (fun _ => rfl) ?_
  refine v_post (hc (moA A)) ?_
  rintro rv h' ⟨rfl, C', P', vl', kp', R', rfl, hs⟩
  refine v_call 2 (k' := 153) (i' := 185) (E := [some (.ref 22)]) (L' := LL k) (rest := [.int r]) (h1 := hX C' P' vl' kp' (moA A) R') (fun _ => rfl) ?_
  rw [eXM]
  refine v_post (hm (cX C' P' vl' kp') R') ?_
  rintro rv h' ⟨rfl, rfl⟩
  rw [← eXM]
  refine v_blk 1 (i' := (bif (a_ic .eq r r) then 545 else 186)) (L' := LL k) (st' := []) (h' := hX C' P' vl' kp' (moA A') R') (fun _ => rfl) ?_
  refine v_it (decide_eq_true rfl) ?_
  exact hn A' C' P' vl' kp' R' hs
set_option maxRecDepth 100000 in
theorem lc_sold (hfz : fz = .null ∨ fz = .retAddr 60) (hL : 4 * k + 4 ≤ L) (hk : L ≤ 256) (h : ST A C P vl kp R k) (hn : LK fz L xs k Q) : v_V fz (L, xs) (999 + 1) 189 188 (LL k) [] (hX C P vl kp (moA A) R) Q := by
  obtain ⟨r, A', hc, hm⟩ := pc_sold (sc := (L, xs)) hfz h (sx xs k 1)
  refine v_grd 6 (g := a_in (Int32.ofNat (4 * k) + 1) L) (i' := 194) (L' := LL k) (st' := [.int (sx xs k 1), .ref 0]) (h' := hX C P vl kp (moA A) R) (fun _ => rfl) (sx_1 hL hk) ?_
  refine v_call 1 (k' := 84) (i' := 195) (E := [some (.ref 0), some (.int (sx xs k 1)), none]) (L' := LL k) (rest := []) (h1 := hX C P vl kp (moA A) R) (fun _ => rfl) ?_
  refine v_post (hc (moA A)) ?_
  rintro rv h' ⟨rfl, C', P', vl', kp', R', rfl, hs⟩
  refine v_grd 6 (g := a_in (Int32.ofNat (4 * k) + 1) L) (i' := 201) (L' := LL k) (st' := [.int (sx xs k 1), .ref 22, .int r]) (h' := hX C' P' vl' kp' (moA A) R') (fun _ => rfl) (sx_1 hL hk) ?_
  refine v_call 1 (k' := 154) (i' := 202) (E := [some (.ref 22), some (.int (sx xs k 1))]) (L' := LL k) (rest := [.int r]) (h1 := hX C' P' vl' kp' (moA A) R') (fun _ => rfl) ?_
  rw [eXM]
  refine v_post (hm (cX C' P' vl' kp') R') ?_
  rintro rv h' ⟨rfl, rfl⟩
  rw [← eXM]
  refine v_blk 1 (i' := (bif (a_ic .eq r r) then 545 else 203)) (L' := LL k) (st' := []) (h' := hX C' P' vl' kp' (moA A') R') (fun _ => rfl) ?_
  refine v_it (decide_eq_true rfl) ?_
  exact hn A' C' P' vl' kp' R' hs
set_option maxRecDepth 100000 in
theorem lc_run (hfz : fz = .null ∨ fz = .retAddr 60) (hL : 4 * k + 4 ≤ L) (hk : L ≤ 256) (h : ST A C P vl kp R k) (hn : LK fz L xs k Q) : v_V fz (L, xs) (999 + 1) 189 205 (LL k) [] (hX C P vl kp (moA A) R) Q := by
  obtain ⟨r, A', hc, hm⟩ := pc_run (sc := (L, xs)) hfz h (sx xs k 1) (sx xs k 2)
  refine v_grd 6 (g := a_in (Int32.ofNat (4 * k) + 1) L) (i' := 211) (L' := LL k) (st' := [.int (sx xs k 1), .ref 0]) (h' := hX C P vl kp (moA A) R) (fun _ => rfl) (sx_1 hL hk) ?_
  refine v_grd 5 (g := a_in (Int32.ofNat (4 * k) + 2) L) (i' := 216) (L' := LL k) (st' := [.int (sx xs k 2), .int (sx xs k 1), .ref 0]) (h' := hX C P vl kp (moA A) R) (fun _ => rfl) (sx_2 hL hk) ?_
  refine v_call 1 (k' := 85) (i' := 217) (E := [some (.ref 0), some (.int (sx xs k 1)), some (.int (sx xs k 2)), none, none, none, none, none]) (L' := LL k) (rest := []) (h1 := hX C P vl kp (moA A) R) (fun _ => rfl) ?_
  refine v_post (hc (moA A)) ?_
  rintro rv h' ⟨rfl, C', P', vl', kp', R', rfl, hs⟩
  refine v_grd 6 (g := a_in (Int32.ofNat (4 * k) + 1) L) (i' := 223) (L' := LL k) (st' := [.int (sx xs k 1), .ref 22, .int r]) (h' := hX C' P' vl' kp' (moA A) R') (fun _ => rfl) (sx_1 hL hk) ?_
  refine v_grd 5 (g := a_in (Int32.ofNat (4 * k) + 2) L) (i' := 228) (L' := LL k) (st' := [.int (sx xs k 2), .int (sx xs k 1), .ref 22, .int r]) (h' := hX C' P' vl' kp' (moA A) R') (fun _ => rfl) (sx_2 hL hk) ?_
  refine v_call 1 (k' := 155) (i' := 229) (E := [some (.ref 22), some (.int (sx xs k 1)), some (.int (sx xs k 2)), none]) (L' := LL k) (rest := [.int r]) (h1 := hX C' P' vl' kp' (moA A) R') (fun _ => rfl) ?_
  rw [eXM]
  refine v_post (hm (cX C' P' vl' kp') R') ?_
  rintro rv h' ⟨rfl, rfl⟩
  rw [← eXM]
  refine v_blk 1 (i' := (bif (a_ic .eq r r) then 545 else 230)) (L' := LL k) (st' := []) (h' := hX C' P' vl' kp' (moA A') R') (fun _ => rfl) ?_
  refine v_it (decide_eq_true rfl) ?_
  exact hn A' C' P' vl' kp' R' hs
set_option maxRecDepth 100000 in
theorem lc_best (hfz : fz = .null ∨ fz = .retAddr 60) (hL : 4 * k + 4 ≤ L) (hk : L ≤ 256) (h : ST A C P vl kp R k) (hn : LK fz L xs k Q) : v_V fz (L, xs) (999 + 1) 189 232 (LL k) [] (hX C P vl kp (moA A) R) Q := by
  obtain ⟨r, A', hc, hm⟩ := pc_best (sc := (L, xs)) hfz h (sx xs k 1) (sx xs k 2)
  refine v_grd 6 (g := a_in (Int32.ofNat (4 * k) + 1) L) (i' := 238) (L' := LL k) (st' := [.int (sx xs k 1), .ref 0]) (h' := hX C P vl kp (moA A) R) (fun _ => rfl) (sx_1 hL hk) ?_
  refine v_grd 5 (g := a_in (Int32.ofNat (4 * k) + 2) L) (i' := 243) (L' := LL k) (st' := [.int (sx xs k 2), .int (sx xs k 1), .ref 0]) (h' := hX C P vl kp (moA A) R) (fun _ => rfl) (sx_2 hL hk) ?_
  refine v_call 1 (k' := 86) (i' := 244) (E := [some (.ref 0), some (.int (sx xs k 1)), some (.int (sx xs k 2)), none, none]) (L' := LL k) (rest := []) (h1 := hX C P vl kp (moA A) R) (fun _ => rfl) ?_
  refine v_post (hc (moA A)) ?_
  rintro rv h' ⟨rfl, C', P', vl', kp', R', rfl, hs⟩
  refine v_grd 6 (g := a_in (Int32.ofNat (4 * k) + 1) L) (i' := 250) (L' := LL k) (st' := [.int (sx xs k 1), .ref 22, .int r]) (h' := hX C' P' vl' kp' (moA A) R') (fun _ => rfl) (sx_1 hL hk) ?_
  refine v_grd 5 (g := a_in (Int32.ofNat (4 * k) + 2) L) (i' := 255) (L' := LL k) (st' := [.int (sx xs k 2), .int (sx xs k 1), .ref 22, .int r]) (h' := hX C' P' vl' kp' (moA A) R') (fun _ => rfl) (sx_2 hL hk) ?_
  refine v_call 1 (k' := 157) (i' := 256) (E := [some (.ref 22), some (.int (sx xs k 1)), some (.int (sx xs k 2)), none, none, none, none, none]) (L' := LL k) (rest := [.int r]) (h1 := hX C' P' vl' kp' (moA A) R') (fun _ => rfl) ?_
  rw [eXM]
  refine v_post (hm (cX C' P' vl' kp') R') ?_
  rintro rv h' ⟨rfl, rfl⟩
  rw [← eXM]
  refine v_blk 1 (i' := (bif (a_ic .eq r r) then 545 else 257)) (L' := LL k) (st' := []) (h' := hX C' P' vl' kp' (moA A') R') (fun _ => rfl) ?_
  refine v_it (decide_eq_true rfl) ?_
  exact hn A' C' P' vl' kp' R' hs
set_option maxRecDepth 100000 in
theorem lc_truly (hfz : fz = .null ∨ fz = .retAddr 60) (hL : 4 * k + 4 ≤ L) (hk : L ≤ 256) (h : ST A C P vl kp R k) (hn : LK fz L xs k Q) : v_V fz (L, xs) (999 + 1) 189 259 (LL k) [] (hX C P vl kp (moA A) R) Q := by
  obtain ⟨r, A', hc, hm⟩ := pc_truly (sc := (L, xs)) hfz h (sx xs k 1) (sx xs k 2)
  refine v_grd 6 (g := a_in (Int32.ofNat (4 * k) + 1) L) (i' := 265) (L' := LL k) (st' := [.int (sx xs k 1), .ref 0]) (h' := hX C P vl kp (moA A) R) (fun _ => rfl) (sx_1 hL hk) ?_
  refine v_grd 5 (g := a_in (Int32.ofNat (4 * k) + 2) L) (i' := 270) (L' := LL k) (st' := [.int (sx xs k 2), .int (sx xs k 1), .ref 0]) (h' := hX C P vl kp (moA A) R) (fun _ => rfl) (sx_2 hL hk) ?_
  refine v_call 1 (k' := 87) (i' := 271) (E := [some (.ref 0), some (.int (sx xs k 1)), some (.int (sx xs k 2)), none, none, none, none, none, none, none, none]) (L' := LL k) (rest := []) (h1 := hX C P vl kp (moA A) R) (fun _ => rfl) ?_
  refine v_post (hc (moA A)) ?_
  rintro rv h' ⟨rfl, C', P', vl', kp', R', rfl, hs⟩
  refine v_grd 6 (g := a_in (Int32.ofNat (4 * k) + 1) L) (i' := 277) (L' := LL k) (st' := [.int (sx xs k 1), .ref 22, .int r]) (h' := hX C' P' vl' kp' (moA A) R') (fun _ => rfl) (sx_1 hL hk) ?_
  refine v_grd 5 (g := a_in (Int32.ofNat (4 * k) + 2) L) (i' := 282) (L' := LL k) (st' := [.int (sx xs k 2), .int (sx xs k 1), .ref 22, .int r]) (h' := hX C' P' vl' kp' (moA A) R') (fun _ => rfl) (sx_2 hL hk) ?_
  refine v_call 1 (k' := 158) (i' := 283) (E := [some (.ref 22), some (.int (sx xs k 1)), some (.int (sx xs k 2)), none, none, none, none, none, none, none, none]) (L' := LL k) (rest := [.int r]) (h1 := hX C' P' vl' kp' (moA A) R') (fun _ => rfl) ?_
  rw [eXM]
  refine v_post (hm (cX C' P' vl' kp') R') ?_
  rintro rv h' ⟨rfl, rfl⟩
  rw [← eXM]
  refine v_blk 1 (i' := (bif (a_ic .eq r r) then 545 else 284)) (L' := LL k) (st' := []) (h' := hX C' P' vl' kp' (moA A') R') (fun _ => rfl) ?_
  refine v_it (decide_eq_true rfl) ?_
  exact hn A' C' P' vl' kp' R' hs
set_option maxRecDepth 100000 in
theorem lc_harm (hfz : fz = .null ∨ fz = .retAddr 60) (hL : 4 * k + 4 ≤ L) (hk : L ≤ 256) (h : ST A C P vl kp R k) (hn : LK fz L xs k Q) : v_V fz (L, xs) (999 + 1) 189 286 (LL k) [] (hX C P vl kp (moA A) R) Q := by
  obtain ⟨r, A', hc, hm⟩ := pc_harm (sc := (L, xs)) hfz h (sx xs k 1)
  refine v_grd 6 (g := a_in (Int32.ofNat (4 * k) + 1) L) (i' := 292) (L' := LL k) (st' := [.int (sx xs k 1), .ref 0]) (h' := hX C P vl kp (moA A) R) (fun _ => rfl) (sx_1 hL hk) ?_
  refine v_call 1 (k' := 88) (i' := 293) (E := [some (.ref 0), some (.int (sx xs k 1))]) (L' := LL k) (rest := []) (h1 := hX C P vl kp (moA A) R) (fun _ => rfl) ?_
  refine v_post (hc (moA A)) ?_
  rintro rv h' ⟨rfl, C', P', vl', kp', R', rfl, hs⟩
  refine v_grd 6 (g := a_in (Int32.ofNat (4 * k) + 1) L) (i' := 299) (L' := LL k) (st' := [.int (sx xs k 1), .ref 22, .int r]) (h' := hX C' P' vl' kp' (moA A) R') (fun _ => rfl) (sx_1 hL hk) ?_
  refine v_call 1 (k' := 159) (i' := 300) (E := [some (.ref 22), some (.int (sx xs k 1))]) (L' := LL k) (rest := [.int r]) (h1 := hX C' P' vl' kp' (moA A) R') (fun _ => rfl) ?_
  rw [eXM]
  refine v_post (hm (cX C' P' vl' kp') R') ?_
  rintro rv h' ⟨rfl, rfl⟩
  rw [← eXM]
  refine v_blk 1 (i' := (bif (a_ic .eq r r) then 545 else 301)) (L' := LL k) (st' := []) (h' := hX C' P' vl' kp' (moA A') R') (fun _ => rfl) ?_
  refine v_it (decide_eq_true rfl) ?_
  exact hn A' C' P' vl' kp' R' hs
set_option maxRecDepth 100000 in
theorem lc_leag (hfz : fz = .null ∨ fz = .retAddr 60) (hL : 4 * k + 4 ≤ L) (hk : L ≤ 256) (h : ST A C P vl kp R k) (hn : LK fz L xs k Q) : v_V fz (L, xs) (999 + 1) 189 303 (LL k) [] (hX C P vl kp (moA A) R) Q := by
  obtain ⟨r, A', hc, hm⟩ := pc_leag (sc := (L, xs)) hfz h (sx xs k 1)
  refine v_grd 6 (g := a_in (Int32.ofNat (4 * k) + 1) L) (i' := 309) (L' := LL k) (st' := [.int (sx xs k 1), .ref 0]) (h' := hX C P vl kp (moA A) R) (fun _ => rfl) (sx_1 hL hk) ?_
  refine v_call 1 (k' := 89) (i' := 310) (E := [some (.ref 0), some (.int (sx xs k 1)), none, none, none, none]) (L' := LL k) (rest := []) (h1 := hX C P vl kp (moA A) R) (fun _ => rfl) ?_
  refine v_post (hc (moA A)) ?_
  rintro rv h' ⟨rfl, C', P', vl', kp', R', rfl, hs⟩
  refine v_grd 6 (g := a_in (Int32.ofNat (4 * k) + 1) L) (i' := 316) (L' := LL k) (st' := [.int (sx xs k 1), .ref 22, .int r]) (h' := hX C' P' vl' kp' (moA A) R') (fun _ => rfl) (sx_1 hL hk) ?_
  refine v_call 1 (k' := 160) (i' := 317) (E := [some (.ref 22), some (.int (sx xs k 1)), none, none, none, none, none, none, none]) (L' := LL k) (rest := [.int r]) (h1 := hX C' P' vl' kp' (moA A) R') (fun _ => rfl) ?_
  rw [eXM]
  refine v_post (hm (cX C' P' vl' kp') R') ?_
  rintro rv h' ⟨rfl, rfl⟩
  rw [← eXM]
  refine v_blk 1 (i' := (bif (a_ic .eq r r) then 545 else 318)) (L' := LL k) (st' := []) (h' := hX C' P' vl' kp' (moA A') R') (fun _ => rfl) ?_
  refine v_it (decide_eq_true rfl) ?_
  exact hn A' C' P' vl' kp' R' hs
set_option maxRecDepth 100000 in
theorem lc_besd (hfz : fz = .null ∨ fz = .retAddr 60) (hL : 4 * k + 4 ≤ L) (hk : L ≤ 256) (h : ST A C P vl kp R k) (hn : LK fz L xs k Q) : v_V fz (L, xs) (999 + 1) 189 320 (LL k) [] (hX C P vl kp (moA A) R) Q := by
  obtain ⟨r, A', hc, hm⟩ := pc_besd (sc := (L, xs)) hfz h (sx xs k 1)
  refine v_grd 6 (g := a_in (Int32.ofNat (4 * k) + 1) L) (i' := 326) (L' := LL k) (st' := [.int (sx xs k 1), .ref 0]) (h' := hX C P vl kp (moA A) R) (fun _ => rfl) (sx_1 hL hk) ?_
  refine v_call 1 (k' := 90) (i' := 327) (E := [some (.ref 0), some (.int (sx xs k 1)), none]) (L' := LL k) (rest := []) (h1 := hX C P vl kp (moA A) R) (fun _ => rfl) ?_
  refine v_post (hc (moA A)) ?_
  rintro rv h' ⟨rfl, C', P', vl', kp', R', rfl, hs⟩
  refine v_grd 6 (g := a_in (Int32.ofNat (4 * k) + 1) L) (i' := 333) (L' := LL k) (st' := [.int (sx xs k 1), .ref 22, .int r]) (h' := hX C' P' vl' kp' (moA A) R') (fun _ => rfl) (sx_1 hL hk) ?_
  refine v_call 1 (k' := 161) (i' := 334) (E := [some (.ref 22), some (.int (sx xs k 1))]) (L' := LL k) (rest := [.int r]) (h1 := hX C' P' vl' kp' (moA A) R') (fun _ => rfl) ?_
  rw [eXM]
  refine v_post (hm (cX C' P' vl' kp') R') ?_
  rintro rv h' ⟨rfl, rfl⟩
  rw [← eXM]
  refine v_blk 1 (i' := (bif (a_ic .eq r r) then 545 else 335)) (L' := LL k) (st' := []) (h' := hX C' P' vl' kp' (moA A') R') (fun _ => rfl) ?_
  refine v_it (decide_eq_true rfl) ?_
  exact hn A' C' P' vl' kp' R' hs
set_option maxRecDepth 100000 in
theorem lc_spill (hfz : fz = .null ∨ fz = .retAddr 60) (hL : 4 * k + 4 ≤ L) (hk : L ≤ 256) (h : ST A C P vl kp R k) (hn : LK fz L xs k Q) : v_V fz (L, xs) (999 + 1) 189 337 (LL k) [] (hX C P vl kp (moA A) R) Q := by
  obtain ⟨r, A', hc, hm⟩ := pc_spill (sc := (L, xs)) hfz h (sx xs k 1) (sx xs k 2)
  refine v_grd 6 (g := a_in (Int32.ofNat (4 * k) + 1) L) (i' := 343) (L' := LL k) (st' := [.int (sx xs k 1), .ref 0]) (h' := hX C P vl kp (moA A) R) (fun _ => rfl) (sx_1 hL hk) ?_
  refine v_grd 5 (g := a_in (Int32.ofNat (4 * k) + 2) L) (i' := 348) (L' := LL k) (st' := [.int (sx xs k 2), .int (sx xs k 1), .ref 0]) (h' := hX C P vl kp (moA A) R) (fun _ => rfl) (sx_2 hL hk) ?_
  refine v_call 1 (k' := 91) (i' := 349) (E := [some (.ref 0), some (.int (sx xs k 1)), some (.int (sx xs k 2)), none, none]) (L' := LL k) (rest := []) (h1 := hX C P vl kp (moA A) R) (fun _ => rfl) ?_
  refine v_post (hc (moA A)) ?_
  rintro rv h' ⟨rfl, C', P', vl', kp', R', rfl, hs⟩
  refine v_grd 6 (g := a_in (Int32.ofNat (4 * k) + 1) L) (i' := 355) (L' := LL k) (st' := [.int (sx xs k 1), .ref 22, .int r]) (h' := hX C' P' vl' kp' (moA A) R') (fun _ => rfl) (sx_1 hL hk) ?_
  refine v_grd 5 (g := a_in (Int32.ofNat (4 * k) + 2) L) (i' := 360) (L' := LL k) (st' := [.int (sx xs k 2), .int (sx xs k 1), .ref 22, .int r]) (h' := hX C' P' vl' kp' (moA A) R') (fun _ => rfl) (sx_2 hL hk) ?_
  refine v_call 1 (k' := 162) (i' := 361) (E := [some (.ref 22), some (.int (sx xs k 1)), some (.int (sx xs k 2)), none, none]) (L' := LL k) (rest := [.int r]) (h1 := hX C' P' vl' kp' (moA A) R') (fun _ => rfl) ?_
  rw [eXM]
  refine v_post (hm (cX C' P' vl' kp') R') ?_
  rintro rv h' ⟨rfl, rfl⟩
  rw [← eXM]
  refine v_blk 1 (i' := (bif (a_ic .eq r r) then 545 else 362)) (L' := LL k) (st' := []) (h' := hX C' P' vl' kp' (moA A') R') (fun _ => rfl) ?_
  refine v_it (decide_eq_true rfl) ?_
  exact hn A' C' P' vl' kp' R' hs
set_option maxRecDepth 100000 in
theorem lc_poor (hfz : fz = .null ∨ fz = .retAddr 60) (hL : 4 * k + 4 ≤ L) (hk : L ≤ 256) (h : ST A C P vl kp R k) (hn : LK fz L xs k Q) : v_V fz (L, xs) (999 + 1) 189 364 (LL k) [] (hX C P vl kp (moA A) R) Q := by
  obtain ⟨r, A', hc, hm⟩ := pc_poor (sc := (L, xs)) hfz h (sx xs k 1) (sx xs k 2)
  refine v_grd 6 (g := a_in (Int32.ofNat (4 * k) + 1) L) (i' := 370) (L' := LL k) (st' := [.int (sx xs k 1), .ref 0]) (h' := hX C P vl kp (moA A) R) (fun _ => rfl) (sx_1 hL hk) ?_
  refine v_grd 5 (g := a_in (Int32.ofNat (4 * k) + 2) L) (i' := 375) (L' := LL k) (st' := [.int (sx xs k 2), .int (sx xs k 1), .ref 0]) (h' := hX C P vl kp (moA A) R) (fun _ => rfl) (sx_2 hL hk) ?_
  refine v_call 1 (k' := 92) (i' := 376) (E := [some (.ref 0), some (.int (sx xs k 1)), some (.int (sx xs k 2)), none, none]) (L' := LL k) (rest := []) (h1 := hX C P vl kp (moA A) R) (fun _ => rfl) ?_
  refine v_post (hc (moA A)) ?_
  rintro rv h' ⟨rfl, C', P', vl', kp', R', rfl, hs⟩
  refine v_grd 6 (g := a_in (Int32.ofNat (4 * k) + 1) L) (i' := 382) (L' := LL k) (st' := [.int (sx xs k 1), .ref 22, .int r]) (h' := hX C' P' vl' kp' (moA A) R') (fun _ => rfl) (sx_1 hL hk) ?_
  refine v_grd 5 (g := a_in (Int32.ofNat (4 * k) + 2) L) (i' := 387) (L' := LL k) (st' := [.int (sx xs k 2), .int (sx xs k 1), .ref 22, .int r]) (h' := hX C' P' vl' kp' (moA A) R') (fun _ => rfl) (sx_2 hL hk) ?_
  refine v_call 1 (k' := 163) (i' := 388) (E := [some (.ref 22), some (.int (sx xs k 1)), some (.int (sx xs k 2)), none, none, none, none, none, none]) (L' := LL k) (rest := [.int r]) (h1 := hX C' P' vl' kp' (moA A) R') (fun _ => rfl) ?_
  rw [eXM]
  refine v_post (hm (cX C' P' vl' kp') R') ?_
  rintro rv h' ⟨rfl, rfl⟩
  rw [← eXM]
  refine v_blk 1 (i' := (bif (a_ic .eq r r) then 545 else 389)) (L' := LL k) (st' := []) (h' := hX C' P' vl' kp' (moA A') R') (fun _ => rfl) ?_
  refine v_it (decide_eq_true rfl) ?_
  exact hn A' C' P' vl' kp' R' hs
set_option maxRecDepth 100000 in
theorem lc_worse (hfz : fz = .null ∨ fz = .retAddr 60) (hL : 4 * k + 4 ≤ L) (hk : L ≤ 256) (h : ST A C P vl kp R k) (hn : LK fz L xs k Q) : v_V fz (L, xs) (999 + 1) 189 391 (LL k) [] (hX C P vl kp (moA A) R) Q := by
  obtain ⟨r, A', hc, hm⟩ := pc_worse (sc := (L, xs)) hfz h (sx xs k 1)
  refine v_grd 6 (g := a_in (Int32.ofNat (4 * k) + 1) L) (i' := 397) (L' := LL k) (st' := [.int (sx xs k 1), .ref 0]) (h' := hX C P vl kp (moA A) R) (fun _ => rfl) (sx_1 hL hk) ?_
  refine v_call 1 (k' := 93) (i' := 398) (E := [some (.ref 0), some (.int (sx xs k 1)), none, none, none]) (L' := LL k) (rest := []) (h1 := hX C P vl kp (moA A) R) (fun _ => rfl) ?_
  refine v_post (hc (moA A)) ?_
  rintro rv h' ⟨rfl, C', P', vl', kp', R', rfl, hs⟩
  refine v_grd 6 (g := a_in (Int32.ofNat (4 * k) + 1) L) (i' := 404) (L' := LL k) (st' := [.int (sx xs k 1), .ref 22, .long r]) (h' := hX C' P' vl' kp' (moA A) R') (fun _ => rfl) (sx_1 hL hk) ?_
  refine v_call 1 (k' := 164) (i' := 405) (E := [some (.ref 22), some (.int (sx xs k 1)), none, none, none, none, none, none]) (L' := LL k) (rest := [.long r]) (h1 := hX C' P' vl' kp' (moA A) R') (fun _ => rfl) ?_
  rw [eXM]
  refine v_post (hm (cX C' P' vl' kp') R') ?_
  rintro rv h' ⟨rfl, rfl⟩
  rw [← eXM]
  refine v_blk 2 (i' := (bif (a_ic .eq (lg_cmp r r) (0 : Int32)) then 545 else 407)) (L' := LL k) (st' := []) (h' := hX C' P' vl' kp' (moA A') R') (fun _ => rfl) ?_
  refine v_it (decide_eq_true (lg_rr r)) ?_
  exact hn A' C' P' vl' kp' R' hs
set_option maxRecDepth 100000 in
theorem lc_book (hfz : fz = .null ∨ fz = .retAddr 60) (hL : 4 * k + 4 ≤ L) (hk : L ≤ 256) (h : ST A C P vl kp R k) (hn : LK fz L xs k Q) : v_V fz (L, xs) (999 + 1) 189 409 (LL k) [] (hX C P vl kp (moA A) R) Q := by
  obtain ⟨r, A', hc, hm⟩ := pc_book (sc := (L, xs)) hfz h (sx xs k 1)
  refine v_grd 6 (g := a_in (Int32.ofNat (4 * k) + 1) L) (i' := 415) (L' := LL k) (st' := [.int (sx xs k 1), .ref 0]) (h' := hX C P vl kp (moA A) R) (fun _ => rfl) (sx_1 hL hk) ?_
  refine v_call 1 (k' := 94) (i' := 416) (E := [some (.ref 0), some (.int (sx xs k 1)), none]) (L' := LL k) (rest := []) (h1 := hX C P vl kp (moA A) R) (fun _ => rfl) ?_
  refine v_post (hc (moA A)) ?_
  rintro rv h' ⟨rfl, C', P', vl', kp', R', rfl, hs⟩
  refine v_grd 6 (g := a_in (Int32.ofNat (4 * k) + 1) L) (i' := 422) (L' := LL k) (st' := [.int (sx xs k 1), .ref 22, .int r]) (h' := hX C' P' vl' kp' (moA A) R') (fun _ => rfl) (sx_1 hL hk) ?_
  refine v_call 1 (k' := 165) (i' := 423) (E := [some (.ref 22), some (.int (sx xs k 1))]) (L' := LL k) (rest := [.int r]) (h1 := hX C' P' vl' kp' (moA A) R') (fun _ => rfl) ?_
  rw [eXM]
  refine v_post (hm (cX C' P' vl' kp') R') ?_
  rintro rv h' ⟨rfl, rfl⟩
  rw [← eXM]
  refine v_blk 1 (i' := (bif (a_ic .eq r r) then 545 else 424)) (L' := LL k) (st' := []) (h' := hX C' P' vl' kp' (moA A') R') (fun _ => rfl) ?_
  refine v_it (decide_eq_true rfl) ?_
  exact hn A' C' P' vl' kp' R' hs
set_option maxRecDepth 100000 in
theorem lc_look (hfz : fz = .null ∨ fz = .retAddr 60) (hL : 4 * k + 4 ≤ L) (hk : L ≤ 256) (h : ST A C P vl kp R k) (hn : LK fz L xs k Q) : v_V fz (L, xs) (999 + 1) 189 426 (LL k) [] (hX C P vl kp (moA A) R) Q := by
  obtain ⟨r, A', hc, hm⟩ := pc_look (sc := (L, xs)) hfz h
  refine v_call 2 (k' := 95) (i' := 428) (E := [some (.ref 0), none]) (L' := LL k) (rest := []) (h1 := hX C P vl kp (moA A) R) (fun _ => rfl) ?_
  refine v_post (hc (moA A)) ?_
  rintro rv h' ⟨rfl, C', P', vl', kp', R', rfl, hs⟩
  refine v_call 2 (k' := 166) (i' := 430) (E := [some (.ref 22), none, none]) (L' := LL k) (rest := [.int r]) (h1 := hX C' P' vl' kp' (moA A) R') (fun _ => rfl) ?_
  rw [eXM]
  refine v_post (hm (cX C' P' vl' kp') R') ?_
  rintro rv h' ⟨rfl, rfl⟩
  rw [← eXM]
  refine v_blk 1 (i' := (bif (a_ic .eq r r) then 545 else 431)) (L' := LL k) (st' := []) (h' := hX C' P' vl' kp' (moA A') R') (fun _ => rfl) ?_
  refine v_it (decide_eq_true rfl) ?_
  exact hn A' C' P' vl' kp' R' hs
set_option maxRecDepth 100000 in
theorem lc_act (hfz : fz = .null ∨ fz = .retAddr 60) (hL : 4 * k + 4 ≤ L) (hk : L ≤ 256) (h : ST A C P vl kp R k) (hn : LK fz L xs k Q) : v_V fz (L, xs) (999 + 1) 189 433 (LL k) [] (hX C P vl kp (moA A) R) Q := by
  obtain ⟨r, A', hc, hm⟩ := pc_act (sc := (L, xs)) hfz h (sx xs k 1) (sx xs k 2) (sx xs k 3)
  refine v_grd 6 (g := a_in (Int32.ofNat (4 * k) + 1) L) (i' := 439) (L' := LL k) (st' := [.int (sx xs k 1), .ref 0]) (h' := hX C P vl kp (moA A) R) (fun _ => rfl) (sx_1 hL hk) ?_
  refine v_grd 5 (g := a_in (Int32.ofNat (4 * k) + 2) L) (i' := 444) (L' := LL k) (st' := [.int (sx xs k 2), .int (sx xs k 1), .ref 0]) (h' := hX C P vl kp (moA A) R) (fun _ => rfl) (sx_2 hL hk) ?_
  refine v_grd 5 (g := a_in (Int32.ofNat (4 * k) + 3) L) (i' := 449) (L' := LL k) (st' := [.int (sx xs k 3), .int (sx xs k 2), .int (sx xs k 1), .ref 0]) (h' := hX C P vl kp (moA A) R) (fun _ => rfl) (sx_3 hL hk) ?_
  refine v_call 1 (k' := 96) (i' := 450) (E := [some (.ref 0), some (.int (sx xs k 1)), some (.int (sx xs k 2)), some (.int (sx xs k 3)), none]) (L' := LL k) (rest := []) (h1 := hX C P vl kp (moA A) R) (fun _ => rfl) ?_
  refine v_post (hc (moA A)) ?_
  rintro rv h' ⟨rfl, C', P', vl', kp', R', rfl, hs⟩
  refine v_grd 6 (g := a_in (Int32.ofNat (4 * k) + 1) L) (i' := 456) (L' := LL k) (st' := [.int (sx xs k 1), .ref 22, .int r]) (h' := hX C' P' vl' kp' (moA A) R') (fun _ => rfl) (sx_1 hL hk) ?_
  refine v_grd 5 (g := a_in (Int32.ofNat (4 * k) + 2) L) (i' := 461) (L' := LL k) (st' := [.int (sx xs k 2), .int (sx xs k 1), .ref 22, .int r]) (h' := hX C' P' vl' kp' (moA A) R') (fun _ => rfl) (sx_2 hL hk) ?_
  refine v_grd 5 (g := a_in (Int32.ofNat (4 * k) + 3) L) (i' := 466) (L' := LL k) (st' := [.int (sx xs k 3), .int (sx xs k 2), .int (sx xs k 1), .ref 22, .int r]) (h' := hX C' P' vl' kp' (moA A) R') (fun _ => rfl) (sx_3 hL hk) ?_
  refine v_call 1 (k' := 176) (i' := 467) (E := [some (.ref 22), some (.int (sx xs k 1)), some (.int (sx xs k 2)), some (.int (sx xs k 3))]) (L' := LL k) (rest := [.int r]) (h1 := hX C' P' vl' kp' (moA A) R') (fun _ => rfl) ?_
  rw [eXM]
  refine v_post (hm (cX C' P' vl' kp') R') ?_
  rintro rv h' ⟨rfl, rfl⟩
  rw [← eXM]
  refine v_blk 1 (i' := (bif (a_ic .eq r r) then 545 else 468)) (L' := LL k) (st' := []) (h' := hX C' P' vl' kp' (moA A') R') (fun _ => rfl) ?_
  refine v_it (decide_eq_true rfl) ?_
  exact hn A' C' P' vl' kp' R' hs
set_option maxRecDepth 100000 in
theorem lc_trc (hfz : fz = .null ∨ fz = .retAddr 60) (hL : 4 * k + 4 ≤ L) (hk : L ≤ 256) (h : ST A C P vl kp R k) (hn : LK fz L xs k Q) : v_V fz (L, xs) (999 + 1) 189 470 (LL k) [] (hX C P vl kp (moA A) R) Q := by
  obtain ⟨r, A', hc, hm⟩ := pc_trc (sc := (L, xs)) hfz h (sx xs k 1)
  refine v_grd 6 (g := a_in (Int32.ofNat (4 * k) + 1) L) (i' := 476) (L' := LL k) (st' := [.int (sx xs k 1), .ref 0]) (h' := hX C P vl kp (moA A) R) (fun _ => rfl) (sx_1 hL hk) ?_
  refine v_call 1 (k' := 97) (i' := 477) (E := [some (.ref 0), some (.int (sx xs k 1))]) (L' := LL k) (rest := []) (h1 := hX C P vl kp (moA A) R) (fun _ => rfl) ?_
  refine v_post (hc (moA A)) ?_
  rintro rv h' ⟨rfl, C', P', vl', kp', R', rfl, hs⟩
  refine v_grd 6 (g := a_in (Int32.ofNat (4 * k) + 1) L) (i' := 483) (L' := LL k) (st' := [.int (sx xs k 1), .ref 22, .int r]) (h' := hX C' P' vl' kp' (moA A) R') (fun _ => rfl) (sx_1 hL hk) ?_
  refine v_call 1 (k' := 177) (i' := 484) (E := [some (.ref 22), some (.int (sx xs k 1))]) (L' := LL k) (rest := [.int r]) (h1 := hX C' P' vl' kp' (moA A) R') (fun _ => rfl) ?_
  rw [eXM]
  refine v_post (hm (cX C' P' vl' kp') R') ?_
  rintro rv h' ⟨rfl, rfl⟩
  rw [← eXM]
  refine v_blk 1 (i' := (bif (a_ic .eq r r) then 545 else 485)) (L' := LL k) (st' := []) (h' := hX C' P' vl' kp' (moA A') R') (fun _ => rfl) ?_
  refine v_it (decide_eq_true rfl) ?_
  exact hn A' C' P' vl' kp' R' hs
set_option maxRecDepth 100000 in
theorem lc_as (hfz : fz = .null ∨ fz = .retAddr 60) (hL : 4 * k + 4 ≤ L) (hk : L ≤ 256) (h : ST A C P vl kp R k) (hn : LK fz L xs k Q) : v_V fz (L, xs) (999 + 1) 189 487 (LL k) [] (hX C P vl kp (moA A) R) Q := by
  obtain ⟨r, A', hc, hm⟩ := pc_as (sc := (L, xs)) hfz h (sx xs k 1) (sx xs k 2)
  refine v_grd 6 (g := a_in (Int32.ofNat (4 * k) + 1) L) (i' := 493) (L' := LL k) (st' := [.int (sx xs k 1), .ref 0]) (h' := hX C P vl kp (moA A) R) (fun _ => rfl) (sx_1 hL hk) ?_
  refine v_grd 5 (g := a_in (Int32.ofNat (4 * k) + 2) L) (i' := 498) (L' := LL k) (st' := [.int (sx xs k 2), .int (sx xs k 1), .ref 0]) (h' := hX C P vl kp (moA A) R) (fun _ => rfl) (sx_2 hL hk) ?_
  refine v_call 1 (k' := 98) (i' := 499) (E := [some (.ref 0), some (.int (sx xs k 1)), some (.int (sx xs k 2)), none]) (L' := LL k) (rest := []) (h1 := hX C P vl kp (moA A) R) (fun _ => rfl) ?_
  refine v_post (hc (moA A)) ?_
  rintro rv h' ⟨rfl, C', P', vl', kp', R', rfl, hs⟩
  refine v_grd 6 (g := a_in (Int32.ofNat (4 * k) + 1) L) (i' := 505) (L' := LL k) (st' := [.int (sx xs k 1), .ref 22, .int r]) (h' := hX C' P' vl' kp' (moA A) R') (fun _ => rfl) (sx_1 hL hk) ?_
  refine v_grd 5 (g := a_in (Int32.ofNat (4 * k) + 2) L) (i' := 510) (L' := LL k) (st' := [.int (sx xs k 2), .int (sx xs k 1), .ref 22, .int r]) (h' := hX C' P' vl' kp' (moA A) R') (fun _ => rfl) (sx_2 hL hk) ?_
  refine v_call 1 (k' := 178) (i' := 511) (E := [some (.ref 22), some (.int (sx xs k 1)), some (.int (sx xs k 2))]) (L' := LL k) (rest := [.int r]) (h1 := hX C' P' vl' kp' (moA A) R') (fun _ => rfl) ?_
  rw [eXM]
  refine v_post (hm (cX C' P' vl' kp') R') ?_
  rintro rv h' ⟨rfl, rfl⟩
  rw [← eXM]
  refine v_blk 1 (i' := (bif (a_ic .eq r r) then 545 else 512)) (L' := LL k) (st' := []) (h' := hX C' P' vl' kp' (moA A') R') (fun _ => rfl) ?_
  refine v_it (decide_eq_true rfl) ?_
  exact hn A' C' P' vl' kp' R' hs
set_option maxRecDepth 100000 in
theorem lc_img (hfz : fz = .null ∨ fz = .retAddr 60) (hL : 4 * k + 4 ≤ L) (hk : L ≤ 256) (h : ST A C P vl kp R k) (hn : LK fz L xs k Q) : v_V fz (L, xs) (999 + 1) 189 514 (LL k) [] (hX C P vl kp (moA A) R) Q := by
  obtain ⟨r, A', hc, hm⟩ := pc_img (sc := (L, xs)) hfz h
  refine v_call 2 (k' := 99) (i' := 516) (E := [some (.ref 0)]) (L' := LL k) (rest := []) (h1 := hX C P vl kp (moA A) R) (fun _ => rfl) ?_
  refine v_post (hc (moA A)) ?_
  rintro rv h' ⟨rfl, C', P', vl', kp', R', rfl, hs⟩
  refine v_call 2 (k' := 179) (i' := 518) (E := [some (.ref 22), none]) (L' := LL k) (rest := [.int r]) (h1 := hX C' P' vl' kp' (moA A) R') (fun _ => rfl) ?_
  rw [eXM]
  refine v_post (hm (cX C' P' vl' kp') R') ?_
  rintro rv h' ⟨rfl, rfl⟩
  rw [← eXM]
  refine v_blk 1 (i' := (bif (a_ic .eq r r) then 545 else 519)) (L' := LL k) (st' := []) (h' := hX C' P' vl' kp' (moA A') R') (fun _ => rfl) ?_
  refine v_it (decide_eq_true rfl) ?_
  exact hn A' C' P' vl' kp' R' hs
set_option maxRecDepth 100000 in
theorem lc_und (hfz : fz = .null ∨ fz = .retAddr 60) (hL : 4 * k + 4 ≤ L) (hk : L ≤ 256) (h : ST A C P vl kp R k) (hn : LK fz L xs k Q) : v_V fz (L, xs) (999 + 1) 189 521 (LL k) [] (hX C P vl kp (moA A) R) Q := by
  obtain ⟨r, A', hc, hm⟩ := pc_und (sc := (L, xs)) hfz h
  refine v_call 2 (k' := 100) (i' := 523) (E := [some (.ref 0)]) (L' := LL k) (rest := []) (h1 := hX C P vl kp (moA A) R) (fun _ => rfl) ?_
  refine v_post (hc (moA A)) ?_
  rintro rv h' ⟨rfl, C', P', vl', kp', R', rfl, hs⟩
  refine v_call 2 (k' := 180) (i' := 525) (E := [some (.ref 22), none]) (L' := LL k) (rest := [.int r]) (h1 := hX C' P' vl' kp' (moA A) R') (fun _ => rfl) ?_
  rw [eXM]
  refine v_post (hm (cX C' P' vl' kp') R') ?_
  rintro rv h' ⟨rfl, rfl⟩
  rw [← eXM]
  refine v_blk 1 (i' := (bif (a_ic .eq r r) then 545 else 526)) (L' := LL k) (st' := []) (h' := hX C' P' vl' kp' (moA A') R') (fun _ => rfl) ?_
  refine v_it (decide_eq_true rfl) ?_
  exact hn A' C' P' vl' kp' R' hs
set_option maxRecDepth 100000 in
theorem lc_cnt (hfz : fz = .null ∨ fz = .retAddr 60) (hL : 4 * k + 4 ≤ L) (hk : L ≤ 256) (h : ST A C P vl kp R k) (hn : LK fz L xs k Q) : v_V fz (L, xs) (999 + 1) 189 528 (LL k) [] (hX C P vl kp (moA A) R) Q := by
  obtain ⟨r, A', hc, hm⟩ := pc_cnt (sc := (L, xs)) hfz h (sx xs k 1)
  refine v_grd 6 (g := a_in (Int32.ofNat (4 * k) + 1) L) (i' := 534) (L' := LL k) (st' := [.int (sx xs k 1), .ref 0]) (h' := hX C P vl kp (moA A) R) (fun _ => rfl) (sx_1 hL hk) ?_
  refine v_call 1 (k' := 101) (i' := 535) (E := [some (.ref 0), some (.int (sx xs k 1))]) (L' := LL k) (rest := []) (h1 := hX C P vl kp (moA A) R) (fun _ => rfl) ?_
  refine v_post (hc (moA A)) ?_
  rintro rv h' ⟨rfl, C', P', vl', kp', R', rfl, hs⟩
  refine v_grd 6 (g := a_in (Int32.ofNat (4 * k) + 1) L) (i' := 541) (L' := LL k) (st' := [.int (sx xs k 1), .ref 22, .int r]) (h' := hX C' P' vl' kp' (moA A) R') (fun _ => rfl) (sx_1 hL hk) ?_
  refine v_call 1 (k' := 181) (i' := 542) (E := [some (.ref 22), some (.int (sx xs k 1))]) (L' := LL k) (rest := [.int r]) (h1 := hX C' P' vl' kp' (moA A) R') (fun _ => rfl) ?_
  rw [eXM]
  refine v_post (hm (cX C' P' vl' kp') R') ?_
  rintro rv h' ⟨rfl, rfl⟩
  rw [← eXM]
  refine v_blk 1 (i' := (bif (a_ic .eq r r) then 545 else 543)) (L' := LL k) (st' := []) (h' := hX C' P' vl' kp' (moA A') R') (fun _ => rfl) ?_
  refine v_it (decide_eq_true rfl) ?_
  exact hn A' C' P' vl' kp' R' hs
end LC
