/-! 32.mthm, piece 4: runs of the model's methods are their mirrored functions (by program) -/
set_option maxRecDepth 100000 in
set_option maxHeartbeats 4000000 in
theorem gt_157_18b {fz : Value} {sc : Nat × (Nat → Int32)} (hfz : fz = .null ∨ fz = .retAddr 60) (N : Nat) (c : Nat → aC) (R : List aC) (d : Nat) (hd : 4 ≤ d) (rc18 : Int32 → Int32 → Int32 → mS → Option (Int32 × mS)) (hrc18 : ∀ (x1 : Int32) (x2 : Int32) (x3 : Int32) (A : mS) (r : Int32) (A' : mS), rc18 x1 x2 x3 A = some (r, A') → v_V fz sc d 157 18 [some (.ref 22), some (.int x1), some (.int x2), some (.int x3), none, none, none, none] [] (hM c A R) (fun rv h' => rv = some (.int r) ∧ h' = hM c A' R)) (x1 : Int32) (x2 : Int32) (x3 : Int32) (A : mS) (r : Int32) (A' : mS) (hf : g_157_18b N rc18 x1 x2 x3 A = some (r, A')) : v_V fz sc d 157 18 [some (.ref 22), some (.int x1), some (.int x2), some (.int x3), none, none, none, none] [] (hM c A R) (fun rv h' => rv = some (.int r) ∧ h' = hM c A' R) := by
  unfold g_157_18b at hf
  obtain ⟨d, rfl⟩ : ∃ z, d = z + 1 := ⟨d - 1, by omega⟩
  refine v_blk 3 (i' := (bif (a_ic .ge x3 (4 : Int32)) then 32 else 21)) (L' := [some (.ref 22), some (.int x1), some (.int x2), some (.int x3), none, none, none, none]) (st' := []) (h' := (hM c A R)) (fun _ => rfl) ?_
  rcases Bool.eq_false_or_eq_true (a_ic .ge x3 (4 : Int32)) with hb | hb
  · have hf := a_bt hb hf
    refine v_it hb ?_
    refine v_blk 4 (i' := 36) (L' := [some (.ref 22), some (.int x1), some (.int x2), some (.int (x1 - (1 : Int32))), none, none, none, none]) (st' := []) (h' := (hM c A R)) (fun _ => rfl) ?_
    refine v_weak (L' := [some (.ref 22), none, some (.int x2), some (.int (x1 - (1 : Int32))), none, none, none, none]) (show a_wk [some (.ref 22), none, some (.int x2), some (.int (x1 - (1 : Int32))), none, none, none, none] [some (.ref 22), some (.int x1), some (.int x2), some (.int (x1 - (1 : Int32))), none, none, none, none] from ⟨rfl, ⟨(fun v hv => by cases hv; rfl), ⟨rfl, ⟨rfl, ⟨(fun v hv => by cases hv), ⟨(fun v hv => by cases hv), ⟨(fun v hv => by cases hv), ⟨(fun v hv => by cases hv), trivial⟩⟩⟩⟩⟩⟩⟩⟩) ?_
    exact gt_157_36 hfz N c R (d + 1) hd N x2 (x1 - (1 : Int32)) A _ _ hf
  · have hf := a_be hb hf
    refine v_ie hb ?_
    obtain ⟨hg, hf⟩ := a_bif hf
    refine v_grd 9 (i' := 30) (L' := [some (.ref 22), some (.int x1), some (.int x2), some (.int x3), none, none, none, none]) (st' := []) (h' := (hM c (va_up A 7 (upd (A 7) ((((4 : Int32) * x1) + x3)).toNatClampNeg (0 : Int32))) R)) (fun _ => rfl) hg ?_
    obtain ⟨A3, hA, hf⟩ := m_st_ok hf
    rw [hA]
    refine v_blk 2 (i' := 18) (L' := [some (.ref 22), some (.int x1), some (.int x2), some (.int (x3 + (1 : Int32))), none, none, none, none]) (st' := []) (h' := (hM c A3 R)) (fun _ => rfl) ?_
    exact hrc18 x1 x2 (x3 + (1 : Int32)) A3 _ _ hf
theorem gt_157_18 {fz : Value} {sc : Nat × (Nat → Int32)} (hfz : fz = .null ∨ fz = .retAddr 60) (N : Nat) (c : Nat → aC) (R : List aC) (d : Nat) (hd : 4 ≤ d) : ∀ (n : Nat) (x1 : Int32) (x2 : Int32) (x3 : Int32) (A : mS) (r : Int32) (A' : mS) (hf : g_157_18 N n x1 x2 x3 A = some (r, A')), v_V fz sc d 157 18 [some (.ref 22), some (.int x1), some (.int x2), some (.int x3), none, none, none, none] [] (hM c A R) (fun rv h' => rv = some (.int r) ∧ h' = hM c A' R) := by
  intro n
  induction n with
  | zero => intro x1 x2 x3 A r A' hf; cases hf
  | succ n ih =>
    intro x1 x2 x3 A r A' hf
    exact gt_157_18b hfz N c R d hd (g_157_18 N n) ih x1 x2 x3 A r A' hf
set_option maxRecDepth 100000 in
set_option maxHeartbeats 4000000 in
theorem gt_157 {fz : Value} {sc : Nat × (Nat → Int32)} (hfz : fz = .null ∨ fz = .retAddr 60) (N : Nat) (c : Nat → aC) (R : List aC) (d : Nat) (hd : 4 ≤ d) (x1 : Int32) (x2 : Int32) (A : mS) (r : Int32) (A' : mS) (hf : g_157 N x1 x2 A = some (r, A')) : v_V fz sc d 157 0 [some (.ref 22), some (.int x1), some (.int x2), none, none, none, none, none] [] (hM c A R) (fun rv h' => rv = some (.int r) ∧ h' = hM c A' R) := by
  unfold g_157 at hf
  obtain ⟨d, rfl⟩ : ∃ z, d = z + 1 := ⟨d - 1, by omega⟩
  obtain ⟨r1, A1, hc, hf⟩ := m_bd_ok hf
  refine v_call 4 (k' := 112) (i' := 4) (E := [some (.int x1), some (.int (1 : Int32)), some (.int (8 : Int32))]) (L' := [some (.ref 22), some (.int x1), some (.int x2), none, none, none, none, none]) (rest := []) (h1 := (hM c A R)) (fun _ => rfl) ?_
  refine v_post (gt_112 hfz N c R d (by omega) x1 (1 : Int32) (8 : Int32) A _ _ hc) ?_
  rintro rv h' ⟨rfl, rfl⟩
  refine v_blk 1 (i' := (bif (a_ic .ne r1 (0 : Int32)) then 7 else 5)) (L' := [some (.ref 22), some (.int x1), some (.int x2), none, none, none, none, none]) (st' := []) (h' := (hM c A1 R)) (fun _ => rfl) ?_
  rcases Bool.eq_false_or_eq_true (a_ic .ne r1 (0 : Int32)) with hb | hb
  · have hf := a_bt hb hf
    refine v_it hb ?_
    obtain ⟨r2, A2, hc, hf⟩ := m_bd_ok hf
    refine v_call 6 (k' := 112) (i' := 13) (E := [some (.int x2), some (.int (-1 : Int32)), some (.int (x1 - (1 : Int32)))]) (L' := [some (.ref 22), some (.int x1), some (.int x2), none, none, none, none, none]) (rest := []) (h1 := (hM c A1 R)) (fun _ => rfl) ?_
    refine v_post (gt_112 hfz N c R d (by omega) x2 (-1 : Int32) (x1 - (1 : Int32)) A1 _ _ hc) ?_
    rintro rv h' ⟨rfl, rfl⟩
    refine v_blk 1 (i' := (bif (a_ic .ne r2 (0 : Int32)) then 16 else 14)) (L' := [some (.ref 22), some (.int x1), some (.int x2), none, none, none, none, none]) (st' := []) (h' := (hM c A2 R)) (fun _ => rfl) ?_
    rcases Bool.eq_false_or_eq_true (a_ic .ne r2 (0 : Int32)) with hb | hb
    · have hf := a_bt hb hf
      refine v_it hb ?_
      refine v_blk 2 (i' := 18) (L' := [some (.ref 22), some (.int x1), some (.int x2), some (.int (0 : Int32)), none, none, none, none]) (st' := []) (h' := (hM c A2 R)) (fun _ => rfl) ?_
      exact gt_157_18 hfz N c R (d + 1) hd N x1 x2 (0 : Int32) A2 _ _ hf
    · have hf := a_be hb hf
      refine v_ie hb ?_
      obtain ⟨rfl, rfl⟩ := m_rt hf
      exact v_ret 2 (fun _ => rfl) ⟨rfl, rfl⟩
  · have hf := a_be hb hf
    refine v_ie hb ?_
    obtain ⟨rfl, rfl⟩ := m_rt hf
    exact v_ret 2 (fun _ => rfl) ⟨rfl, rfl⟩
set_option maxRecDepth 100000 in
set_option maxHeartbeats 4000000 in
theorem gt_158_92 {fz : Value} {sc : Nat × (Nat → Int32)} (hfz : fz = .null ∨ fz = .retAddr 60) (N : Nat) (c : Nat → aC) (R : List aC) (d : Nat) (hd : 7 ≤ d) (rc27 : Int32 → Int32 → Int32 → Int32 → Int32 → Int32 → Int32 → mS → Option (Int32 × mS)) (hrc27 : ∀ (x1 : Int32) (x2 : Int32) (x3 : Int32) (x4 : Int32) (x5 : Int32) (x6 : Int32) (x7 : Int32) (A : mS) (r : Int32) (A' : mS), rc27 x1 x2 x3 x4 x5 x6 x7 A = some (r, A') → v_V fz sc d 158 27 [some (.ref 22), some (.int x1), some (.int x2), some (.int x3), some (.int x4), some (.int x5), some (.int x6), some (.int x7), none, none, none] [] (hM c A R) (fun rv h' => rv = some (.int r) ∧ h' = hM c A' R)) (x1 : Int32) (x2 : Int32) (x3 : Int32) (x4 : Int32) (x5 : Int32) (x6 : Int32) (x7 : Int32) (x8 : Int32) (A : mS) (r : Int32) (A' : mS) (hf : g_158_92 N rc27 x1 x2 x3 x4 x5 x6 x7 x8 A = some (r, A')) : v_V fz sc d 158 92 [some (.ref 22), some (.int x1), some (.int x2), some (.int x3), some (.int x4), some (.int x5), some (.int x6), some (.int x7), some (.int x8), none, none] [] (hM c A R) (fun rv h' => rv = some (.int r) ∧ h' = hM c A' R) := by
  unfold g_158_92 at hf
  obtain ⟨d, rfl⟩ : ∃ z, d = z + 1 := ⟨d - 1, by omega⟩
  obtain ⟨hg, hf⟩ := a_bif hf
  refine v_grd 9 (i' := 101) (L' := [some (.ref 22), some (.int x1), some (.int x2), some (.int x3), some (.int x4), some (.int x5), some (.int x6), some (.int x7), some (.int x8), none, none]) (st' := []) (h' := (hM c (va_up A 5 (upd (A 5) ((((4 : Int32) * x1) + x7)).toNatClampNeg x8)) R)) (fun _ => rfl) hg ?_
  obtain ⟨A11, hA, hf⟩ := m_st_ok hf
  rw [hA]
  refine v_blk 2 (i' := 27) (L' := [some (.ref 22), some (.int x1), some (.int x2), some (.int x3), some (.int x4), some (.int x5), some (.int x6), some (.int (x7 + (1 : Int32))), some (.int x8), none, none]) (st' := []) (h' := (hM c A11 R)) (fun _ => rfl) ?_
  refine v_weak (L' := [some (.ref 22), some (.int x1), some (.int x2), some (.int x3), some (.int x4), some (.int x5), some (.int x6), some (.int (x7 + (1 : Int32))), none, none, none]) (show a_wk [some (.ref 22), some (.int x1), some (.int x2), some (.int x3), some (.int x4), some (.int x5), some (.int x6), some (.int (x7 + (1 : Int32))), none, none, none] [some (.ref 22), some (.int x1), some (.int x2), some (.int x3), some (.int x4), some (.int x5), some (.int x6), some (.int (x7 + (1 : Int32))), some (.int x8), none, none] from ⟨rfl, ⟨rfl, ⟨rfl, ⟨rfl, ⟨rfl, ⟨rfl, ⟨rfl, ⟨rfl, ⟨(fun v hv => by cases hv; rfl), ⟨(fun v hv => by cases hv), ⟨(fun v hv => by cases hv), trivial⟩⟩⟩⟩⟩⟩⟩⟩⟩⟩⟩) ?_
  exact hrc27 x1 x2 x3 x4 x5 x6 (x7 + (1 : Int32)) A11 _ _ hf
set_option maxRecDepth 100000 in
set_option maxHeartbeats 4000000 in
theorem gt_158_82 {fz : Value} {sc : Nat × (Nat → Int32)} (hfz : fz = .null ∨ fz = .retAddr 60) (N : Nat) (c : Nat → aC) (R : List aC) (d : Nat) (hd : 7 ≤ d) (rc27 : Int32 → Int32 → Int32 → Int32 → Int32 → Int32 → Int32 → mS → Option (Int32 × mS)) (rc41 : Int32 → Int32 → Int32 → Int32 → Int32 → Int32 → Int32 → Int32 → Int32 → mS → Option (Int32 × mS)) (hrc27 : ∀ (x1 : Int32) (x2 : Int32) (x3 : Int32) (x4 : Int32) (x5 : Int32) (x6 : Int32) (x7 : Int32) (A : mS) (r : Int32) (A' : mS), rc27 x1 x2 x3 x4 x5 x6 x7 A = some (r, A') → v_V fz sc d 158 27 [some (.ref 22), some (.int x1), some (.int x2), some (.int x3), some (.int x4), some (.int x5), some (.int x6), some (.int x7), none, none, none] [] (hM c A R) (fun rv h' => rv = some (.int r) ∧ h' = hM c A' R)) (hrc41 : ∀ (x1 : Int32) (x2 : Int32) (x3 : Int32) (x4 : Int32) (x5 : Int32) (x6 : Int32) (x7 : Int32) (x8 : Int32) (x9 : Int32) (A : mS) (r : Int32) (A' : mS), rc41 x1 x2 x3 x4 x5 x6 x7 x8 x9 A = some (r, A') → v_V fz sc d 158 41 [some (.ref 22), some (.int x1), some (.int x2), some (.int x3), some (.int x4), some (.int x5), some (.int x6), some (.int x7), some (.int x8), some (.int x9), none] [] (hM c A R) (fun rv h' => rv = some (.int r) ∧ h' = hM c A' R)) (x1 : Int32) (x2 : Int32) (x3 : Int32) (x4 : Int32) (x5 : Int32) (x7 : Int32) (x8 : Int32) (x9 : Int32) (x10 : Int32) (t0 : Int32) (A : mS) (r : Int32) (A' : mS) (hf : g_158_82 N rc27 rc41 x1 x2 x3 x4 x5 x7 x8 x9 x10 t0 A = some (r, A')) : v_V fz sc d 158 82 [some (.ref 22), some (.int x1), some (.int x2), some (.int x3), some (.int x4), some (.int x5), none, some (.int x7), some (.int x8), some (.int x9), some (.int x10)] [(.int t0)] (hM c A R) (fun rv h' => rv = some (.int r) ∧ h' = hM c A' R) := by
  unfold g_158_82 at hf
  obtain ⟨d, rfl⟩ : ∃ z, d = z + 1 := ⟨d - 1, by omega⟩
  refine v_blk 4 (i' := (bif (a_ic .le x10 x4) then 88 else 86)) (L' := [some (.ref 22), some (.int x1), some (.int x2), some (.int x3), some (.int x4), some (.int x5), some (.int t0), some (.int x7), some (.int x8), some (.int x9), some (.int x10)]) (st' := []) (h' := (hM c A R)) (fun _ => rfl) ?_
  rcases Bool.eq_false_or_eq_true (a_ic .le x10 x4) with hb | hb
  · have hf := a_bt hb hf
    refine v_it hb ?_
    refine v_blk 4 (i' := 41) (L' := [some (.ref 22), some (.int x1), some (.int x2), some (.int x3), some (.int x4), some (.int x5), some (.int t0), some (.int x7), some (.int x8), some (.int (x9 + (1 : Int32))), some (.int x10)]) (st' := []) (h' := (hM c A R)) (fun _ => rfl) ?_
    refine v_weak (L' := [some (.ref 22), some (.int x1), some (.int x2), some (.int x3), some (.int x4), some (.int x5), some (.int t0), some (.int x7), some (.int x8), some (.int (x9 + (1 : Int32))), none]) (show a_wk [some (.ref 22), some (.int x1), some (.int x2), some (.int x3), some (.int x4), some (.int x5), some (.int t0), some (.int x7), some (.int x8), some (.int (x9 + (1 : Int32))), none] [some (.ref 22), some (.int x1), some (.int x2), some (.int x3), some (.int x4), some (.int x5), some (.int t0), some (.int x7), some (.int x8), some (.int (x9 + (1 : Int32))), some (.int x10)] from ⟨rfl, ⟨rfl, ⟨rfl, ⟨rfl, ⟨rfl, ⟨rfl, ⟨rfl, ⟨rfl, ⟨rfl, ⟨rfl, ⟨(fun v hv => by cases hv; rfl), trivial⟩⟩⟩⟩⟩⟩⟩⟩⟩⟩⟩) ?_
    exact hrc41 x1 x2 x3 x4 x5 t0 x7 x8 (x9 + (1 : Int32)) A _ _ hf
  · have hf := a_be hb hf
    refine v_ie hb ?_
    refine v_blk 5 (i' := 41) (L' := [some (.ref 22), some (.int x1), some (.int x2), some (.int x3), some (.int x10), some (.int x5), some (.int t0), some (.int x7), some (.int x8), some (.int (x9 + (1 : Int32))), some (.int x10)]) (st' := []) (h' := (hM c A R)) (fun _ => rfl) ?_
    refine v_weak (L' := [some (.ref 22), some (.int x1), some (.int x2), some (.int x3), some (.int x10), some (.int x5), some (.int t0), some (.int x7), some (.int x8), some (.int (x9 + (1 : Int32))), none]) (show a_wk [some (.ref 22), some (.int x1), some (.int x2), some (.int x3), some (.int x10), some (.int x5), some (.int t0), some (.int x7), some (.int x8), some (.int (x9 + (1 : Int32))), none] [some (.ref 22), some (.int x1), some (.int x2), some (.int x3), some (.int x10), some (.int x5), some (.int t0), some (.int x7), some (.int x8), some (.int (x9 + (1 : Int32))), some (.int x10)] from ⟨rfl, ⟨rfl, ⟨rfl, ⟨rfl, ⟨rfl, ⟨rfl, ⟨rfl, ⟨rfl, ⟨rfl, ⟨rfl, ⟨(fun v hv => by cases hv; rfl), trivial⟩⟩⟩⟩⟩⟩⟩⟩⟩⟩⟩) ?_
    exact hrc41 x1 x2 x3 x10 x5 t0 x7 x8 (x9 + (1 : Int32)) A _ _ hf
set_option maxRecDepth 100000 in
set_option maxHeartbeats 4000000 in
theorem gt_158_75 {fz : Value} {sc : Nat × (Nat → Int32)} (hfz : fz = .null ∨ fz = .retAddr 60) (N : Nat) (c : Nat → aC) (R : List aC) (d : Nat) (hd : 7 ≤ d) (rc27 : Int32 → Int32 → Int32 → Int32 → Int32 → Int32 → Int32 → mS → Option (Int32 × mS)) (rc41 : Int32 → Int32 → Int32 → Int32 → Int32 → Int32 → Int32 → Int32 → Int32 → mS → Option (Int32 × mS)) (hrc27 : ∀ (x1 : Int32) (x2 : Int32) (x3 : Int32) (x4 : Int32) (x5 : Int32) (x6 : Int32) (x7 : Int32) (A : mS) (r : Int32) (A' : mS), rc27 x1 x2 x3 x4 x5 x6 x7 A = some (r, A') → v_V fz sc d 158 27 [some (.ref 22), some (.int x1), some (.int x2), some (.int x3), some (.int x4), some (.int x5), some (.int x6), some (.int x7), none, none, none] [] (hM c A R) (fun rv h' => rv = some (.int r) ∧ h' = hM c A' R)) (hrc41 : ∀ (x1 : Int32) (x2 : Int32) (x3 : Int32) (x4 : Int32) (x5 : Int32) (x6 : Int32) (x7 : Int32) (x8 : Int32) (x9 : Int32) (A : mS) (r : Int32) (A' : mS), rc41 x1 x2 x3 x4 x5 x6 x7 x8 x9 A = some (r, A') → v_V fz sc d 158 41 [some (.ref 22), some (.int x1), some (.int x2), some (.int x3), some (.int x4), some (.int x5), some (.int x6), some (.int x7), some (.int x8), some (.int x9), none] [] (hM c A R) (fun rv h' => rv = some (.int r) ∧ h' = hM c A' R)) (x1 : Int32) (x2 : Int32) (x3 : Int32) (x4 : Int32) (x6 : Int32) (x7 : Int32) (x8 : Int32) (x9 : Int32) (x10 : Int32) (t0 : Int32) (A : mS) (r : Int32) (A' : mS) (hf : g_158_75 N rc27 rc41 x1 x2 x3 x4 x6 x7 x8 x9 x10 t0 A = some (r, A')) : v_V fz sc d 158 75 [some (.ref 22), some (.int x1), some (.int x2), some (.int x3), some (.int x4), none, some (.int x6), some (.int x7), some (.int x8), some (.int x9), some (.int x10)] [(.int t0)] (hM c A R) (fun rv h' => rv = some (.int r) ∧ h' = hM c A' R) := by
  unfold g_158_75 at hf
  obtain ⟨d, rfl⟩ : ∃ z, d = z + 1 := ⟨d - 1, by omega⟩
  refine v_blk 4 (i' := (bif (a_ic .le x10 x4) then 81 else 79)) (L' := [some (.ref 22), some (.int x1), some (.int x2), some (.int x3), some (.int x4), some (.int t0), some (.int x6), some (.int x7), some (.int x8), some (.int x9), some (.int x10)]) (st' := []) (h' := (hM c A R)) (fun _ => rfl) ?_
  rcases Bool.eq_false_or_eq_true (a_ic .le x10 x4) with hb | hb
  · have hf := a_bt hb hf
    refine v_it hb ?_
    refine v_blk 1 (i' := 82) (L' := [some (.ref 22), some (.int x1), some (.int x2), some (.int x3), some (.int x4), some (.int t0), some (.int x6), some (.int x7), some (.int x8), some (.int x9), some (.int x10)]) (st' := [(.int x6)]) (h' := (hM c A R)) (fun _ => rfl) ?_
    refine v_weak (L' := [some (.ref 22), some (.int x1), some (.int x2), some (.int x3), some (.int x4), some (.int t0), none, some (.int x7), some (.int x8), some (.int x9), some (.int x10)]) (show a_wk [some (.ref 22), some (.int x1), some (.int x2), some (.int x3), some (.int x4), some (.int t0), none, some (.int x7), some (.int x8), some (.int x9), some (.int x10)] [some (.ref 22), some (.int x1), some (.int x2), some (.int x3), some (.int x4), some (.int t0), some (.int x6), some (.int x7), some (.int x8), some (.int x9), some (.int x10)] from ⟨rfl, ⟨rfl, ⟨rfl, ⟨rfl, ⟨rfl, ⟨rfl, ⟨(fun v hv => by cases hv; rfl), ⟨rfl, ⟨rfl, ⟨rfl, ⟨rfl, trivial⟩⟩⟩⟩⟩⟩⟩⟩⟩⟩⟩) ?_
    exact gt_158_82 hfz N c R (d + 1) hd rc27 rc41 hrc27 hrc41 x1 x2 x3 x4 t0 x7 x8 x9 x10 x6 A _ _ hf
  · have hf := a_be hb hf
    refine v_ie hb ?_
    refine v_blk 2 (i' := 82) (L' := [some (.ref 22), some (.int x1), some (.int x2), some (.int x3), some (.int x4), some (.int t0), some (.int x6), some (.int x7), some (.int x8), some (.int x9), some (.int x10)]) (st' := [(.int x9)]) (h' := (hM c A R)) (fun _ => rfl) ?_
    refine v_weak (L' := [some (.ref 22), some (.int x1), some (.int x2), some (.int x3), some (.int x4), some (.int t0), none, some (.int x7), some (.int x8), some (.int x9), some (.int x10)]) (show a_wk [some (.ref 22), some (.int x1), some (.int x2), some (.int x3), some (.int x4), some (.int t0), none, some (.int x7), some (.int x8), some (.int x9), some (.int x10)] [some (.ref 22), some (.int x1), some (.int x2), some (.int x3), some (.int x4), some (.int t0), some (.int x6), some (.int x7), some (.int x8), some (.int x9), some (.int x10)] from ⟨rfl, ⟨rfl, ⟨rfl, ⟨rfl, ⟨rfl, ⟨rfl, ⟨(fun v hv => by cases hv; rfl), ⟨rfl, ⟨rfl, ⟨rfl, ⟨rfl, trivial⟩⟩⟩⟩⟩⟩⟩⟩⟩⟩⟩) ?_
    exact gt_158_82 hfz N c R (d + 1) hd rc27 rc41 hrc27 hrc41 x1 x2 x3 x4 t0 x7 x8 x9 x10 x9 A _ _ hf
set_option maxRecDepth 100000 in
set_option maxHeartbeats 4000000 in
theorem gt_158_41b {fz : Value} {sc : Nat × (Nat → Int32)} (hfz : fz = .null ∨ fz = .retAddr 60) (N : Nat) (c : Nat → aC) (R : List aC) (d : Nat) (hd : 7 ≤ d) (rc27 : Int32 → Int32 → Int32 → Int32 → Int32 → Int32 → Int32 → mS → Option (Int32 × mS)) (hrc27 : ∀ (x1 : Int32) (x2 : Int32) (x3 : Int32) (x4 : Int32) (x5 : Int32) (x6 : Int32) (x7 : Int32) (A : mS) (r : Int32) (A' : mS), rc27 x1 x2 x3 x4 x5 x6 x7 A = some (r, A') → v_V fz sc d 158 27 [some (.ref 22), some (.int x1), some (.int x2), some (.int x3), some (.int x4), some (.int x5), some (.int x6), some (.int x7), none, none, none] [] (hM c A R) (fun rv h' => rv = some (.int r) ∧ h' = hM c A' R)) (rc41 : Int32 → Int32 → Int32 → Int32 → Int32 → Int32 → Int32 → Int32 → Int32 → mS → Option (Int32 × mS)) (hrc41 : ∀ (x1 : Int32) (x2 : Int32) (x3 : Int32) (x4 : Int32) (x5 : Int32) (x6 : Int32) (x7 : Int32) (x8 : Int32) (x9 : Int32) (A : mS) (r : Int32) (A' : mS), rc41 x1 x2 x3 x4 x5 x6 x7 x8 x9 A = some (r, A') → v_V fz sc d 158 41 [some (.ref 22), some (.int x1), some (.int x2), some (.int x3), some (.int x4), some (.int x5), some (.int x6), some (.int x7), some (.int x8), some (.int x9), none] [] (hM c A R) (fun rv h' => rv = some (.int r) ∧ h' = hM c A' R)) (x1 : Int32) (x2 : Int32) (x3 : Int32) (x4 : Int32) (x5 : Int32) (x6 : Int32) (x7 : Int32) (x8 : Int32) (x9 : Int32) (A : mS) (r : Int32) (A' : mS) (hf : g_158_41b N rc27 rc41 x1 x2 x3 x4 x5 x6 x7 x8 x9 A = some (r, A')) : v_V fz sc d 158 41 [some (.ref 22), some (.int x1), some (.int x2), some (.int x3), some (.int x4), some (.int x5), some (.int x6), some (.int x7), some (.int x8), some (.int x9), none] [] (hM c A R) (fun rv h' => rv = some (.int r) ∧ h' = hM c A' R) := by
  unfold g_158_41b at hf
  obtain ⟨d, rfl⟩ : ∃ z, d = z + 1 := ⟨d - 1, by omega⟩
  refine v_blk 3 (i' := (bif (a_ic .gt x9 (40 : Int32)) then 92 else 44)) (L' := [some (.ref 22), some (.int x1), some (.int x2), some (.int x3), some (.int x4), some (.int x5), some (.int x6), some (.int x7), some (.int x8), some (.int x9), none]) (st' := []) (h' := (hM c A R)) (fun _ => rfl) ?_
  rcases Bool.eq_false_or_eq_true (a_ic .gt x9 (40 : Int32)) with hb | hb
  · have hf := a_bt hb hf
    refine v_it hb ?_
    refine v_weak (L' := [some (.ref 22), some (.int x1), some (.int x2), some (.int x3), some (.int x4), some (.int x5), some (.int x6), some (.int x7), some (.int x8), none, none]) (show a_wk [some (.ref 22), some (.int x1), some (.int x2), some (.int x3), some (.int x4), some (.int x5), some (.int x6), some (.int x7), some (.int x8), none, none] [some (.ref 22), some (.int x1), some (.int x2), some (.int x3), some (.int x4), some (.int x5), some (.int x6), some (.int x7), some (.int x8), some (.int x9), none] from ⟨rfl, ⟨rfl, ⟨rfl, ⟨rfl, ⟨rfl, ⟨rfl, ⟨rfl, ⟨rfl, ⟨rfl, ⟨(fun v hv => by cases hv; rfl), ⟨(fun v hv => by cases hv), trivial⟩⟩⟩⟩⟩⟩⟩⟩⟩⟩⟩) ?_
    exact gt_158_92 hfz N c R (d + 1) hd rc27 hrc27 x1 x2 x3 x4 x5 x6 x7 x8 A _ _ hf
  · have hf := a_be hb hf
    refine v_ie hb ?_
    obtain ⟨hg, hf⟩ := a_bif hf
    refine v_grd 7 (i' := 51) (L' := [some (.ref 22), some (.int x1), some (.int x2), some (.int x3), some (.int x4), some (.int x5), some (.int x6), some (.int x7), some (.int x8), some (.int x9), none]) (st' := [(.int ((A 0) (((3 : Int32) + x1)).toNatClampNeg)), (.int x9)]) (h' := (hM c A R)) (fun _ => rfl) hg ?_
    obtain ⟨y7, hy, hf⟩ := m_li_ok hf
    rw [hy]
    refine v_blk 1 (i' := (bif (a_ic .gt x9 y7) then 92 else 52)) (L' := [some (.ref 22), some (.int x1), some (.int x2), some (.int x3), some (.int x4), some (.int x5), some (.int x6), some (.int x7), some (.int x8), some (.int x9), none]) (st' := []) (h' := (hM c A R)) (fun _ => rfl) ?_
    rcases Bool.eq_false_or_eq_true (a_ic .gt x9 y7) with hb | hb
    · have hf := a_bt hb hf
      refine v_it hb ?_
      refine v_weak (L' := [some (.ref 22), some (.int x1), some (.int x2), some (.int x3), some (.int x4), some (.int x5), some (.int x6), some (.int x7), some (.int x8), none, none]) (show a_wk [some (.ref 22), some (.int x1), some (.int x2), some (.int x3), some (.int x4), some (.int x5), some (.int x6), some (.int x7), some (.int x8), none, none] [some (.ref 22), some (.int x1), some (.int x2), some (.int x3), some (.int x4), some (.int x5), some (.int x6), some (.int x7), some (.int x8), some (.int x9), none] from ⟨rfl, ⟨rfl, ⟨rfl, ⟨rfl, ⟨rfl, ⟨rfl, ⟨rfl, ⟨rfl, ⟨rfl, ⟨(fun v hv => by cases hv; rfl), ⟨(fun v hv => by cases hv), trivial⟩⟩⟩⟩⟩⟩⟩⟩⟩⟩⟩) ?_
      exact gt_158_92 hfz N c R (d + 1) hd rc27 hrc27 x1 x2 x3 x4 x5 x6 x7 x8 A _ _ hf
    · have hf := a_be hb hf
      refine v_ie hb ?_
      obtain ⟨hg, hf⟩ := a_bif hf
      refine v_grd 9 (i' := 61) (L' := [some (.ref 22), some (.int x1), some (.int x2), some (.int x3), some (.int x4), some (.int x5), some (.int x6), some (.int x7), some (.int x8), some (.int x9), none]) (st' := []) (h' := (hM c (va_up A 5 (upd (A 5) ((((4 : Int32) * x1) + x7)).toNatClampNeg x9)) R)) (fun _ => rfl) hg ?_
      obtain ⟨A8, hA, hf⟩ := m_st_ok hf
      rw [hA]
      obtain ⟨r9, A9, hc, hf⟩ := m_bd_ok hf
      refine v_call 2 (k' := 148) (i' := 63) (E := [some (.ref 22), none, none]) (L' := [some (.ref 22), some (.int x1), some (.int x2), some (.int x3), some (.int x4), some (.int x5), some (.int x6), some (.int x7), some (.int x8), some (.int x9), none]) (rest := []) (h1 := (hM c A8 R)) (fun _ => rfl) ?_
      refine v_post (gt_148 hfz N c R d (by omega)  A8 _ _ hc) ?_
      rintro rv h' ⟨rfl, rfl⟩
      obtain ⟨r10, A10, hc, hf⟩ := m_bd_ok hf
      refine v_call 3 (k' := 151) (i' := 66) (E := [some (.ref 22), some (.int x1)]) (L' := [some (.ref 22), some (.int x1), some (.int x2), some (.int x3), some (.int x4), some (.int x5), some (.int x6), some (.int x7), some (.int x8), some (.int x9), none]) (rest := []) (h1 := (hM c A9 R)) (fun _ => rfl) ?_
      refine v_post (gt_151 hfz N c R d (by omega) x1 A9 _ _ hc) ?_
      rintro rv h' ⟨rfl, rfl⟩
      refine v_blk 6 (i' := (bif (a_ic .le (r10 - x3) x4) then 74 else 72)) (L' := [some (.ref 22), some (.int x1), some (.int x2), some (.int x3), some (.int x4), some (.int x5), some (.int x6), some (.int x7), some (.int x8), some (.int x9), some (.int (r10 - x3))]) (st' := []) (h' := (hM c A10 R)) (fun _ => rfl) ?_
      rcases Bool.eq_false_or_eq_true (a_ic .le (r10 - x3) x4) with hb | hb
      · have hf := a_bt hb hf
        refine v_it hb ?_
        refine v_blk 1 (i' := 75) (L' := [some (.ref 22), some (.int x1), some (.int x2), some (.int x3), some (.int x4), some (.int x5), some (.int x6), some (.int x7), some (.int x8), some (.int x9), some (.int (r10 - x3))]) (st' := [(.int x5)]) (h' := (hM c A10 R)) (fun _ => rfl) ?_
        refine v_weak (L' := [some (.ref 22), some (.int x1), some (.int x2), some (.int x3), some (.int x4), none, some (.int x6), some (.int x7), some (.int x8), some (.int x9), some (.int (r10 - x3))]) (show a_wk [some (.ref 22), some (.int x1), some (.int x2), some (.int x3), some (.int x4), none, some (.int x6), some (.int x7), some (.int x8), some (.int x9), some (.int (r10 - x3))] [some (.ref 22), some (.int x1), some (.int x2), some (.int x3), some (.int x4), some (.int x5), some (.int x6), some (.int x7), some (.int x8), some (.int x9), some (.int (r10 - x3))] from ⟨rfl, ⟨rfl, ⟨rfl, ⟨rfl, ⟨rfl, ⟨(fun v hv => by cases hv; rfl), ⟨rfl, ⟨rfl, ⟨rfl, ⟨rfl, ⟨rfl, trivial⟩⟩⟩⟩⟩⟩⟩⟩⟩⟩⟩) ?_
        exact gt_158_75 hfz N c R (d + 1) hd rc27 rc41 hrc27 hrc41 x1 x2 x3 x4 x6 x7 x8 x9 (r10 - x3) x5 A10 _ _ hf
      · have hf := a_be hb hf
        refine v_ie hb ?_
        refine v_blk 2 (i' := 75) (L' := [some (.ref 22), some (.int x1), some (.int x2), some (.int x3), some (.int x4), some (.int x5), some (.int x6), some (.int x7), some (.int x8), some (.int x9), some (.int (r10 - x3))]) (st' := [(.int x7)]) (h' := (hM c A10 R)) (fun _ => rfl) ?_
        refine v_weak (L' := [some (.ref 22), some (.int x1), some (.int x2), some (.int x3), some (.int x4), none, some (.int x6), some (.int x7), some (.int x8), some (.int x9), some (.int (r10 - x3))]) (show a_wk [some (.ref 22), some (.int x1), some (.int x2), some (.int x3), some (.int x4), none, some (.int x6), some (.int x7), some (.int x8), some (.int x9), some (.int (r10 - x3))] [some (.ref 22), some (.int x1), some (.int x2), some (.int x3), some (.int x4), some (.int x5), some (.int x6), some (.int x7), some (.int x8), some (.int x9), some (.int (r10 - x3))] from ⟨rfl, ⟨rfl, ⟨rfl, ⟨rfl, ⟨rfl, ⟨(fun v hv => by cases hv; rfl), ⟨rfl, ⟨rfl, ⟨rfl, ⟨rfl, ⟨rfl, trivial⟩⟩⟩⟩⟩⟩⟩⟩⟩⟩⟩) ?_
        exact gt_158_75 hfz N c R (d + 1) hd rc27 rc41 hrc27 hrc41 x1 x2 x3 x4 x6 x7 x8 x9 (r10 - x3) x7 A10 _ _ hf
theorem gt_158_41 {fz : Value} {sc : Nat × (Nat → Int32)} (hfz : fz = .null ∨ fz = .retAddr 60) (N : Nat) (c : Nat → aC) (R : List aC) (d : Nat) (hd : 7 ≤ d) (rc27 : Int32 → Int32 → Int32 → Int32 → Int32 → Int32 → Int32 → mS → Option (Int32 × mS)) (hrc27 : ∀ (x1 : Int32) (x2 : Int32) (x3 : Int32) (x4 : Int32) (x5 : Int32) (x6 : Int32) (x7 : Int32) (A : mS) (r : Int32) (A' : mS), rc27 x1 x2 x3 x4 x5 x6 x7 A = some (r, A') → v_V fz sc d 158 27 [some (.ref 22), some (.int x1), some (.int x2), some (.int x3), some (.int x4), some (.int x5), some (.int x6), some (.int x7), none, none, none] [] (hM c A R) (fun rv h' => rv = some (.int r) ∧ h' = hM c A' R)) : ∀ (n : Nat) (x1 : Int32) (x2 : Int32) (x3 : Int32) (x4 : Int32) (x5 : Int32) (x6 : Int32) (x7 : Int32) (x8 : Int32) (x9 : Int32) (A : mS) (r : Int32) (A' : mS) (hf : g_158_41 N rc27 n x1 x2 x3 x4 x5 x6 x7 x8 x9 A = some (r, A')), v_V fz sc d 158 41 [some (.ref 22), some (.int x1), some (.int x2), some (.int x3), some (.int x4), some (.int x5), some (.int x6), some (.int x7), some (.int x8), some (.int x9), none] [] (hM c A R) (fun rv h' => rv = some (.int r) ∧ h' = hM c A' R) := by
  intro n
  induction n with
  | zero => intro x1 x2 x3 x4 x5 x6 x7 x8 x9 A r A' hf; cases hf
  | succ n ih =>
    intro x1 x2 x3 x4 x5 x6 x7 x8 x9 A r A' hf
    exact gt_158_41b hfz N c R d hd rc27 hrc27 (g_158_41 N rc27 n) ih x1 x2 x3 x4 x5 x6 x7 x8 x9 A r A' hf
set_option maxRecDepth 100000 in
set_option maxHeartbeats 4000000 in
theorem gt_158_27b {fz : Value} {sc : Nat × (Nat → Int32)} (hfz : fz = .null ∨ fz = .retAddr 60) (N : Nat) (c : Nat → aC) (R : List aC) (d : Nat) (hd : 7 ≤ d) (rc27 : Int32 → Int32 → Int32 → Int32 → Int32 → Int32 → Int32 → mS → Option (Int32 × mS)) (hrc27 : ∀ (x1 : Int32) (x2 : Int32) (x3 : Int32) (x4 : Int32) (x5 : Int32) (x6 : Int32) (x7 : Int32) (A : mS) (r : Int32) (A' : mS), rc27 x1 x2 x3 x4 x5 x6 x7 A = some (r, A') → v_V fz sc d 158 27 [some (.ref 22), some (.int x1), some (.int x2), some (.int x3), some (.int x4), some (.int x5), some (.int x6), some (.int x7), none, none, none] [] (hM c A R) (fun rv h' => rv = some (.int r) ∧ h' = hM c A' R)) (x1 : Int32) (x2 : Int32) (x3 : Int32) (x4 : Int32) (x5 : Int32) (x6 : Int32) (x7 : Int32) (A : mS) (r : Int32) (A' : mS) (hf : g_158_27b N rc27 x1 x2 x3 x4 x5 x6 x7 A = some (r, A')) : v_V fz sc d 158 27 [some (.ref 22), some (.int x1), some (.int x2), some (.int x3), some (.int x4), some (.int x5), some (.int x6), some (.int x7), none, none, none] [] (hM c A R) (fun rv h' => rv = some (.int r) ∧ h' = hM c A' R) := by
  unfold g_158_27b at hf
  obtain ⟨d, rfl⟩ : ∃ z, d = z + 1 := ⟨d - 1, by omega⟩
  refine v_blk 3 (i' := (bif (a_ic .ge x7 (4 : Int32)) then 103 else 30)) (L' := [some (.ref 22), some (.int x1), some (.int x2), some (.int x3), some (.int x4), some (.int x5), some (.int x6), some (.int x7), none, none, none]) (st' := []) (h' := (hM c A R)) (fun _ => rfl) ?_
  rcases Bool.eq_false_or_eq_true (a_ic .ge x7 (4 : Int32)) with hb | hb
  · have hf := a_bt hb hf
    refine v_it hb ?_
    refine v_blk 2 (i' := (bif (a_ic .ne x2 (0 : Int32)) then 107 else 105)) (L' := [some (.ref 22), some (.int x1), some (.int x2), some (.int x3), some (.int x4), some (.int x5), some (.int x6), some (.int x7), none, none, none]) (st' := []) (h' := (hM c A R)) (fun _ => rfl) ?_
    rcases Bool.eq_false_or_eq_true (a_ic .ne x2 (0 : Int32)) with hb | hb
    · have hf := a_bt hb hf
      refine v_it hb ?_
      refine v_blk 3 (i' := (bif (a_ic .ne x2 (1 : Int32)) then 112 else 110)) (L' := [some (.ref 22), some (.int x1), some (.int x2), some (.int x3), some (.int x4), some (.int x5), some (.int x6), some (.int x7), none, none, none]) (st' := []) (h' := (hM c A R)) (fun _ => rfl) ?_
      rcases Bool.eq_false_or_eq_true (a_ic .ne x2 (1 : Int32)) with hb | hb
      · have hf := a_bt hb hf
        refine v_it hb ?_
        obtain ⟨rfl, rfl⟩ := m_rt hf
        exact v_ret 2 (fun _ => rfl) ⟨rfl, rfl⟩
      · have hf := a_be hb hf
        refine v_ie hb ?_
        obtain ⟨rfl, rfl⟩ := m_rt hf
        exact v_ret 3 (fun _ => rfl) ⟨rfl, rfl⟩
    · have hf := a_be hb hf
      refine v_ie hb ?_
      obtain ⟨rfl, rfl⟩ := m_rt hf
      exact v_ret 3 (fun _ => rfl) ⟨rfl, rfl⟩
  · have hf := a_be hb hf
    refine v_ie hb ?_
    obtain ⟨hg, hf⟩ := a_bif hf
    refine v_grd 8 (i' := 38) (L' := [some (.ref 22), some (.int x1), some (.int x2), some (.int x3), some (.int x4), some (.int x5), some (.int x6), some (.int x7), none, none, none]) (st' := [(.int ((A 5) ((((4 : Int32) * x1) + x7)).toNatClampNeg))]) (h' := (hM c A R)) (fun _ => rfl) hg ?_
    obtain ⟨y6, hy, hf⟩ := m_li_ok hf
    rw [hy]
    refine v_blk 3 (i' := 41) (L' := [some (.ref 22), some (.int x1), some (.int x2), some (.int x3), some (.int x4), some (.int x5), some (.int x6), some (.int x7), some (.int y6), some (.int (0 : Int32)), none]) (st' := []) (h' := (hM c A R)) (fun _ => rfl) ?_
    exact gt_158_41 hfz N c R (d + 1) hd rc27 hrc27 N x1 x2 x3 x4 x5 x6 x7 y6 (0 : Int32) A _ _ hf
theorem gt_158_27 {fz : Value} {sc : Nat × (Nat → Int32)} (hfz : fz = .null ∨ fz = .retAddr 60) (N : Nat) (c : Nat → aC) (R : List aC) (d : Nat) (hd : 7 ≤ d) : ∀ (n : Nat) (x1 : Int32) (x2 : Int32) (x3 : Int32) (x4 : Int32) (x5 : Int32) (x6 : Int32) (x7 : Int32) (A : mS) (r : Int32) (A' : mS) (hf : g_158_27 N n x1 x2 x3 x4 x5 x6 x7 A = some (r, A')), v_V fz sc d 158 27 [some (.ref 22), some (.int x1), some (.int x2), some (.int x3), some (.int x4), some (.int x5), some (.int x6), some (.int x7), none, none, none] [] (hM c A R) (fun rv h' => rv = some (.int r) ∧ h' = hM c A' R) := by
  intro n
  induction n with
  | zero => intro x1 x2 x3 x4 x5 x6 x7 A r A' hf; cases hf
  | succ n ih =>
    intro x1 x2 x3 x4 x5 x6 x7 A r A' hf
    exact gt_158_27b hfz N c R d hd (g_158_27 N n) ih x1 x2 x3 x4 x5 x6 x7 A r A' hf
set_option maxRecDepth 100000 in
set_option maxHeartbeats 4000000 in
theorem gt_158 {fz : Value} {sc : Nat × (Nat → Int32)} (hfz : fz = .null ∨ fz = .retAddr 60) (N : Nat) (c : Nat → aC) (R : List aC) (d : Nat) (hd : 7 ≤ d) (x1 : Int32) (x2 : Int32) (A : mS) (r : Int32) (A' : mS) (hf : g_158 N x1 x2 A = some (r, A')) : v_V fz sc d 158 0 [some (.ref 22), some (.int x1), some (.int x2), none, none, none, none, none, none, none, none] [] (hM c A R) (fun rv h' => rv = some (.int r) ∧ h' = hM c A' R) := by
  unfold g_158 at hf
  obtain ⟨d, rfl⟩ : ∃ z, d = z + 1 := ⟨d - 1, by omega⟩
  obtain ⟨r1, A1, hc, hf⟩ := m_bd_ok hf
  refine v_call 3 (k' := 114) (i' := 3) (E := [some (.ref 22), some (.int x1)]) (L' := [some (.ref 22), some (.int x1), some (.int x2), none, none, none, none, none, none, none, none]) (rest := []) (h1 := (hM c A R)) (fun _ => rfl) ?_
  refine v_post (gt_114 hfz N c R d (by omega) x1 A _ _ hc) ?_
  rintro rv h' ⟨rfl, rfl⟩
  refine v_blk 1 (i' := (bif (a_ic .eq r1 (0 : Int32)) then 9 else 4)) (L' := [some (.ref 22), some (.int x1), some (.int x2), none, none, none, none, none, none, none, none]) (st' := []) (h' := (hM c A1 R)) (fun _ => rfl) ?_
  rcases Bool.eq_false_or_eq_true (a_ic .eq r1 (0 : Int32)) with hb | hb
  · have hf := a_bt hb hf
    refine v_it hb ?_
    obtain ⟨rfl, rfl⟩ := m_rt hf
    exact v_ret 2 (fun _ => rfl) ⟨rfl, rfl⟩
  · have hf := a_be hb hf
    refine v_ie hb ?_
    obtain ⟨r2, A2, hc, hf⟩ := m_bd_ok hf
    refine v_call 4 (k' := 112) (i' := 8) (E := [some (.int x2), some (.int (0 : Int32)), some (.int (2 : Int32))]) (L' := [some (.ref 22), some (.int x1), some (.int x2), none, none, none, none, none, none, none, none]) (rest := []) (h1 := (hM c A1 R)) (fun _ => rfl) ?_
    refine v_post (gt_112 hfz N c R d (by omega) x2 (0 : Int32) (2 : Int32) A1 _ _ hc) ?_
    rintro rv h' ⟨rfl, rfl⟩
    refine v_blk 1 (i' := (bif (a_ic .ne r2 (0 : Int32)) then 11 else 9)) (L' := [some (.ref 22), some (.int x1), some (.int x2), none, none, none, none, none, none, none, none]) (st' := []) (h' := (hM c A2 R)) (fun _ => rfl) ?_
    rcases Bool.eq_false_or_eq_true (a_ic .ne r2 (0 : Int32)) with hb | hb
    · have hf := a_bt hb hf
      refine v_it hb ?_
      obtain ⟨r3, A3, hc, hf⟩ := m_bd_ok hf
      refine v_call 2 (k' := 147) (i' := 13) (E := [some (.ref 22), none, none]) (L' := [some (.ref 22), some (.int x1), some (.int x2), none, none, none, none, none, none, none, none]) (rest := []) (h1 := (hM c A2 R)) (fun _ => rfl) ?_
      refine v_post (gt_147 hfz N c R d (by omega)  A2 _ _ hc) ?_
      rintro rv h' ⟨rfl, rfl⟩
      obtain ⟨r4, A4, hc, hf⟩ := m_bd_ok hf
      refine v_call 2 (k' := 148) (i' := 15) (E := [some (.ref 22), none, none]) (L' := [some (.ref 22), some (.int x1), some (.int x2), none, none, none, none, none, none, none, none]) (rest := []) (h1 := (hM c A3 R)) (fun _ => rfl) ?_
      refine v_post (gt_148 hfz N c R d (by omega)  A3 _ _ hc) ?_
      rintro rv h' ⟨rfl, rfl⟩
      obtain ⟨r5, A5, hc, hf⟩ := m_bd_ok hf
      refine v_call 3 (k' := 151) (i' := 18) (E := [some (.ref 22), some (.int x1)]) (L' := [some (.ref 22), some (.int x1), some (.int x2), none, none, none, none, none, none, none, none]) (rest := []) (h1 := (hM c A4 R)) (fun _ => rfl) ?_
      refine v_post (gt_151 hfz N c R d (by omega) x1 A4 _ _ hc) ?_
      rintro rv h' ⟨rfl, rfl⟩
      refine v_blk 9 (i' := 27) (L' := [some (.ref 22), some (.int x1), some (.int x2), some (.int r5), some (.int (0 : Int32)), some (.int (-5 : Int32)), some (.int (-5 : Int32)), some (.int (0 : Int32)), none, none, none]) (st' := []) (h' := (hM c A5 R)) (fun _ => rfl) ?_
      exact gt_158_27 hfz N c R (d + 1) hd N x1 x2 r5 (0 : Int32) (-5 : Int32) (-5 : Int32) (0 : Int32) A5 _ _ hf
    · have hf := a_be hb hf
      refine v_ie hb ?_
      obtain ⟨rfl, rfl⟩ := m_rt hf
      exact v_ret 2 (fun _ => rfl) ⟨rfl, rfl⟩
set_option maxRecDepth 100000 in
set_option maxHeartbeats 4000000 in
theorem gt_159 {fz : Value} {sc : Nat × (Nat → Int32)} (hfz : fz = .null ∨ fz = .retAddr 60) (N : Nat) (c : Nat → aC) (R : List aC) (d : Nat) (hd : 7 ≤ d) (x1 : Int32) (A : mS) (r : Int32) (A' : mS) (hf : g_159 N x1 A = some (r, A')) : v_V fz sc d 159 0 [some (.ref 22), some (.int x1)] [] (hM c A R) (fun rv h' => rv = some (.int r) ∧ h' = hM c A' R) := by
  unfold g_159 at hf
  obtain ⟨d, rfl⟩ : ∃ z, d = z + 1 := ⟨d - 1, by omega⟩
  obtain ⟨r1, A1, hc, hf⟩ := m_bd_ok hf
  refine v_call 3 (k' := 114) (i' := 3) (E := [some (.ref 22), some (.int x1)]) (L' := [some (.ref 22), some (.int x1)]) (rest := []) (h1 := (hM c A R)) (fun _ => rfl) ?_
  refine v_post (gt_114 hfz N c R d (by omega) x1 A _ _ hc) ?_
  rintro rv h' ⟨rfl, rfl⟩
  refine v_blk 1 (i' := (bif (a_ic .ne r1 (0 : Int32)) then 6 else 4)) (L' := [some (.ref 22), some (.int x1)]) (st' := []) (h' := (hM c A1 R)) (fun _ => rfl) ?_
  rcases Bool.eq_false_or_eq_true (a_ic .ne r1 (0 : Int32)) with hb | hb
  · have hf := a_bt hb hf
    refine v_it hb ?_
    obtain ⟨r2, A2, hc, hf⟩ := m_bd_ok hf
    refine v_call 2 (k' := 147) (i' := 8) (E := [some (.ref 22), none, none]) (L' := [some (.ref 22), some (.int x1)]) (rest := []) (h1 := (hM c A1 R)) (fun _ => rfl) ?_
    refine v_post (gt_147 hfz N c R d (by omega)  A1 _ _ hc) ?_
    rintro rv h' ⟨rfl, rfl⟩
    obtain ⟨r3, A3, hc, hf⟩ := m_bd_ok hf
    refine v_call 2 (k' := 148) (i' := 10) (E := [some (.ref 22), none, none]) (L' := [some (.ref 22), some (.int x1)]) (rest := []) (h1 := (hM c A2 R)) (fun _ => rfl) ?_
    refine v_post (gt_148 hfz N c R d (by omega)  A2 _ _ hc) ?_
    rintro rv h' ⟨rfl, rfl⟩
    obtain ⟨r4, A4, hc, hf⟩ := m_bd_ok hf
    refine v_call 3 (k' := 149) (i' := 13) (E := [some (.ref 22), some (.int x1), none, none, none]) (L' := [some (.ref 22), some (.int x1)]) (rest := []) (h1 := (hM c A3 R)) (fun _ => rfl) ?_
    refine v_post (gt_149 hfz N c R d (by omega) x1 A3 _ _ hc) ?_
    rintro rv h' ⟨rfl, rfl⟩
    obtain ⟨rfl, rfl⟩ := m_rt hf
    exact v_ret 1 (fun _ => rfl) ⟨rfl, rfl⟩
  · have hf := a_be hb hf
    refine v_ie hb ?_
    obtain ⟨rfl, rfl⟩ := m_rt hf
    exact v_ret 2 (fun _ => rfl) ⟨rfl, rfl⟩
set_option maxRecDepth 100000 in
set_option maxHeartbeats 4000000 in
theorem gt_160_105 {fz : Value} {sc : Nat × (Nat → Int32)} (hfz : fz = .null ∨ fz = .retAddr 60) (N : Nat) (c : Nat → aC) (R : List aC) (d : Nat) (hd : 7 ≤ d) (rc13 : Int32 → Int32 → Int32 → Int32 → mS → Option (Int32 × mS)) (rc23 : Int32 → Int32 → Int32 → Int32 → Int32 → mS → Option (Int32 × mS)) (hrc13 : ∀ (x1 : Int32) (x2 : Int32) (x3 : Int32) (x4 : Int32) (A : mS) (r : Int32) (A' : mS), rc13 x1 x2 x3 x4 A = some (r, A') → v_V fz sc d 160 13 [some (.ref 22), some (.int x1), some (.int x2), some (.int x3), some (.int x4), none, none, none, none] [] (hM c A R) (fun rv h' => rv = some (.int r) ∧ h' = hM c A' R)) (hrc23 : ∀ (x1 : Int32) (x2 : Int32) (x3 : Int32) (x4 : Int32) (x5 : Int32) (A : mS) (r : Int32) (A' : mS), rc23 x1 x2 x3 x4 x5 A = some (r, A') → v_V fz sc d 160 23 [some (.ref 22), some (.int x1), some (.int x2), some (.int x3), some (.int x4), some (.int x5), none, none, none] [] (hM c A R) (fun rv h' => rv = some (.int r) ∧ h' = hM c A' R)) (x1 : Int32) (x3 : Int32) (x4 : Int32) (x5 : Int32) (x7 : Int32) (t0 : Int32) (t1 : Int32) (A : mS) (r : Int32) (A' : mS) (hf : g_160_105 N rc13 rc23 x1 x3 x4 x5 x7 t0 t1 A = some (r, A')) : v_V fz sc d 160 105 [some (.ref 22), some (.int x1), none, some (.int x3), some (.int x4), some (.int x5), none, some (.int x7), none] [(.int t1), (.int t0)] (hM c A R) (fun rv h' => rv = some (.int r) ∧ h' = hM c A' R) := by
  unfold g_160_105 at hf
  obtain ⟨d, rfl⟩ : ∃ z, d = z + 1 := ⟨d - 1, by omega⟩
  refine v_blk 4 (i' := (bif (a_ic .eq x7 (0 : Int32)) then 118 else 109)) (L' := [some (.ref 22), some (.int x1), some (.int (t0 + t1)), some (.int x3), some (.int x4), some (.int x5), none, some (.int x7), none]) (st' := []) (h' := (hM c A R)) (fun _ => rfl) ?_
  rcases Bool.eq_false_or_eq_true (a_ic .eq x7 (0 : Int32)) with hb | hb
  · have hf := a_bt hb hf
    refine v_it hb ?_
    refine v_blk 4 (i' := 23) (L' := [some (.ref 22), some (.int x1), some (.int (t0 + t1)), some (.int x3), some (.int x4), some (.int (x5 + (1 : Int32))), none, some (.int x7), none]) (st' := []) (h' := (hM c A R)) (fun _ => rfl) ?_
    refine v_weak (L' := [some (.ref 22), some (.int x1), some (.int (t0 + t1)), some (.int x3), some (.int x4), some (.int (x5 + (1 : Int32))), none, none, none]) (show a_wk [some (.ref 22), some (.int x1), some (.int (t0 + t1)), some (.int x3), some (.int x4), some (.int (x5 + (1 : Int32))), none, none, none] [some (.ref 22), some (.int x1), some (.int (t0 + t1)), some (.int x3), some (.int x4), some (.int (x5 + (1 : Int32))), none, some (.int x7), none] from ⟨rfl, ⟨rfl, ⟨rfl, ⟨rfl, ⟨rfl, ⟨rfl, ⟨(fun v hv => by cases hv), ⟨(fun v hv => by cases hv; rfl), ⟨(fun v hv => by cases hv), trivial⟩⟩⟩⟩⟩⟩⟩⟩⟩) ?_
    exact hrc23 x1 (t0 + t1) x3 x4 (x5 + (1 : Int32)) A _ _ hf
  · have hf := a_be hb hf
    refine v_ie hb ?_
    refine v_blk 3 (i' := (bif (a_ic .ne x3 (-5 : Int32)) then 118 else 112)) (L' := [some (.ref 22), some (.int x1), some (.int (t0 + t1)), some (.int x3), some (.int x4), some (.int x5), none, some (.int x7), none]) (st' := []) (h' := (hM c A R)) (fun _ => rfl) ?_
    rcases Bool.eq_false_or_eq_true (a_ic .ne x3 (-5 : Int32)) with hb | hb
    · have hf := a_bt hb hf
      refine v_it hb ?_
      refine v_blk 4 (i' := 23) (L' := [some (.ref 22), some (.int x1), some (.int (t0 + t1)), some (.int x3), some (.int x4), some (.int (x5 + (1 : Int32))), none, some (.int x7), none]) (st' := []) (h' := (hM c A R)) (fun _ => rfl) ?_
      refine v_weak (L' := [some (.ref 22), some (.int x1), some (.int (t0 + t1)), some (.int x3), some (.int x4), some (.int (x5 + (1 : Int32))), none, none, none]) (show a_wk [some (.ref 22), some (.int x1), some (.int (t0 + t1)), some (.int x3), some (.int x4), some (.int (x5 + (1 : Int32))), none, none, none] [some (.ref 22), some (.int x1), some (.int (t0 + t1)), some (.int x3), some (.int x4), some (.int (x5 + (1 : Int32))), none, some (.int x7), none] from ⟨rfl, ⟨rfl, ⟨rfl, ⟨rfl, ⟨rfl, ⟨rfl, ⟨(fun v hv => by cases hv), ⟨(fun v hv => by cases hv; rfl), ⟨(fun v hv => by cases hv), trivial⟩⟩⟩⟩⟩⟩⟩⟩⟩) ?_
      exact hrc23 x1 (t0 + t1) x3 x4 (x5 + (1 : Int32)) A _ _ hf
    · have hf := a_be hb hf
      refine v_ie hb ?_
      refine v_blk 9 (i' := 23) (L' := [some (.ref 22), some (.int x1), some (.int (t0 + t1)), some (.int (((10 : Int32) * x4) + x5)), some (.int x4), some (.int (x5 + (1 : Int32))), none, some (.int x7), none]) (st' := []) (h' := (hM c A R)) (fun _ => rfl) ?_
      refine v_weak (L' := [some (.ref 22), some (.int x1), some (.int (t0 + t1)), some (.int (((10 : Int32) * x4) + x5)), some (.int x4), some (.int (x5 + (1 : Int32))), none, none, none]) (show a_wk [some (.ref 22), some (.int x1), some (.int (t0 + t1)), some (.int (((10 : Int32) * x4) + x5)), some (.int x4), some (.int (x5 + (1 : Int32))), none, none, none] [some (.ref 22), some (.int x1), some (.int (t0 + t1)), some (.int (((10 : Int32) * x4) + x5)), some (.int x4), some (.int (x5 + (1 : Int32))), none, some (.int x7), none] from ⟨rfl, ⟨rfl, ⟨rfl, ⟨rfl, ⟨rfl, ⟨rfl, ⟨(fun v hv => by cases hv), ⟨(fun v hv => by cases hv; rfl), ⟨(fun v hv => by cases hv), trivial⟩⟩⟩⟩⟩⟩⟩⟩⟩) ?_
      exact hrc23 x1 (t0 + t1) (((10 : Int32) * x4) + x5) x4 (x5 + (1 : Int32)) A _ _ hf
set_option maxRecDepth 100000 in
set_option maxHeartbeats 4000000 in
theorem gt_160_98 {fz : Value} {sc : Nat × (Nat → Int32)} (hfz : fz = .null ∨ fz = .retAddr 60) (N : Nat) (c : Nat → aC) (R : List aC) (d : Nat) (hd : 7 ≤ d) (rc13 : Int32 → Int32 → Int32 → Int32 → mS → Option (Int32 × mS)) (rc23 : Int32 → Int32 → Int32 → Int32 → Int32 → mS → Option (Int32 × mS)) (hrc13 : ∀ (x1 : Int32) (x2 : Int32) (x3 : Int32) (x4 : Int32) (A : mS) (r : Int32) (A' : mS), rc13 x1 x2 x3 x4 A = some (r, A') → v_V fz sc d 160 13 [some (.ref 22), some (.int x1), some (.int x2), some (.int x3), some (.int x4), none, none, none, none] [] (hM c A R) (fun rv h' => rv = some (.int r) ∧ h' = hM c A' R)) (hrc23 : ∀ (x1 : Int32) (x2 : Int32) (x3 : Int32) (x4 : Int32) (x5 : Int32) (A : mS) (r : Int32) (A' : mS), rc23 x1 x2 x3 x4 x5 A = some (r, A') → v_V fz sc d 160 23 [some (.ref 22), some (.int x1), some (.int x2), some (.int x3), some (.int x4), some (.int x5), none, none, none] [] (hM c A R) (fun rv h' => rv = some (.int r) ∧ h' = hM c A' R)) (x1 : Int32) (x2 : Int32) (x3 : Int32) (x4 : Int32) (x5 : Int32) (t0 : Int32) (A : mS) (r : Int32) (A' : mS) (hf : g_160_98 N rc13 rc23 x1 x2 x3 x4 x5 t0 A = some (r, A')) : v_V fz sc d 160 98 [some (.ref 22), some (.int x1), some (.int x2), some (.int x3), some (.int x4), some (.int x5), none, none, none] [(.int t0)] (hM c A R) (fun rv h' => rv = some (.int r) ∧ h' = hM c A' R) := by
  unfold g_160_98 at hf
  obtain ⟨d, rfl⟩ : ∃ z, d = z + 1 := ⟨d - 1, by omega⟩
  refine v_blk 4 (i' := (bif (a_ic .eq t0 (0 : Int32)) then 104 else 102)) (L' := [some (.ref 22), some (.int x1), some (.int x2), some (.int x3), some (.int x4), some (.int x5), none, some (.int t0), none]) (st' := [(.int x2)]) (h' := (hM c A R)) (fun _ => rfl) ?_
  rcases Bool.eq_false_or_eq_true (a_ic .eq t0 (0 : Int32)) with hb | hb
  · have hf := a_bt hb hf
    refine v_it hb ?_
    refine v_blk 1 (i' := 105) (L' := [some (.ref 22), some (.int x1), some (.int x2), some (.int x3), some (.int x4), some (.int x5), none, some (.int t0), none]) (st' := [(.int (0 : Int32)), (.int x2)]) (h' := (hM c A R)) (fun _ => rfl) ?_
    refine v_weak (L' := [some (.ref 22), some (.int x1), none, some (.int x3), some (.int x4), some (.int x5), none, some (.int t0), none]) (show a_wk [some (.ref 22), some (.int x1), none, some (.int x3), some (.int x4), some (.int x5), none, some (.int t0), none] [some (.ref 22), some (.int x1), some (.int x2), some (.int x3), some (.int x4), some (.int x5), none, some (.int t0), none] from ⟨rfl, ⟨rfl, ⟨(fun v hv => by cases hv; rfl), ⟨rfl, ⟨rfl, ⟨rfl, ⟨(fun v hv => by cases hv), ⟨rfl, ⟨(fun v hv => by cases hv), trivial⟩⟩⟩⟩⟩⟩⟩⟩⟩) ?_
    exact gt_160_105 hfz N c R (d + 1) hd rc13 rc23 hrc13 hrc23 x1 x3 x4 x5 t0 x2 (0 : Int32) A _ _ hf
  · have hf := a_be hb hf
    refine v_ie hb ?_
    refine v_blk 2 (i' := 105) (L' := [some (.ref 22), some (.int x1), some (.int x2), some (.int x3), some (.int x4), some (.int x5), none, some (.int t0), none]) (st' := [(.int (1 : Int32)), (.int x2)]) (h' := (hM c A R)) (fun _ => rfl) ?_
    refine v_weak (L' := [some (.ref 22), some (.int x1), none, some (.int x3), some (.int x4), some (.int x5), none, some (.int t0), none]) (show a_wk [some (.ref 22), some (.int x1), none, some (.int x3), some (.int x4), some (.int x5), none, some (.int t0), none] [some (.ref 22), some (.int x1), some (.int x2), some (.int x3), some (.int x4), some (.int x5), none, some (.int t0), none] from ⟨rfl, ⟨rfl, ⟨(fun v hv => by cases hv; rfl), ⟨rfl, ⟨rfl, ⟨rfl, ⟨(fun v hv => by cases hv), ⟨rfl, ⟨(fun v hv => by cases hv), trivial⟩⟩⟩⟩⟩⟩⟩⟩⟩) ?_
    exact gt_160_105 hfz N c R (d + 1) hd rc13 rc23 hrc13 hrc23 x1 x3 x4 x5 t0 x2 (1 : Int32) A _ _ hf
set_option maxRecDepth 100000 in
set_option maxHeartbeats 4000000 in
theorem gt_160_43b {fz : Value} {sc : Nat × (Nat → Int32)} (hfz : fz = .null ∨ fz = .retAddr 60) (N : Nat) (c : Nat → aC) (R : List aC) (d : Nat) (hd : 7 ≤ d) (rc13 : Int32 → Int32 → Int32 → Int32 → mS → Option (Int32 × mS)) (rc23 : Int32 → Int32 → Int32 → Int32 → Int32 → mS → Option (Int32 × mS)) (hrc13 : ∀ (x1 : Int32) (x2 : Int32) (x3 : Int32) (x4 : Int32) (A : mS) (r : Int32) (A' : mS), rc13 x1 x2 x3 x4 A = some (r, A') → v_V fz sc d 160 13 [some (.ref 22), some (.int x1), some (.int x2), some (.int x3), some (.int x4), none, none, none, none] [] (hM c A R) (fun rv h' => rv = some (.int r) ∧ h' = hM c A' R)) (hrc23 : ∀ (x1 : Int32) (x2 : Int32) (x3 : Int32) (x4 : Int32) (x5 : Int32) (A : mS) (r : Int32) (A' : mS), rc23 x1 x2 x3 x4 x5 A = some (r, A') → v_V fz sc d 160 23 [some (.ref 22), some (.int x1), some (.int x2), some (.int x3), some (.int x4), some (.int x5), none, none, none] [] (hM c A R) (fun rv h' => rv = some (.int r) ∧ h' = hM c A' R)) (rc43 : Int32 → Int32 → Int32 → Int32 → Int32 → Int32 → Int32 → mS → Option (Int32 × mS)) (hrc43 : ∀ (x1 : Int32) (x2 : Int32) (x3 : Int32) (x4 : Int32) (x5 : Int32) (x6 : Int32) (x7 : Int32) (A : mS) (r : Int32) (A' : mS), rc43 x1 x2 x3 x4 x5 x6 x7 A = some (r, A') → v_V fz sc d 160 43 [some (.ref 22), some (.int x1), some (.int x2), some (.int x3), some (.int x4), some (.int x5), some (.int x6), some (.int x7), none] [] (hM c A R) (fun rv h' => rv = some (.int r) ∧ h' = hM c A' R)) (x1 : Int32) (x2 : Int32) (x3 : Int32) (x4 : Int32) (x5 : Int32) (x6 : Int32) (x7 : Int32) (A : mS) (r : Int32) (A' : mS) (hf : g_160_43b N rc13 rc23 rc43 x1 x2 x3 x4 x5 x6 x7 A = some (r, A')) : v_V fz sc d 160 43 [some (.ref 22), some (.int x1), some (.int x2), some (.int x3), some (.int x4), some (.int x5), some (.int x6), some (.int x7), none] [] (hM c A R) (fun rv h' => rv = some (.int r) ∧ h' = hM c A' R) := by
  unfold g_160_43b at hf
  obtain ⟨d, rfl⟩ : ∃ z, d = z + 1 := ⟨d - 1, by omega⟩
  refine v_blk 3 (i' := (bif (a_ic .ge x7 (4 : Int32)) then 84 else 46)) (L' := [some (.ref 22), some (.int x1), some (.int x2), some (.int x3), some (.int x4), some (.int x5), some (.int x6), some (.int x7), none]) (st' := []) (h' := (hM c A R)) (fun _ => rfl) ?_
  rcases Bool.eq_false_or_eq_true (a_ic .ge x7 (4 : Int32)) with hb | hb
  · have hf := a_bt hb hf
    refine v_it hb ?_
    obtain ⟨r6, A6, hc, hf⟩ := m_bd_ok hf
    refine v_call 2 (k' := 148) (i' := 86) (E := [some (.ref 22), none, none]) (L' := [some (.ref 22), some (.int x1), some (.int x2), some (.int x3), some (.int x4), some (.int x5), some (.int x6), some (.int x7), none]) (rest := []) (h1 := (hM c A R)) (fun _ => rfl) ?_
    refine v_post (gt_148 hfz N c R d (by omega)  A _ _ hc) ?_
    rintro rv h' ⟨rfl, rfl⟩
    obtain ⟨r7, A7, hc, hf⟩ := m_bd_ok hf
    refine v_call 3 (k' := 151) (i' := 89) (E := [some (.ref 22), some (.int x4)]) (L' := [some (.ref 22), some (.int x1), some (.int x2), some (.int x3), some (.int x4), some (.int x5), some (.int x6), some (.int x7), none]) (rest := []) (h1 := (hM c A6 R)) (fun _ => rfl) ?_
    refine v_post (gt_151 hfz N c R d (by omega) x4 A6 _ _ hc) ?_
    rintro rv h' ⟨rfl, rfl⟩
    obtain ⟨r8, A8, hc, hf⟩ := m_bd_ok hf
    refine v_call 3 (k' := 151) (i' := 92) (E := [some (.ref 22), some (.int x5)]) (L' := [some (.ref 22), some (.int x1), some (.int x2), some (.int x3), some (.int x4), some (.int x5), some (.int x6), some (.int x7), none]) (rest := [(.int r7)]) (h1 := (hM c A7 R)) (fun _ => rfl) ?_
    refine v_post (gt_151 hfz N c R d (by omega) x5 A7 _ _ hc) ?_
    rintro rv h' ⟨rfl, rfl⟩
    refine v_blk 3 (i' := (bif (a_ic .le (r7 + r8) x6) then 97 else 95)) (L' := [some (.ref 22), some (.int x1), some (.int x2), some (.int x3), some (.int x4), some (.int x5), some (.int x6), some (.int x7), none]) (st' := []) (h' := (hM c A8 R)) (fun _ => rfl) ?_
    rcases Bool.eq_false_or_eq_true (a_ic .le (r7 + r8) x6) with hb | hb
    · have hf := a_bt hb hf
      refine v_it hb ?_
      refine v_blk 1 (i' := 98) (L' := [some (.ref 22), some (.int x1), some (.int x2), some (.int x3), some (.int x4), some (.int x5), some (.int x6), some (.int x7), none]) (st' := [(.int (0 : Int32))]) (h' := (hM c A8 R)) (fun _ => rfl) ?_
      refine v_weak (L' := [some (.ref 22), some (.int x1), some (.int x2), some (.int x3), some (.int x4), some (.int x5), none, none, none]) (show a_wk [some (.ref 22), some (.int x1), some (.int x2), some (.int x3), some (.int x4), some (.int x5), none, none, none] [some (.ref 22), some (.int x1), some (.int x2), some (.int x3), some (.int x4), some (.int x5), some (.int x6), some (.int x7), none] from ⟨rfl, ⟨rfl, ⟨rfl, ⟨rfl, ⟨rfl, ⟨rfl, ⟨(fun v hv => by cases hv; rfl), ⟨(fun v hv => by cases hv; rfl), ⟨(fun v hv => by cases hv), trivial⟩⟩⟩⟩⟩⟩⟩⟩⟩) ?_
      exact gt_160_98 hfz N c R (d + 1) hd rc13 rc23 hrc13 hrc23 x1 x2 x3 x4 x5 (0 : Int32) A8 _ _ hf
    · have hf := a_be hb hf
      refine v_ie hb ?_
      refine v_blk 2 (i' := 98) (L' := [some (.ref 22), some (.int x1), some (.int x2), some (.int x3), some (.int x4), some (.int x5), some (.int x6), some (.int x7), none]) (st' := [(.int (1 : Int32))]) (h' := (hM c A8 R)) (fun _ => rfl) ?_
      refine v_weak (L' := [some (.ref 22), some (.int x1), some (.int x2), some (.int x3), some (.int x4), some (.int x5), none, none, none]) (show a_wk [some (.ref 22), some (.int x1), some (.int x2), some (.int x3), some (.int x4), some (.int x5), none, none, none] [some (.ref 22), some (.int x1), some (.int x2), some (.int x3), some (.int x4), some (.int x5), some (.int x6), some (.int x7), none] from ⟨rfl, ⟨rfl, ⟨rfl, ⟨rfl, ⟨rfl, ⟨rfl, ⟨(fun v hv => by cases hv; rfl), ⟨(fun v hv => by cases hv; rfl), ⟨(fun v hv => by cases hv), trivial⟩⟩⟩⟩⟩⟩⟩⟩⟩) ?_
      exact gt_160_98 hfz N c R (d + 1) hd rc13 rc23 hrc13 hrc23 x1 x2 x3 x4 x5 (1 : Int32) A8 _ _ hf
  · have hf := a_be hb hf
    refine v_ie hb ?_
    obtain ⟨r9, A9, hc, hf⟩ := m_bd_ok hf
    refine v_call 4 (k' := 134) (i' := 50) (E := [some (.ref 22), some (.int x4), some (.int x7)]) (L' := [some (.ref 22), some (.int x1), some (.int x2), some (.int x3), some (.int x4), some (.int x5), some (.int x6), some (.int x7), none]) (rest := []) (h1 := (hM c A R)) (fun _ => rfl) ?_
    refine v_post (gt_134 hfz N c R d (by omega) x4 x7 A _ _ hc) ?_
    rintro rv h' ⟨rfl, rfl⟩
    obtain ⟨r10, A10, hc, hf⟩ := m_bd_ok hf
    refine v_call 4 (k' := 134) (i' := 54) (E := [some (.ref 22), some (.int x5), some (.int x7)]) (L' := [some (.ref 22), some (.int x1), some (.int x2), some (.int x3), some (.int x4), some (.int x5), some (.int x6), some (.int x7), none]) (rest := [(.int r9)]) (h1 := (hM c A9 R)) (fun _ => rfl) ?_
    refine v_post (gt_134 hfz N c R d (by omega) x5 x7 A9 _ _ hc) ?_
    rintro rv h' ⟨rfl, rfl⟩
    refine v_blk 3 (i' := 57) (L' := [some (.ref 22), some (.int x1), some (.int x2), some (.int x3), some (.int x4), some (.int x5), some (.int x6), some (.int x7), none]) (st' := [(.int ((r9 + r10) / (2 : Int32)))]) (h' := (hM c A10 R)) (fun _ => rfl) ?_
    obtain ⟨y11, hy, hf⟩ := m_li_ok hf
    rw [hy]
    obtain ⟨r12, A12, hc, hf⟩ := m_bd_ok hf
    refine v_call 12 (k' := 141) (i' := 69) (E := [some (.ref 22), some (.int x4), some (.int y11)]) (L' := [some (.ref 22), some (.int x1), some (.int x2), some (.int x3), some (.int x4), some (.int x5), some (.int x6), some (.int x7), some (.int y11)]) (rest := [(.int (((4 : Int32) * x4) + x7)), (.ref 28)]) (h1 := (hM c A10 R)) (fun _ => rfl) ?_
    refine v_post (gt_141 hfz N c R d (by omega) x4 y11 A10 _ _ hc) ?_
    rintro rv h' ⟨rfl, rfl⟩
    obtain ⟨hg, hf⟩ := a_bif hf
    refine v_grd 1 (i' := 70) (L' := [some (.ref 22), some (.int x1), some (.int x2), some (.int x3), some (.int x4), some (.int x5), some (.int x6), some (.int x7), some (.int y11)]) (st' := []) (h' := (hM c (va_up A12 5 (upd (A12 5) ((((4 : Int32) * x4) + x7)).toNatClampNeg r12)) R)) (fun _ => rfl) hg ?_
    obtain ⟨A13, hA, hf⟩ := m_st_ok hf
    rw [hA]
    obtain ⟨r14, A14, hc, hf⟩ := m_bd_ok hf
    refine v_call 11 (k' := 141) (i' := 81) (E := [some (.ref 22), some (.int x5), some (.int y11)]) (L' := [some (.ref 22), some (.int x1), some (.int x2), some (.int x3), some (.int x4), some (.int x5), some (.int x6), some (.int x7), some (.int y11)]) (rest := [(.int (((4 : Int32) * x5) + x7)), (.ref 28)]) (h1 := (hM c A13 R)) (fun _ => rfl) ?_
    refine v_post (gt_141 hfz N c R d (by omega) x5 y11 A13 _ _ hc) ?_
    rintro rv h' ⟨rfl, rfl⟩
    obtain ⟨hg, hf⟩ := a_bif hf
    refine v_grd 1 (i' := 82) (L' := [some (.ref 22), some (.int x1), some (.int x2), some (.int x3), some (.int x4), some (.int x5), some (.int x6), some (.int x7), some (.int y11)]) (st' := []) (h' := (hM c (va_up A14 5 (upd (A14 5) ((((4 : Int32) * x5) + x7)).toNatClampNeg r14)) R)) (fun _ => rfl) hg ?_
    obtain ⟨A15, hA, hf⟩ := m_st_ok hf
    rw [hA]
    refine v_blk 2 (i' := 43) (L' := [some (.ref 22), some (.int x1), some (.int x2), some (.int x3), some (.int x4), some (.int x5), some (.int x6), some (.int (x7 + (1 : Int32))), some (.int y11)]) (st' := []) (h' := (hM c A15 R)) (fun _ => rfl) ?_
    refine v_weak (L' := [some (.ref 22), some (.int x1), some (.int x2), some (.int x3), some (.int x4), some (.int x5), some (.int x6), some (.int (x7 + (1 : Int32))), none]) (show a_wk [some (.ref 22), some (.int x1), some (.int x2), some (.int x3), some (.int x4), some (.int x5), some (.int x6), some (.int (x7 + (1 : Int32))), none] [some (.ref 22), some (.int x1), some (.int x2), some (.int x3), some (.int x4), some (.int x5), some (.int x6), some (.int (x7 + (1 : Int32))), some (.int y11)] from ⟨rfl, ⟨rfl, ⟨rfl, ⟨rfl, ⟨rfl, ⟨rfl, ⟨rfl, ⟨rfl, ⟨(fun v hv => by cases hv; rfl), trivial⟩⟩⟩⟩⟩⟩⟩⟩⟩) ?_
    exact hrc43 x1 x2 x3 x4 x5 x6 (x7 + (1 : Int32)) A15 _ _ hf
theorem gt_160_43 {fz : Value} {sc : Nat × (Nat → Int32)} (hfz : fz = .null ∨ fz = .retAddr 60) (N : Nat) (c : Nat → aC) (R : List aC) (d : Nat) (hd : 7 ≤ d) (rc13 : Int32 → Int32 → Int32 → Int32 → mS → Option (Int32 × mS)) (rc23 : Int32 → Int32 → Int32 → Int32 → Int32 → mS → Option (Int32 × mS)) (hrc13 : ∀ (x1 : Int32) (x2 : Int32) (x3 : Int32) (x4 : Int32) (A : mS) (r : Int32) (A' : mS), rc13 x1 x2 x3 x4 A = some (r, A') → v_V fz sc d 160 13 [some (.ref 22), some (.int x1), some (.int x2), some (.int x3), some (.int x4), none, none, none, none] [] (hM c A R) (fun rv h' => rv = some (.int r) ∧ h' = hM c A' R)) (hrc23 : ∀ (x1 : Int32) (x2 : Int32) (x3 : Int32) (x4 : Int32) (x5 : Int32) (A : mS) (r : Int32) (A' : mS), rc23 x1 x2 x3 x4 x5 A = some (r, A') → v_V fz sc d 160 23 [some (.ref 22), some (.int x1), some (.int x2), some (.int x3), some (.int x4), some (.int x5), none, none, none] [] (hM c A R) (fun rv h' => rv = some (.int r) ∧ h' = hM c A' R)) : ∀ (n : Nat) (x1 : Int32) (x2 : Int32) (x3 : Int32) (x4 : Int32) (x5 : Int32) (x6 : Int32) (x7 : Int32) (A : mS) (r : Int32) (A' : mS) (hf : g_160_43 N rc13 rc23 n x1 x2 x3 x4 x5 x6 x7 A = some (r, A')), v_V fz sc d 160 43 [some (.ref 22), some (.int x1), some (.int x2), some (.int x3), some (.int x4), some (.int x5), some (.int x6), some (.int x7), none] [] (hM c A R) (fun rv h' => rv = some (.int r) ∧ h' = hM c A' R) := by
  intro n
  induction n with
  | zero => intro x1 x2 x3 x4 x5 x6 x7 A r A' hf; cases hf
  | succ n ih =>
    intro x1 x2 x3 x4 x5 x6 x7 A r A' hf
    exact gt_160_43b hfz N c R d hd rc13 rc23 hrc13 hrc23 (g_160_43 N rc13 rc23 n) ih x1 x2 x3 x4 x5 x6 x7 A r A' hf
set_option maxRecDepth 100000 in
set_option maxHeartbeats 4000000 in
theorem gt_160_23b {fz : Value} {sc : Nat × (Nat → Int32)} (hfz : fz = .null ∨ fz = .retAddr 60) (N : Nat) (c : Nat → aC) (R : List aC) (d : Nat) (hd : 7 ≤ d) (rc13 : Int32 → Int32 → Int32 → Int32 → mS → Option (Int32 × mS)) (hrc13 : ∀ (x1 : Int32) (x2 : Int32) (x3 : Int32) (x4 : Int32) (A : mS) (r : Int32) (A' : mS), rc13 x1 x2 x3 x4 A = some (r, A') → v_V fz sc d 160 13 [some (.ref 22), some (.int x1), some (.int x2), some (.int x3), some (.int x4), none, none, none, none] [] (hM c A R) (fun rv h' => rv = some (.int r) ∧ h' = hM c A' R)) (rc23 : Int32 → Int32 → Int32 → Int32 → Int32 → mS → Option (Int32 × mS)) (hrc23 : ∀ (x1 : Int32) (x2 : Int32) (x3 : Int32) (x4 : Int32) (x5 : Int32) (A : mS) (r : Int32) (A' : mS), rc23 x1 x2 x3 x4 x5 A = some (r, A') → v_V fz sc d 160 23 [some (.ref 22), some (.int x1), some (.int x2), some (.int x3), some (.int x4), some (.int x5), none, none, none] [] (hM c A R) (fun rv h' => rv = some (.int r) ∧ h' = hM c A' R)) (x1 : Int32) (x2 : Int32) (x3 : Int32) (x4 : Int32) (x5 : Int32) (A : mS) (r : Int32) (A' : mS) (hf : g_160_23b N rc13 rc23 x1 x2 x3 x4 x5 A = some (r, A')) : v_V fz sc d 160 23 [some (.ref 22), some (.int x1), some (.int x2), some (.int x3), some (.int x4), some (.int x5), none, none, none] [] (hM c A R) (fun rv h' => rv = some (.int r) ∧ h' = hM c A' R) := by
  unfold g_160_23b at hf
  obtain ⟨d, rfl⟩ : ∃ z, d = z + 1 := ⟨d - 1, by omega⟩
  refine v_blk 6 (i' := (bif (a_ic .ge x5 ((A 0) 11)) then 122 else 29)) (L' := [some (.ref 22), some (.int x1), some (.int x2), some (.int x3), some (.int x4), some (.int x5), none, none, none]) (st' := []) (h' := (hM c A R)) (fun _ => rfl) ?_
  rcases Bool.eq_false_or_eq_true (a_ic .ge x5 ((A 0) 11)) with hb | hb
  · have hf := a_bt hb hf
    refine v_it hb ?_
    refine v_blk 2 (i' := 13) (L' := [some (.ref 22), some (.int x1), some (.int x2), some (.int x3), some (.int (x4 + (1 : Int32))), some (.int x5), none, none, none]) (st' := []) (h' := (hM c A R)) (fun _ => rfl) ?_
    refine v_weak (L' := [some (.ref 22), some (.int x1), some (.int x2), some (.int x3), some (.int (x4 + (1 : Int32))), none, none, none, none]) (show a_wk [some (.ref 22), some (.int x1), some (.int x2), some (.int x3), some (.int (x4 + (1 : Int32))), none, none, none, none] [some (.ref 22), some (.int x1), some (.int x2), some (.int x3), some (.int (x4 + (1 : Int32))), some (.int x5), none, none, none] from ⟨rfl, ⟨rfl, ⟨rfl, ⟨rfl, ⟨rfl, ⟨(fun v hv => by cases hv; rfl), ⟨(fun v hv => by cases hv), ⟨(fun v hv => by cases hv), ⟨(fun v hv => by cases hv), trivial⟩⟩⟩⟩⟩⟩⟩⟩⟩) ?_
    exact hrc13 x1 x2 x3 (x4 + (1 : Int32)) A _ _ hf
  · have hf := a_be hb hf
    refine v_ie hb ?_
    obtain ⟨r2, A2, hc, hf⟩ := m_bd_ok hf
    refine v_call 2 (k' := 147) (i' := 31) (E := [some (.ref 22), none, none]) (L' := [some (.ref 22), some (.int x1), some (.int x2), some (.int x3), some (.int x4), some (.int x5), none, none, none]) (rest := []) (h1 := (hM c A R)) (fun _ => rfl) ?_
    refine v_post (gt_147 hfz N c R d (by omega)  A _ _ hc) ?_
    rintro rv h' ⟨rfl, rfl⟩
    obtain ⟨r3, A3, hc, hf⟩ := m_bd_ok hf
    refine v_call 2 (k' := 148) (i' := 33) (E := [some (.ref 22), none, none]) (L' := [some (.ref 22), some (.int x1), some (.int x2), some (.int x3), some (.int x4), some (.int x5), none, none, none]) (rest := []) (h1 := (hM c A2 R)) (fun _ => rfl) ?_
    refine v_post (gt_148 hfz N c R d (by omega)  A2 _ _ hc) ?_
    rintro rv h' ⟨rfl, rfl⟩
    obtain ⟨r4, A4, hc, hf⟩ := m_bd_ok hf
    refine v_call 3 (k' := 151) (i' := 36) (E := [some (.ref 22), some (.int x4)]) (L' := [some (.ref 22), some (.int x1), some (.int x2), some (.int x3), some (.int x4), some (.int x5), none, none, none]) (rest := []) (h1 := (hM c A3 R)) (fun _ => rfl) ?_
    refine v_post (gt_151 hfz N c R d (by omega) x4 A3 _ _ hc) ?_
    rintro rv h' ⟨rfl, rfl⟩
    obtain ⟨r5, A5, hc, hf⟩ := m_bd_ok hf
    refine v_call 3 (k' := 151) (i' := 39) (E := [some (.ref 22), some (.int x5)]) (L' := [some (.ref 22), some (.int x1), some (.int x2), some (.int x3), some (.int x4), some (.int x5), none, none, none]) (rest := [(.int r4)]) (h1 := (hM c A4 R)) (fun _ => rfl) ?_
    refine v_post (gt_151 hfz N c R d (by omega) x5 A4 _ _ hc) ?_
    rintro rv h' ⟨rfl, rfl⟩
    refine v_blk 4 (i' := 43) (L' := [some (.ref 22), some (.int x1), some (.int x2), some (.int x3), some (.int x4), some (.int x5), some (.int (r4 + r5)), some (.int (0 : Int32)), none]) (st' := []) (h' := (hM c A5 R)) (fun _ => rfl) ?_
    exact gt_160_43 hfz N c R (d + 1) hd rc13 rc23 hrc13 hrc23 N x1 x2 x3 x4 x5 (r4 + r5) (0 : Int32) A5 _ _ hf
theorem gt_160_23 {fz : Value} {sc : Nat × (Nat → Int32)} (hfz : fz = .null ∨ fz = .retAddr 60) (N : Nat) (c : Nat → aC) (R : List aC) (d : Nat) (hd : 7 ≤ d) (rc13 : Int32 → Int32 → Int32 → Int32 → mS → Option (Int32 × mS)) (hrc13 : ∀ (x1 : Int32) (x2 : Int32) (x3 : Int32) (x4 : Int32) (A : mS) (r : Int32) (A' : mS), rc13 x1 x2 x3 x4 A = some (r, A') → v_V fz sc d 160 13 [some (.ref 22), some (.int x1), some (.int x2), some (.int x3), some (.int x4), none, none, none, none] [] (hM c A R) (fun rv h' => rv = some (.int r) ∧ h' = hM c A' R)) : ∀ (n : Nat) (x1 : Int32) (x2 : Int32) (x3 : Int32) (x4 : Int32) (x5 : Int32) (A : mS) (r : Int32) (A' : mS) (hf : g_160_23 N rc13 n x1 x2 x3 x4 x5 A = some (r, A')), v_V fz sc d 160 23 [some (.ref 22), some (.int x1), some (.int x2), some (.int x3), some (.int x4), some (.int x5), none, none, none] [] (hM c A R) (fun rv h' => rv = some (.int r) ∧ h' = hM c A' R) := by
  intro n
  induction n with
  | zero => intro x1 x2 x3 x4 x5 A r A' hf; cases hf
  | succ n ih =>
    intro x1 x2 x3 x4 x5 A r A' hf
    exact gt_160_23b hfz N c R d hd rc13 hrc13 (g_160_23 N rc13 n) ih x1 x2 x3 x4 x5 A r A' hf
set_option maxRecDepth 100000 in
set_option maxHeartbeats 4000000 in
theorem gt_160_13b {fz : Value} {sc : Nat × (Nat → Int32)} (hfz : fz = .null ∨ fz = .retAddr 60) (N : Nat) (c : Nat → aC) (R : List aC) (d : Nat) (hd : 7 ≤ d) (rc13 : Int32 → Int32 → Int32 → Int32 → mS → Option (Int32 × mS)) (hrc13 : ∀ (x1 : Int32) (x2 : Int32) (x3 : Int32) (x4 : Int32) (A : mS) (r : Int32) (A' : mS), rc13 x1 x2 x3 x4 A = some (r, A') → v_V fz sc d 160 13 [some (.ref 22), some (.int x1), some (.int x2), some (.int x3), some (.int x4), none, none, none, none] [] (hM c A R) (fun rv h' => rv = some (.int r) ∧ h' = hM c A' R)) (x1 : Int32) (x2 : Int32) (x3 : Int32) (x4 : Int32) (A : mS) (r : Int32) (A' : mS) (hf : g_160_13b N rc13 x1 x2 x3 x4 A = some (r, A')) : v_V fz sc d 160 13 [some (.ref 22), some (.int x1), some (.int x2), some (.int x3), some (.int x4), none, none, none, none] [] (hM c A R) (fun rv h' => rv = some (.int r) ∧ h' = hM c A' R) := by
  unfold g_160_13b at hf
  obtain ⟨d, rfl⟩ : ∃ z, d = z + 1 := ⟨d - 1, by omega⟩
  refine v_blk 6 (i' := (bif (a_ic .ge x4 ((A 0) 11)) then 124 else 19)) (L' := [some (.ref 22), some (.int x1), some (.int x2), some (.int x3), some (.int x4), none, none, none, none]) (st' := []) (h' := (hM c A R)) (fun _ => rfl) ?_
  rcases Bool.eq_false_or_eq_true (a_ic .ge x4 ((A 0) 11)) with hb | hb
  · have hf := a_bt hb hf
    refine v_it hb ?_
    refine v_blk 2 (i' := (bif (a_ic .ne x1 (0 : Int32)) then 128 else 126)) (L' := [some (.ref 22), some (.int x1), some (.int x2), some (.int x3), some (.int x4), none, none, none, none]) (st' := []) (h' := (hM c A R)) (fun _ => rfl) ?_
    rcases Bool.eq_false_or_eq_true (a_ic .ne x1 (0 : Int32)) with hb | hb
    · have hf := a_bt hb hf
      refine v_it hb ?_
      obtain ⟨rfl, rfl⟩ := m_rt hf
      exact v_ret 2 (fun _ => rfl) ⟨rfl, rfl⟩
    · have hf := a_be hb hf
      refine v_ie hb ?_
      obtain ⟨rfl, rfl⟩ := m_rt hf
      exact v_ret 3 (fun _ => rfl) ⟨rfl, rfl⟩
  · have hf := a_be hb hf
    refine v_ie hb ?_
    refine v_blk 4 (i' := 23) (L' := [some (.ref 22), some (.int x1), some (.int x2), some (.int x3), some (.int x4), some (.int (x4 + (1 : Int32))), none, none, none]) (st' := []) (h' := (hM c A R)) (fun _ => rfl) ?_
    exact gt_160_23 hfz N c R (d + 1) hd rc13 hrc13 N x1 x2 x3 x4 (x4 + (1 : Int32)) A _ _ hf
theorem gt_160_13 {fz : Value} {sc : Nat × (Nat → Int32)} (hfz : fz = .null ∨ fz = .retAddr 60) (N : Nat) (c : Nat → aC) (R : List aC) (d : Nat) (hd : 7 ≤ d) : ∀ (n : Nat) (x1 : Int32) (x2 : Int32) (x3 : Int32) (x4 : Int32) (A : mS) (r : Int32) (A' : mS) (hf : g_160_13 N n x1 x2 x3 x4 A = some (r, A')), v_V fz sc d 160 13 [some (.ref 22), some (.int x1), some (.int x2), some (.int x3), some (.int x4), none, none, none, none] [] (hM c A R) (fun rv h' => rv = some (.int r) ∧ h' = hM c A' R) := by
  intro n
  induction n with
  | zero => intro x1 x2 x3 x4 A r A' hf; cases hf
  | succ n ih =>
    intro x1 x2 x3 x4 A r A' hf
    exact gt_160_13b hfz N c R d hd (g_160_13 N n) ih x1 x2 x3 x4 A r A' hf
set_option maxRecDepth 100000 in
set_option maxHeartbeats 4000000 in
theorem gt_160 {fz : Value} {sc : Nat × (Nat → Int32)} (hfz : fz = .null ∨ fz = .retAddr 60) (N : Nat) (c : Nat → aC) (R : List aC) (d : Nat) (hd : 7 ≤ d) (x1 : Int32) (A : mS) (r : Int32) (A' : mS) (hf : g_160 N x1 A = some (r, A')) : v_V fz sc d 160 0 [some (.ref 22), some (.int x1), none, none, none, none, none, none, none] [] (hM c A R) (fun rv h' => rv = some (.int r) ∧ h' = hM c A' R) := by
  unfold g_160 at hf
  obtain ⟨d, rfl⟩ : ∃ z, d = z + 1 := ⟨d - 1, by omega⟩
  obtain ⟨r1, A1, hc, hf⟩ := m_bd_ok hf
  refine v_call 4 (k' := 112) (i' := 4) (E := [some (.int x1), some (.int (0 : Int32)), some (.int (1 : Int32))]) (L' := [some (.ref 22), some (.int x1), none, none, none, none, none, none, none]) (rest := []) (h1 := (hM c A R)) (fun _ => rfl) ?_
  refine v_post (gt_112 hfz N c R d (by omega) x1 (0 : Int32) (1 : Int32) A _ _ hc) ?_
  rintro rv h' ⟨rfl, rfl⟩
  refine v_blk 1 (i' := (bif (a_ic .ne r1 (0 : Int32)) then 7 else 5)) (L' := [some (.ref 22), some (.int x1), none, none, none, none, none, none, none]) (st' := []) (h' := (hM c A1 R)) (fun _ => rfl) ?_
  rcases Bool.eq_false_or_eq_true (a_ic .ne r1 (0 : Int32)) with hb | hb
  · have hf := a_bt hb hf
    refine v_it hb ?_
    refine v_blk 6 (i' := 13) (L' := [some (.ref 22), some (.int x1), some (.int (0 : Int32)), some (.int (-5 : Int32)), some (.int (0 : Int32)), none, none, none, none]) (st' := []) (h' := (hM c A1 R)) (fun _ => rfl) ?_
    exact gt_160_13 hfz N c R (d + 1) hd N x1 (0 : Int32) (-5 : Int32) (0 : Int32) A1 _ _ hf
  · have hf := a_be hb hf
    refine v_ie hb ?_
    obtain ⟨rfl, rfl⟩ := m_rt hf
    exact v_ret 2 (fun _ => rfl) ⟨rfl, rfl⟩
set_option maxRecDepth 100000 in
set_option maxHeartbeats 4000000 in
theorem gt_161 {fz : Value} {sc : Nat × (Nat → Int32)} (hfz : fz = .null ∨ fz = .retAddr 60) (N : Nat) (c : Nat → aC) (R : List aC) (d : Nat) (hd : 2 ≤ d) (x1 : Int32) (A : mS) (r : Int32) (A' : mS) (hf : g_161 N x1 A = some (r, A')) : v_V fz sc d 161 0 [some (.ref 22), some (.int x1)] [] (hM c A R) (fun rv h' => rv = some (.int r) ∧ h' = hM c A' R) := by
  unfold g_161 at hf
  obtain ⟨d, rfl⟩ : ∃ z, d = z + 1 := ⟨d - 1, by omega⟩
  refine v_blk 3 (i' := (bif (a_ic .ne x1 (-1 : Int32)) then 10 else 3)) (L' := [some (.ref 22), some (.int x1)]) (st' := []) (h' := (hM c A R)) (fun _ => rfl) ?_
  rcases Bool.eq_false_or_eq_true (a_ic .ne x1 (-1 : Int32)) with hb | hb
  · have hf := a_bt hb hf
    refine v_it hb ?_
    obtain ⟨r1, A1, hc, hf⟩ := m_bd_ok hf
    refine v_call 2 (k' := 113) (i' := 12) (E := [some (.int x1)]) (L' := [some (.ref 22), some (.int x1)]) (rest := []) (h1 := (hM c A R)) (fun _ => rfl) ?_
    refine v_post (gt_113 hfz N c R d (by omega) x1 A _ _ hc) ?_
    rintro rv h' ⟨rfl, rfl⟩
    refine v_blk 1 (i' := (bif (a_ic .ne r1 (0 : Int32)) then 15 else 13)) (L' := [some (.ref 22), some (.int x1)]) (st' := []) (h' := (hM c A1 R)) (fun _ => rfl) ?_
    rcases Bool.eq_false_or_eq_true (a_ic .ne r1 (0 : Int32)) with hb | hb
    · have hf := a_bt hb hf
      refine v_it hb ?_
      refine v_blk 6 (i' := (bif (a_ic .ne ((A1 0) 14) (20 : Int32)) then 23 else 21)) (L' := [some (.ref 22), some (.int x1)]) (st' := []) (h' := (hM c A1 R)) (fun _ => rfl) ?_
      rcases Bool.eq_false_or_eq_true (a_ic .ne ((A1 0) 14) (20 : Int32)) with hb | hb
      · have hf := a_bt hb hf
        refine v_it hb ?_
        obtain ⟨hg, hf⟩ := a_bif hf
        refine v_grd 10 (i' := 33) (L' := [some (.ref 22), some (.int x1)]) (st' := []) (h' := (hM c (va_up A1 0 (upd (A1 0) (((200 : Int32) + ((A1 0) 14))).toNatClampNeg x1)) R)) (fun _ => rfl) hg ?_
        obtain ⟨A2, hA, hf⟩ := m_st_ok hf
        rw [hA]
        obtain ⟨rfl, rfl⟩ := m_rt hf
        exact v_ret 13 (fun _ => rfl) ⟨rfl, rfl⟩
      · have hf := a_be hb hf
        refine v_ie hb ?_
        obtain ⟨rfl, rfl⟩ := m_rt hf
        exact v_ret 2 (fun _ => rfl) ⟨rfl, rfl⟩
    · have hf := a_be hb hf
      refine v_ie hb ?_
      obtain ⟨rfl, rfl⟩ := m_rt hf
      exact v_ret 2 (fun _ => rfl) ⟨rfl, rfl⟩
  · have hf := a_be hb hf
    refine v_ie hb ?_
    obtain ⟨rfl, rfl⟩ := m_rt hf
    exact v_ret 7 (fun _ => rfl) ⟨rfl, rfl⟩
set_option maxRecDepth 100000 in
set_option maxHeartbeats 4000000 in
theorem gt_162_21b {fz : Value} {sc : Nat × (Nat → Int32)} (hfz : fz = .null ∨ fz = .retAddr 60) (N : Nat) (c : Nat → aC) (R : List aC) (d : Nat) (hd : 8 ≤ d) (rc21 : Int32 → Int32 → Int32 → Int32 → mS → Option (Int32 × mS)) (hrc21 : ∀ (x1 : Int32) (x2 : Int32) (x3 : Int32) (x4 : Int32) (A : mS) (r : Int32) (A' : mS), rc21 x1 x2 x3 x4 A = some (r, A') → v_V fz sc d 162 21 [some (.ref 22), some (.int x1), some (.int x2), some (.int x3), some (.int x4)] [] (hM c A R) (fun rv h' => rv = some (.int r) ∧ h' = hM c A' R)) (x1 : Int32) (x2 : Int32) (x3 : Int32) (x4 : Int32) (A : mS) (r : Int32) (A' : mS) (hf : g_162_21b N rc21 x1 x2 x3 x4 A = some (r, A')) : v_V fz sc d 162 21 [some (.ref 22), some (.int x1), some (.int x2), some (.int x3), some (.int x4)] [] (hM c A R) (fun rv h' => rv = some (.int r) ∧ h' = hM c A' R) := by
  unfold g_162_21b at hf
  obtain ⟨d, rfl⟩ : ∃ z, d = z + 1 := ⟨d - 1, by omega⟩
  refine v_blk 3 (i' := (bif (a_ic .ge x4 x1) then 54 else 24)) (L' := [some (.ref 22), some (.int x1), some (.int x2), some (.int x3), some (.int x4)]) (st' := []) (h' := (hM c A R)) (fun _ => rfl) ?_
  rcases Bool.eq_false_or_eq_true (a_ic .ge x4 x1) with hb | hb
  · have hf := a_bt hb hf
    refine v_it hb ?_
    obtain ⟨r4, A4, hc, hf⟩ := m_bd_ok hf
    refine v_call 2 (k' := 116) (i' := 56) (E := [some (.ref 22), none]) (L' := [some (.ref 22), some (.int x1), some (.int x2), some (.int x3), some (.int x4)]) (rest := []) (h1 := (hM c A R)) (fun _ => rfl) ?_
    refine v_post (gt_116 hfz N c R d (by omega)  A _ _ hc) ?_
    rintro rv h' ⟨rfl, rfl⟩
    obtain ⟨rfl, rfl⟩ := m_rt hf
    exact v_ret 5 (fun _ => rfl) ⟨rfl, rfl⟩
  · have hf := a_be hb hf
    refine v_ie hb ?_
    obtain ⟨r5, A5, hc, hf⟩ := m_bd_ok hf
    refine v_call 2 (k' := 152) (i' := 26) (E := [some (.ref 22), none, none, none]) (L' := [some (.ref 22), some (.int x1), some (.int x2), some (.int x3), some (.int x4)]) (rest := []) (h1 := (hM c A R)) (fun _ => rfl) ?_
    refine v_post (gt_152 hfz N c R d (by omega)  A _ _ hc) ?_
    rintro rv h' ⟨rfl, rfl⟩
    refine v_blk 7 (i' := (bif (a_ic .ge x4 ((A5 0) 14)) then 49 else 33)) (L' := [some (.ref 22), some (.int x1), some (.int x2), some (.int x3), some (.int x4)]) (st' := [(.int x3)]) (h' := (hM c A5 R)) (fun _ => rfl) ?_
    rcases Bool.eq_false_or_eq_true (a_ic .ge x4 ((A5 0) 14)) with hb | hb
    · have hf := a_bt hb hf
      refine v_it hb ?_
      refine v_blk 5 (i' := 21) (L' := [some (.ref 22), some (.int x1), some (.int x2), some (.int (x3 + (0 : Int32))), some (.int (x4 + (1 : Int32)))]) (st' := []) (h' := (hM c A5 R)) (fun _ => rfl) ?_
      exact hrc21 x1 x2 (x3 + (0 : Int32)) (x4 + (1 : Int32)) A5 _ _ hf
    · have hf := a_be hb hf
      refine v_ie hb ?_
      obtain ⟨hg, hf⟩ := a_bif hf
      refine v_grd 6 (i' := 39) (L' := [some (.ref 22), some (.int x1), some (.int x2), some (.int x3), some (.int x4)]) (st' := [(.int ((A5 0) (((200 : Int32) + x4)).toNatClampNeg)), (.int x3)]) (h' := (hM c A5 R)) (fun _ => rfl) hg ?_
      obtain ⟨y6, hy, hf⟩ := m_li_ok hf
      rw [hy]
      refine v_blk 3 (i' := (bif (a_ic .ne y6 (A5 99 14)) then 49 else 42)) (L' := [some (.ref 22), some (.int x1), some (.int x2), some (.int x3), some (.int x4)]) (st' := [(.int x3)]) (h' := (hM c A5 R)) (fun _ => rfl) ?_
      rcases Bool.eq_false_or_eq_true (a_ic .ne y6 (A5 99 14)) with hb | hb
      · have hf := a_bt hb hf
        refine v_it hb ?_
        refine v_blk 5 (i' := 21) (L' := [some (.ref 22), some (.int x1), some (.int x2), some (.int (x3 + (0 : Int32))), some (.int (x4 + (1 : Int32)))]) (st' := []) (h' := (hM c A5 R)) (fun _ => rfl) ?_
        exact hrc21 x1 x2 (x3 + (0 : Int32)) (x4 + (1 : Int32)) A5 _ _ hf
      · have hf := a_be hb hf
        refine v_ie hb ?_
        refine v_blk 11 (i' := 21) (L' := [some (.ref 22), some (.int x1), some (.int x2), some (.int (x3 + (x2 * ((A5 0) 11)))), some (.int (x4 + (1 : Int32)))]) (st' := []) (h' := (hM c A5 R)) (fun _ => rfl) ?_
        exact hrc21 x1 x2 (x3 + (x2 * ((A5 0) 11))) (x4 + (1 : Int32)) A5 _ _ hf
theorem gt_162_21 {fz : Value} {sc : Nat × (Nat → Int32)} (hfz : fz = .null ∨ fz = .retAddr 60) (N : Nat) (c : Nat → aC) (R : List aC) (d : Nat) (hd : 8 ≤ d) : ∀ (n : Nat) (x1 : Int32) (x2 : Int32) (x3 : Int32) (x4 : Int32) (A : mS) (r : Int32) (A' : mS) (hf : g_162_21 N n x1 x2 x3 x4 A = some (r, A')), v_V fz sc d 162 21 [some (.ref 22), some (.int x1), some (.int x2), some (.int x3), some (.int x4)] [] (hM c A R) (fun rv h' => rv = some (.int r) ∧ h' = hM c A' R) := by
  intro n
  induction n with
  | zero => intro x1 x2 x3 x4 A r A' hf; cases hf
  | succ n ih =>
    intro x1 x2 x3 x4 A r A' hf
    exact gt_162_21b hfz N c R d hd (g_162_21 N n) ih x1 x2 x3 x4 A r A' hf
set_option maxRecDepth 100000 in
set_option maxHeartbeats 4000000 in
theorem gt_162 {fz : Value} {sc : Nat × (Nat → Int32)} (hfz : fz = .null ∨ fz = .retAddr 60) (N : Nat) (c : Nat → aC) (R : List aC) (d : Nat) (hd : 8 ≤ d) (x1 : Int32) (x2 : Int32) (A : mS) (r : Int32) (A' : mS) (hf : g_162 N x1 x2 A = some (r, A')) : v_V fz sc d 162 0 [some (.ref 22), some (.int x1), some (.int x2), none, none] [] (hM c A R) (fun rv h' => rv = some (.int r) ∧ h' = hM c A' R) := by
  unfold g_162 at hf
  obtain ⟨d, rfl⟩ : ∃ z, d = z + 1 := ⟨d - 1, by omega⟩
  obtain ⟨r1, A1, hc, hf⟩ := m_bd_ok hf
  refine v_call 4 (k' := 112) (i' := 4) (E := [some (.int x1), some (.int (1 : Int32)), some (.int (40 : Int32))]) (L' := [some (.ref 22), some (.int x1), some (.int x2), none, none]) (rest := []) (h1 := (hM c A R)) (fun _ => rfl) ?_
  refine v_post (gt_112 hfz N c R d (by omega) x1 (1 : Int32) (40 : Int32) A _ _ hc) ?_
  rintro rv h' ⟨rfl, rfl⟩
  refine v_blk 1 (i' := (bif (a_ic .eq r1 (0 : Int32)) then 10 else 5)) (L' := [some (.ref 22), some (.int x1), some (.int x2), none, none]) (st' := []) (h' := (hM c A1 R)) (fun _ => rfl) ?_
  rcases Bool.eq_false_or_eq_true (a_ic .eq r1 (0 : Int32)) with hb | hb
  · have hf := a_bt hb hf
    refine v_it hb ?_
    obtain ⟨rfl, rfl⟩ := m_rt hf
    exact v_ret 2 (fun _ => rfl) ⟨rfl, rfl⟩
  · have hf := a_be hb hf
    refine v_ie hb ?_
    obtain ⟨r2, A2, hc, hf⟩ := m_bd_ok hf
    refine v_call 4 (k' := 112) (i' := 9) (E := [some (.int x2), some (.int (0 : Int32)), some (.int (99 : Int32))]) (L' := [some (.ref 22), some (.int x1), some (.int x2), none, none]) (rest := []) (h1 := (hM c A1 R)) (fun _ => rfl) ?_
    refine v_post (gt_112 hfz N c R d (by omega) x2 (0 : Int32) (99 : Int32) A1 _ _ hc) ?_
    rintro rv h' ⟨rfl, rfl⟩
    refine v_blk 1 (i' := (bif (a_ic .ne r2 (0 : Int32)) then 12 else 10)) (L' := [some (.ref 22), some (.int x1), some (.int x2), none, none]) (st' := []) (h' := (hM c A2 R)) (fun _ => rfl) ?_
    rcases Bool.eq_false_or_eq_true (a_ic .ne r2 (0 : Int32)) with hb | hb
    · have hf := a_bt hb hf
      refine v_it hb ?_
      obtain ⟨r3, A3, hc, hf⟩ := m_bd_ok hf
      refine v_call 2 (k' := 115) (i' := 14) (E := [some (.ref 22), none]) (L' := [some (.ref 22), some (.int x1), some (.int x2), none, none]) (rest := []) (h1 := (hM c A2 R)) (fun _ => rfl) ?_
      refine v_post (gt_115 hfz N c R d (by omega)  A2 _ _ hc) ?_
      rintro rv h' ⟨rfl, rfl⟩
      refine v_blk 7 (i' := 21) (L' := [some (.ref 22), some (.int x1), some (.int x2), some (.int (0 : Int32)), some (.int (0 : Int32))]) (st' := []) (h' := (hM c (va_up A3 99 (upd (A3 99) 16 (0 : Int32))) R)) (fun _ => rfl) ?_
      exact gt_162_21 hfz N c R (d + 1) hd N x1 x2 (0 : Int32) (0 : Int32) (va_up A3 99 (upd (A3 99) 16 (0 : Int32))) _ _ hf
    · have hf := a_be hb hf
      refine v_ie hb ?_
      obtain ⟨rfl, rfl⟩ := m_rt hf
      exact v_ret 2 (fun _ => rfl) ⟨rfl, rfl⟩
set_option maxRecDepth 100000 in
set_option maxHeartbeats 4000000 in
theorem gt_163_117 {fz : Value} {sc : Nat × (Nat → Int32)} (hfz : fz = .null ∨ fz = .retAddr 60) (N : Nat) (c : Nat → aC) (R : List aC) (d : Nat) (hd : 8 ≤ d) (rc99 : Int32 → Int32 → Int32 → Int32 → Int32 → mS → Option (Int32 × mS)) (hrc99 : ∀ (x2 : Int32) (x3 : Int32) (x4 : Int32) (x5 : Int32) (x6 : Int32) (A : mS) (r : Int32) (A' : mS), rc99 x2 x3 x4 x5 x6 A = some (r, A') → v_V fz sc d 163 99 [some (.ref 22), none, some (.int x2), some (.int x3), some (.int x4), some (.int x5), some (.int x6), none, none] [] (hM c A R) (fun rv h' => rv = some (.int r) ∧ h' = hM c A' R)) (x2 : Int32) (x3 : Int32) (x5 : Int32) (x6 : Int32) (t0 : Int32) (A : mS) (r : Int32) (A' : mS) (hf : g_163_117 N rc99 x2 x3 x5 x6 t0 A = some (r, A')) : v_V fz sc d 163 117 [some (.ref 22), none, some (.int x2), some (.int x3), none, some (.int x5), some (.int x6), none, none] [(.int t0)] (hM c A R) (fun rv h' => rv = some (.int r) ∧ h' = hM c A' R) := by
  unfold g_163_117 at hf
  obtain ⟨d, rfl⟩ : ∃ z, d = z + 1 := ⟨d - 1, by omega⟩
  obtain ⟨hg, hf⟩ := a_bif hf
  refine v_grd 5 (i' := 122) (L' := [some (.ref 22), none, some (.int x2), some (.int x3), some (.int t0), some (.int x5), some (.int x6), none, none]) (st' := [(.int ((A 8) (x6).toNatClampNeg))]) (h' := (hM c A R)) (fun _ => rfl) hg ?_
  obtain ⟨y13, hy, hf⟩ := m_li_ok hf
  rw [hy]
  refine v_blk 2 (i' := (bif (a_ic .ge y13 x5) then 129 else 124)) (L' := [some (.ref 22), none, some (.int x2), some (.int x3), some (.int t0), some (.int x5), some (.int x6), none, none]) (st' := []) (h' := (hM c A R)) (fun _ => rfl) ?_
  rcases Bool.eq_false_or_eq_true (a_ic .ge y13 x5) with hb | hb
  · have hf := a_bt hb hf
    refine v_it hb ?_
    refine v_blk 4 (i' := 99) (L' := [some (.ref 22), none, some (.int x2), some (.int x3), some (.int t0), some (.int x5), some (.int (x6 + (1 : Int32))), none, none]) (st' := []) (h' := (hM c A R)) (fun _ => rfl) ?_
    exact hrc99 x2 x3 t0 x5 (x6 + (1 : Int32)) A _ _ hf
  · have hf := a_be hb hf
    refine v_ie hb ?_
    obtain ⟨hg, hf⟩ := a_bif hf
    refine v_grd 4 (i' := 128) (L' := [some (.ref 22), none, some (.int x2), some (.int x3), some (.int t0), some (.int x5), some (.int x6), none, none]) (st' := [(.int ((A 8) (x6).toNatClampNeg))]) (h' := (hM c A R)) (fun _ => rfl) hg ?_
    obtain ⟨y14, hy, hf⟩ := m_li_ok hf
    rw [hy]
    refine v_blk 4 (i' := 99) (L' := [some (.ref 22), none, some (.int x2), some (.int x3), some (.int t0), some (.int y14), some (.int (x6 + (1 : Int32))), none, none]) (st' := []) (h' := (hM c A R)) (fun _ => rfl) ?_
    exact hrc99 x2 x3 t0 y14 (x6 + (1 : Int32)) A _ _ hf
set_option maxRecDepth 100000 in
set_option maxHeartbeats 4000000 in
theorem gt_163_99b {fz : Value} {sc : Nat × (Nat → Int32)} (hfz : fz = .null ∨ fz = .retAddr 60) (N : Nat) (c : Nat → aC) (R : List aC) (d : Nat) (hd : 8 ≤ d) (rc99 : Int32 → Int32 → Int32 → Int32 → Int32 → mS → Option (Int32 × mS)) (hrc99 : ∀ (x2 : Int32) (x3 : Int32) (x4 : Int32) (x5 : Int32) (x6 : Int32) (A : mS) (r : Int32) (A' : mS), rc99 x2 x3 x4 x5 x6 A = some (r, A') → v_V fz sc d 163 99 [some (.ref 22), none, some (.int x2), some (.int x3), some (.int x4), some (.int x5), some (.int x6), none, none] [] (hM c A R) (fun rv h' => rv = some (.int r) ∧ h' = hM c A' R)) (x2 : Int32) (x3 : Int32) (x4 : Int32) (x5 : Int32) (x6 : Int32) (A : mS) (r : Int32) (A' : mS) (hf : g_163_99b N rc99 x2 x3 x4 x5 x6 A = some (r, A')) : v_V fz sc d 163 99 [some (.ref 22), none, some (.int x2), some (.int x3), some (.int x4), some (.int x5), some (.int x6), none, none] [] (hM c A R) (fun rv h' => rv = some (.int r) ∧ h' = hM c A' R) := by
  unfold g_163_99b at hf
  obtain ⟨d, rfl⟩ : ∃ z, d = z + 1 := ⟨d - 1, by omega⟩
  refine v_blk 6 (i' := (bif (a_ic .ge x6 ((A 0) 11)) then 133 else 105)) (L' := [some (.ref 22), none, some (.int x2), some (.int x3), some (.int x4), some (.int x5), some (.int x6), none, none]) (st' := []) (h' := (hM c A R)) (fun _ => rfl) ?_
  rcases Bool.eq_false_or_eq_true (a_ic .ge x6 ((A 0) 11)) with hb | hb
  · have hf := a_bt hb hf
    refine v_it hb ?_
    refine v_blk 2 (i' := (bif (a_ic .ne x2 (0 : Int32)) then 148 else 135)) (L' := [some (.ref 22), none, some (.int x2), some (.int x3), some (.int x4), some (.int x5), some (.int x6), none, none]) (st' := []) (h' := (hM c A R)) (fun _ => rfl) ?_
    rcases Bool.eq_false_or_eq_true (a_ic .ne x2 (0 : Int32)) with hb | hb
    · have hf := a_bt hb hf
      refine v_it hb ?_
      obtain ⟨rfl, rfl⟩ := m_rt hf
      exact v_ret 4 (fun _ => rfl) ⟨rfl, rfl⟩
    · have hf := a_be hb hf
      refine v_ie hb ?_
      refine v_blk 11 (i' := 146) (L' := [some (.ref 22), none, some (.int x2), some (.int x3), some (.int x4), some (.int x5), some (.int x6), none, none]) (st' := [(.int (x3 ^^^ (-1 : Int32))), (.int (((1 : Int32) <<< (((A 0) 11) &&& 31)) - (1 : Int32)))]) (h' := (hM c A R)) (fun _ => rfl) ?_
      obtain ⟨y7, hy, hf⟩ := m_li_ok hf
      rw [hy]
      obtain ⟨rfl, rfl⟩ := m_rt hf
      exact v_ret 3 (fun _ => rfl) ⟨rfl, rfl⟩
  · have hf := a_be hb hf
    refine v_ie hb ?_
    obtain ⟨hg, hf⟩ := a_bif hf
    refine v_grd 4 (i' := 109) (L' := [some (.ref 22), none, some (.int x2), some (.int x3), some (.int x4), some (.int x5), some (.int x6), none, none]) (st' := [(.int ((A 8) (x6).toNatClampNeg))]) (h' := (hM c A R)) (fun _ => rfl) hg ?_
    obtain ⟨y8, hy, hf⟩ := m_li_ok hf
    rw [hy]
    refine v_blk 2 (i' := (bif (a_ic .le y8 x4) then 116 else 111)) (L' := [some (.ref 22), none, some (.int x2), some (.int x3), some (.int x4), some (.int x5), some (.int x6), none, none]) (st' := []) (h' := (hM c A R)) (fun _ => rfl) ?_
    rcases Bool.eq_false_or_eq_true (a_ic .le y8 x4) with hb | hb
    · have hf := a_bt hb hf
      refine v_it hb ?_
      refine v_blk 1 (i' := 117) (L' := [some (.ref 22), none, some (.int x2), some (.int x3), some (.int x4), some (.int x5), some (.int x6), none, none]) (st' := [(.int x4)]) (h' := (hM c A R)) (fun _ => rfl) ?_
      refine v_weak (L' := [some (.ref 22), none, some (.int x2), some (.int x3), none, some (.int x5), some (.int x6), none, none]) (show a_wk [some (.ref 22), none, some (.int x2), some (.int x3), none, some (.int x5), some (.int x6), none, none] [some (.ref 22), none, some (.int x2), some (.int x3), some (.int x4), some (.int x5), some (.int x6), none, none] from ⟨rfl, ⟨(fun v hv => by cases hv), ⟨rfl, ⟨rfl, ⟨(fun v hv => by cases hv; rfl), ⟨rfl, ⟨rfl, ⟨(fun v hv => by cases hv), ⟨(fun v hv => by cases hv), trivial⟩⟩⟩⟩⟩⟩⟩⟩⟩) ?_
      exact gt_163_117 hfz N c R (d + 1) hd rc99 hrc99 x2 x3 x5 x6 x4 A _ _ hf
    · have hf := a_be hb hf
      refine v_ie hb ?_
      obtain ⟨hg, hf⟩ := a_bif hf
      refine v_grd 4 (i' := 115) (L' := [some (.ref 22), none, some (.int x2), some (.int x3), some (.int x4), some (.int x5), some (.int x6), none, none]) (st' := [(.int ((A 8) (x6).toNatClampNeg))]) (h' := (hM c A R)) (fun _ => rfl) hg ?_
      obtain ⟨y9, hy, hf⟩ := m_li_ok hf
      rw [hy]
      refine v_blk 1 (i' := 117) (L' := [some (.ref 22), none, some (.int x2), some (.int x3), some (.int x4), some (.int x5), some (.int x6), none, none]) (st' := [(.int y9)]) (h' := (hM c A R)) (fun _ => rfl) ?_
      refine v_weak (L' := [some (.ref 22), none, some (.int x2), some (.int x3), none, some (.int x5), some (.int x6), none, none]) (show a_wk [some (.ref 22), none, some (.int x2), some (.int x3), none, some (.int x5), some (.int x6), none, none] [some (.ref 22), none, some (.int x2), some (.int x3), some (.int x4), some (.int x5), some (.int x6), none, none] from ⟨rfl, ⟨(fun v hv => by cases hv), ⟨rfl, ⟨rfl, ⟨(fun v hv => by cases hv; rfl), ⟨rfl, ⟨rfl, ⟨(fun v hv => by cases hv), ⟨(fun v hv => by cases hv), trivial⟩⟩⟩⟩⟩⟩⟩⟩⟩) ?_
      exact gt_163_117 hfz N c R (d + 1) hd rc99 hrc99 x2 x3 x5 x6 y9 A _ _ hf
theorem gt_163_99 {fz : Value} {sc : Nat × (Nat → Int32)} (hfz : fz = .null ∨ fz = .retAddr 60) (N : Nat) (c : Nat → aC) (R : List aC) (d : Nat) (hd : 8 ≤ d) : ∀ (n : Nat) (x2 : Int32) (x3 : Int32) (x4 : Int32) (x5 : Int32) (x6 : Int32) (A : mS) (r : Int32) (A' : mS) (hf : g_163_99 N n x2 x3 x4 x5 x6 A = some (r, A')), v_V fz sc d 163 99 [some (.ref 22), none, some (.int x2), some (.int x3), some (.int x4), some (.int x5), some (.int x6), none, none] [] (hM c A R) (fun rv h' => rv = some (.int r) ∧ h' = hM c A' R) := by
  intro n
  induction n with
  | zero => intro x2 x3 x4 x5 x6 A r A' hf; cases hf
  | succ n ih =>
    intro x2 x3 x4 x5 x6 A r A' hf
    exact gt_163_99b hfz N c R d hd (g_163_99 N n) ih x2 x3 x4 x5 x6 A r A' hf
set_option maxRecDepth 100000 in
set_option maxHeartbeats 4000000 in
theorem gt_163_49b {fz : Value} {sc : Nat × (Nat → Int32)} (hfz : fz = .null ∨ fz = .retAddr 60) (N : Nat) (c : Nat → aC) (R : List aC) (d : Nat) (hd : 8 ≤ d) (rc32 : Int32 → Int32 → Int32 → Int32 → mS → Option (Int32 × mS)) (hrc32 : ∀ (x1 : Int32) (x2 : Int32) (x3 : Int32) (x4 : Int32) (A : mS) (r : Int32) (A' : mS), rc32 x1 x2 x3 x4 A = some (r, A') → v_V fz sc d 163 32 [some (.ref 22), some (.int x1), some (.int x2), some (.int x3), some (.int x4), none, none, none, none] [] (hM c A R) (fun rv h' => rv = some (.int r) ∧ h' = hM c A' R)) (rc49 : Int32 → Int32 → Int32 → Int32 → Int32 → Int32 → Int32 → mS → Option (Int32 × mS)) (hrc49 : ∀ (x1 : Int32) (x2 : Int32) (x3 : Int32) (x4 : Int32) (x5 : Int32) (x6 : Int32) (x7 : Int32) (A : mS) (r : Int32) (A' : mS), rc49 x1 x2 x3 x4 x5 x6 x7 A = some (r, A') → v_V fz sc d 163 49 [some (.ref 22), some (.int x1), some (.int x2), some (.int x3), some (.int x4), some (.int x5), some (.int x6), some (.int x7), none] [] (hM c A R) (fun rv h' => rv = some (.int r) ∧ h' = hM c A' R)) (x1 : Int32) (x2 : Int32) (x3 : Int32) (x4 : Int32) (x5 : Int32) (x6 : Int32) (x7 : Int32) (A : mS) (r : Int32) (A' : mS) (hf : g_163_49b N rc32 rc49 x1 x2 x3 x4 x5 x6 x7 A = some (r, A')) : v_V fz sc d 163 49 [some (.ref 22), some (.int x1), some (.int x2), some (.int x3), some (.int x4), some (.int x5), some (.int x6), some (.int x7), none] [] (hM c A R) (fun rv h' => rv = some (.int r) ∧ h' = hM c A' R) := by
  unfold g_163_49b at hf
  obtain ⟨d, rfl⟩ : ∃ z, d = z + 1 := ⟨d - 1, by omega⟩
  refine v_blk 6 (i' := (bif (a_ic .ge x7 ((A 0) 11)) then 83 else 55)) (L' := [some (.ref 22), some (.int x1), some (.int x2), some (.int x3), some (.int x4), some (.int x5), some (.int x6), some (.int x7), none]) (st' := []) (h' := (hM c A R)) (fun _ => rfl) ?_
  rcases Bool.eq_false_or_eq_true (a_ic .ge x7 ((A 0) 11)) with hb | hb
  · have hf := a_bt hb hf
    refine v_it hb ?_
    refine v_blk 2 (i' := 32) (L' := [some (.ref 22), some (.int x1), some (.int x2), some (.int x3), some (.int (x4 + (1 : Int32))), some (.int x5), some (.int x6), some (.int x7), none]) (st' := []) (h' := (hM c A R)) (fun _ => rfl) ?_
    refine v_weak (L' := [some (.ref 22), some (.int x1), some (.int x2), some (.int x3), some (.int (x4 + (1 : Int32))), none, none, none, none]) (show a_wk [some (.ref 22), some (.int x1), some (.int x2), some (.int x3), some (.int (x4 + (1 : Int32))), none, none, none, none] [some (.ref 22), some (.int x1), some (.int x2), some (.int x3), some (.int (x4 + (1 : Int32))), some (.int x5), some (.int x6), some (.int x7), none] from ⟨rfl, ⟨rfl, ⟨rfl, ⟨rfl, ⟨rfl, ⟨(fun v hv => by cases hv; rfl), ⟨(fun v hv => by cases hv; rfl), ⟨(fun v hv => by cases hv; rfl), ⟨(fun v hv => by cases hv), trivial⟩⟩⟩⟩⟩⟩⟩⟩⟩) ?_
    exact hrc32 x1 x2 x3 (x4 + (1 : Int32)) A _ _ hf
  · have hf := a_be hb hf
    refine v_ie hb ?_
    obtain ⟨r10, A10, hc, hf⟩ := m_bd_ok hf
    refine v_call 7 (k' := 133) (i' := 62) (E := [some (.ref 22), some (.int x7), some (.int (A 99 14)), some (.int x5), some (.int x6), none, none, none, none, none, none, none, none, none]) (L' := [some (.ref 22), some (.int x1), some (.int x2), some (.int x3), some (.int x4), some (.int x5), some (.int x6), some (.int x7), none]) (rest := []) (h1 := (hM c A R)) (fun _ => rfl) ?_
    refine v_post (gt_133 hfz N c R d (by omega) x7 (A 99 14) x5 x6 A _ _ hc) ?_
    rintro rv h' ⟨rfl, rfl⟩
    obtain ⟨hg, hf⟩ := a_bif hf
    refine v_grd 6 (i' := 68) (L' := [some (.ref 22), some (.int x1), some (.int x2), some (.int x3), some (.int x4), some (.int x5), some (.int x6), some (.int x7), some (.int r10)]) (st' := [(.int ((A10 8) (x7).toNatClampNeg)), (.int x7), (.ref 31)]) (h' := (hM c A10 R)) (fun _ => rfl) hg ?_
    obtain ⟨y11, hy, hf⟩ := m_li_ok hf
    rw [hy]
    obtain ⟨hg, hf⟩ := a_bif hf
    refine v_grd 3 (i' := 71) (L' := [some (.ref 22), some (.int x1), some (.int x2), some (.int x3), some (.int x4), some (.int x5), some (.int x6), some (.int x7), some (.int r10)]) (st' := []) (h' := (hM c (va_up A10 8 (upd (A10 8) (x7).toNatClampNeg (y11 + r10))) R)) (fun _ => rfl) hg ?_
    obtain ⟨A12, hA, hf⟩ := m_st_ok hf
    rw [hA]
    refine v_blk 3 (i' := (bif (a_ic .le r10 (0 : Int32)) then 78 else 74)) (L' := [some (.ref 22), some (.int x1), some (.int x2), some (.int x3), some (.int x4), some (.int x5), some (.int x6), some (.int x7), some (.int r10)]) (st' := [(.int x3)]) (h' := (hM c A12 R)) (fun _ => rfl) ?_
    rcases Bool.eq_false_or_eq_true (a_ic .le r10 (0 : Int32)) with hb | hb
    · have hf := a_bt hb hf
      refine v_it hb ?_
      refine v_blk 5 (i' := 49) (L' := [some (.ref 22), some (.int x1), some (.int x2), some (.int (x3 ||| (0 : Int32))), some (.int x4), some (.int x5), some (.int x6), some (.int (x7 + (1 : Int32))), some (.int r10)]) (st' := []) (h' := (hM c A12 R)) (fun _ => rfl) ?_
      refine v_weak (L' := [some (.ref 22), some (.int x1), some (.int x2), some (.int (x3 ||| (0 : Int32))), some (.int x4), some (.int x5), some (.int x6), some (.int (x7 + (1 : Int32))), none]) (show a_wk [some (.ref 22), some (.int x1), some (.int x2), some (.int (x3 ||| (0 : Int32))), some (.int x4), some (.int x5), some (.int x6), some (.int (x7 + (1 : Int32))), none] [some (.ref 22), some (.int x1), some (.int x2), some (.int (x3 ||| (0 : Int32))), some (.int x4), some (.int x5), some (.int x6), some (.int (x7 + (1 : Int32))), some (.int r10)] from ⟨rfl, ⟨rfl, ⟨rfl, ⟨rfl, ⟨rfl, ⟨rfl, ⟨rfl, ⟨rfl, ⟨(fun v hv => by cases hv; rfl), trivial⟩⟩⟩⟩⟩⟩⟩⟩⟩) ?_
      exact hrc49 x1 x2 (x3 ||| (0 : Int32)) x4 x5 x6 (x7 + (1 : Int32)) A12 _ _ hf
    · have hf := a_be hb hf
      refine v_ie hb ?_
      refine v_blk 8 (i' := 49) (L' := [some (.ref 22), some (.int x1), some (.int x2), some (.int (x3 ||| ((1 : Int32) <<< (x7 &&& 31)))), some (.int x4), some (.int x5), some (.int x6), some (.int (x7 + (1 : Int32))), some (.int r10)]) (st' := []) (h' := (hM c A12 R)) (fun _ => rfl) ?_
      refine v_weak (L' := [some (.ref 22), some (.int x1), some (.int x2), some (.int (x3 ||| ((1 : Int32) <<< (x7 &&& 31)))), some (.int x4), some (.int x5), some (.int x6), some (.int (x7 + (1 : Int32))), none]) (show a_wk [some (.ref 22), some (.int x1), some (.int x2), some (.int (x3 ||| ((1 : Int32) <<< (x7 &&& 31)))), some (.int x4), some (.int x5), some (.int x6), some (.int (x7 + (1 : Int32))), none] [some (.ref 22), some (.int x1), some (.int x2), some (.int (x3 ||| ((1 : Int32) <<< (x7 &&& 31)))), some (.int x4), some (.int x5), some (.int x6), some (.int (x7 + (1 : Int32))), some (.int r10)] from ⟨rfl, ⟨rfl, ⟨rfl, ⟨rfl, ⟨rfl, ⟨rfl, ⟨rfl, ⟨rfl, ⟨(fun v hv => by cases hv; rfl), trivial⟩⟩⟩⟩⟩⟩⟩⟩⟩) ?_
      exact hrc49 x1 x2 (x3 ||| ((1 : Int32) <<< (x7 &&& 31))) x4 x5 x6 (x7 + (1 : Int32)) A12 _ _ hf
theorem gt_163_49 {fz : Value} {sc : Nat × (Nat → Int32)} (hfz : fz = .null ∨ fz = .retAddr 60) (N : Nat) (c : Nat → aC) (R : List aC) (d : Nat) (hd : 8 ≤ d) (rc32 : Int32 → Int32 → Int32 → Int32 → mS → Option (Int32 × mS)) (hrc32 : ∀ (x1 : Int32) (x2 : Int32) (x3 : Int32) (x4 : Int32) (A : mS) (r : Int32) (A' : mS), rc32 x1 x2 x3 x4 A = some (r, A') → v_V fz sc d 163 32 [some (.ref 22), some (.int x1), some (.int x2), some (.int x3), some (.int x4), none, none, none, none] [] (hM c A R) (fun rv h' => rv = some (.int r) ∧ h' = hM c A' R)) : ∀ (n : Nat) (x1 : Int32) (x2 : Int32) (x3 : Int32) (x4 : Int32) (x5 : Int32) (x6 : Int32) (x7 : Int32) (A : mS) (r : Int32) (A' : mS) (hf : g_163_49 N rc32 n x1 x2 x3 x4 x5 x6 x7 A = some (r, A')), v_V fz sc d 163 49 [some (.ref 22), some (.int x1), some (.int x2), some (.int x3), some (.int x4), some (.int x5), some (.int x6), some (.int x7), none] [] (hM c A R) (fun rv h' => rv = some (.int r) ∧ h' = hM c A' R) := by
  intro n
  induction n with
  | zero => intro x1 x2 x3 x4 x5 x6 x7 A r A' hf; cases hf
  | succ n ih =>
    intro x1 x2 x3 x4 x5 x6 x7 A r A' hf
    exact gt_163_49b hfz N c R d hd rc32 hrc32 (g_163_49 N rc32 n) ih x1 x2 x3 x4 x5 x6 x7 A r A' hf
set_option maxRecDepth 100000 in
set_option maxHeartbeats 4000000 in
theorem gt_163_32b {fz : Value} {sc : Nat × (Nat → Int32)} (hfz : fz = .null ∨ fz = .retAddr 60) (N : Nat) (c : Nat → aC) (R : List aC) (d : Nat) (hd : 8 ≤ d) (rc32 : Int32 → Int32 → Int32 → Int32 → mS → Option (Int32 × mS)) (hrc32 : ∀ (x1 : Int32) (x2 : Int32) (x3 : Int32) (x4 : Int32) (A : mS) (r : Int32) (A' : mS), rc32 x1 x2 x3 x4 A = some (r, A') → v_V fz sc d 163 32 [some (.ref 22), some (.int x1), some (.int x2), some (.int x3), some (.int x4), none, none, none, none] [] (hM c A R) (fun rv h' => rv = some (.int r) ∧ h' = hM c A' R)) (x1 : Int32) (x2 : Int32) (x3 : Int32) (x4 : Int32) (A : mS) (r : Int32) (A' : mS) (hf : g_163_32b N rc32 x1 x2 x3 x4 A = some (r, A')) : v_V fz sc d 163 32 [some (.ref 22), some (.int x1), some (.int x2), some (.int x3), some (.int x4), none, none, none, none] [] (hM c A R) (fun rv h' => rv = some (.int r) ∧ h' = hM c A' R) := by
  unfold g_163_32b at hf
  obtain ⟨d, rfl⟩ : ∃ z, d = z + 1 := ⟨d - 1, by omega⟩
  refine v_blk 3 (i' := (bif (a_ic .ge x4 x1) then 85 else 35)) (L' := [some (.ref 22), some (.int x1), some (.int x2), some (.int x3), some (.int x4), none, none, none, none]) (st' := []) (h' := (hM c A R)) (fun _ => rfl) ?_
  rcases Bool.eq_false_or_eq_true (a_ic .ge x4 x1) with hb | hb
  · have hf := a_bt hb hf
    refine v_it hb ?_
    obtain ⟨r5, A5, hc, hf⟩ := m_bd_ok hf
    refine v_call 2 (k' := 116) (i' := 87) (E := [some (.ref 22), none]) (L' := [some (.ref 22), some (.int x1), some (.int x2), some (.int x3), some (.int x4), none, none, none, none]) (rest := []) (h1 := (hM c A R)) (fun _ => rfl) ?_
    refine v_post (gt_116 hfz N c R d (by omega)  A _ _ hc) ?_
    rintro rv h' ⟨rfl, rfl⟩
    refine v_blk 12 (i' := 99) (L' := [some (.ref 22), some (.int x1), some (.int x2), some (.int x3), some (.int ((A5 8) 0)), some (.int ((A5 8) 0)), some (.int (1 : Int32)), none, none]) (st' := []) (h' := (hM c A5 R)) (fun _ => rfl) ?_
    refine v_weak (L' := [some (.ref 22), none, some (.int x2), some (.int x3), some (.int ((A5 8) 0)), some (.int ((A5 8) 0)), some (.int (1 : Int32)), none, none]) (show a_wk [some (.ref 22), none, some (.int x2), some (.int x3), some (.int ((A5 8) 0)), some (.int ((A5 8) 0)), some (.int (1 : Int32)), none, none] [some (.ref 22), some (.int x1), some (.int x2), some (.int x3), some (.int ((A5 8) 0)), some (.int ((A5 8) 0)), some (.int (1 : Int32)), none, none] from ⟨rfl, ⟨(fun v hv => by cases hv; rfl), ⟨rfl, ⟨rfl, ⟨rfl, ⟨rfl, ⟨rfl, ⟨(fun v hv => by cases hv), ⟨(fun v hv => by cases hv), trivial⟩⟩⟩⟩⟩⟩⟩⟩⟩) ?_
    exact gt_163_99 hfz N c R (d + 1) hd N x2 x3 ((A5 8) 0) ((A5 8) 0) (1 : Int32) A5 _ _ hf
  · have hf := a_be hb hf
    refine v_ie hb ?_
    obtain ⟨r6, A6, hc, hf⟩ := m_bd_ok hf
    refine v_call 12 (k' := 152) (i' := 47) (E := [some (.ref 22), none, none, none]) (L' := [some (.ref 22), some (.int x1), some (.int x2), some (.int x3), some (.int x4), some (.int ((A 0) 1)), some (.int ((A 0) 0)), none, none]) (rest := []) (h1 := (hM c A R)) (fun _ => rfl) ?_
    refine v_post (gt_152 hfz N c R d (by omega)  A _ _ hc) ?_
    rintro rv h' ⟨rfl, rfl⟩
    refine v_blk 2 (i' := 49) (L' := [some (.ref 22), some (.int x1), some (.int x2), some (.int x3), some (.int x4), some (.int ((A 0) 1)), some (.int ((A 0) 0)), some (.int (0 : Int32)), none]) (st' := []) (h' := (hM c A6 R)) (fun _ => rfl) ?_
    exact gt_163_49 hfz N c R (d + 1) hd rc32 hrc32 N x1 x2 x3 x4 ((A 0) 1) ((A 0) 0) (0 : Int32) A6 _ _ hf
theorem gt_163_32 {fz : Value} {sc : Nat × (Nat → Int32)} (hfz : fz = .null ∨ fz = .retAddr 60) (N : Nat) (c : Nat → aC) (R : List aC) (d : Nat) (hd : 8 ≤ d) : ∀ (n : Nat) (x1 : Int32) (x2 : Int32) (x3 : Int32) (x4 : Int32) (A : mS) (r : Int32) (A' : mS) (hf : g_163_32 N n x1 x2 x3 x4 A = some (r, A')), v_V fz sc d 163 32 [some (.ref 22), some (.int x1), some (.int x2), some (.int x3), some (.int x4), none, none, none, none] [] (hM c A R) (fun rv h' => rv = some (.int r) ∧ h' = hM c A' R) := by
  intro n
  induction n with
  | zero => intro x1 x2 x3 x4 A r A' hf; cases hf
  | succ n ih =>
    intro x1 x2 x3 x4 A r A' hf
    exact gt_163_32b hfz N c R d hd (g_163_32 N n) ih x1 x2 x3 x4 A r A' hf
set_option maxRecDepth 100000 in
set_option maxHeartbeats 4000000 in
theorem gt_163_16b {fz : Value} {sc : Nat × (Nat → Int32)} (hfz : fz = .null ∨ fz = .retAddr 60) (N : Nat) (c : Nat → aC) (R : List aC) (d : Nat) (hd : 8 ≤ d) (rc16 : Int32 → Int32 → Int32 → mS → Option (Int32 × mS)) (hrc16 : ∀ (x1 : Int32) (x2 : Int32) (x3 : Int32) (A : mS) (r : Int32) (A' : mS), rc16 x1 x2 x3 A = some (r, A') → v_V fz sc d 163 16 [some (.ref 22), some (.int x1), some (.int x2), some (.int x3), none, none, none, none, none] [] (hM c A R) (fun rv h' => rv = some (.int r) ∧ h' = hM c A' R)) (x1 : Int32) (x2 : Int32) (x3 : Int32) (A : mS) (r : Int32) (A' : mS) (hf : g_163_16b N rc16 x1 x2 x3 A = some (r, A')) : v_V fz sc d 163 16 [some (.ref 22), some (.int x1), some (.int x2), some (.int x3), none, none, none, none, none] [] (hM c A R) (fun rv h' => rv = some (.int r) ∧ h' = hM c A' R) := by
  unfold g_163_16b at hf
  obtain ⟨d, rfl⟩ : ∃ z, d = z + 1 := ⟨d - 1, by omega⟩
  refine v_blk 3 (i' := (bif (a_ic .ge x3 (8 : Int32)) then 26 else 19)) (L' := [some (.ref 22), some (.int x1), some (.int x2), some (.int x3), none, none, none, none, none]) (st' := []) (h' := (hM c A R)) (fun _ => rfl) ?_
  rcases Bool.eq_false_or_eq_true (a_ic .ge x3 (8 : Int32)) with hb | hb
  · have hf := a_bt hb hf
    refine v_it hb ?_
    obtain ⟨r3, A3, hc, hf⟩ := m_bd_ok hf
    refine v_call 4 (k' := 115) (i' := 30) (E := [some (.ref 22), none]) (L' := [some (.ref 22), some (.int x1), some (.int x2), some (.int (0 : Int32)), none, none, none, none, none]) (rest := []) (h1 := (hM c A R)) (fun _ => rfl) ?_
    refine v_post (gt_115 hfz N c R d (by omega)  A _ _ hc) ?_
    rintro rv h' ⟨rfl, rfl⟩
    refine v_blk 2 (i' := 32) (L' := [some (.ref 22), some (.int x1), some (.int x2), some (.int (0 : Int32)), some (.int (0 : Int32)), none, none, none, none]) (st' := []) (h' := (hM c A3 R)) (fun _ => rfl) ?_
    exact gt_163_32 hfz N c R (d + 1) hd N x1 x2 (0 : Int32) (0 : Int32) A3 _ _ hf
  · have hf := a_be hb hf
    refine v_ie hb ?_
    obtain ⟨hg, hf⟩ := a_bif hf
    refine v_grd 5 (i' := 24) (L' := [some (.ref 22), some (.int x1), some (.int x2), some (.int x3), none, none, none, none, none]) (st' := []) (h' := (hM c (va_up A 8 (upd (A 8) (x3).toNatClampNeg (0 : Int32))) R)) (fun _ => rfl) hg ?_
    obtain ⟨A4, hA, hf⟩ := m_st_ok hf
    rw [hA]
    refine v_blk 2 (i' := 16) (L' := [some (.ref 22), some (.int x1), some (.int x2), some (.int (x3 + (1 : Int32))), none, none, none, none, none]) (st' := []) (h' := (hM c A4 R)) (fun _ => rfl) ?_
    exact hrc16 x1 x2 (x3 + (1 : Int32)) A4 _ _ hf
theorem gt_163_16 {fz : Value} {sc : Nat × (Nat → Int32)} (hfz : fz = .null ∨ fz = .retAddr 60) (N : Nat) (c : Nat → aC) (R : List aC) (d : Nat) (hd : 8 ≤ d) : ∀ (n : Nat) (x1 : Int32) (x2 : Int32) (x3 : Int32) (A : mS) (r : Int32) (A' : mS) (hf : g_163_16 N n x1 x2 x3 A = some (r, A')), v_V fz sc d 163 16 [some (.ref 22), some (.int x1), some (.int x2), some (.int x3), none, none, none, none, none] [] (hM c A R) (fun rv h' => rv = some (.int r) ∧ h' = hM c A' R) := by
  intro n
  induction n with
  | zero => intro x1 x2 x3 A r A' hf; cases hf
  | succ n ih =>
    intro x1 x2 x3 A r A' hf
    exact gt_163_16b hfz N c R d hd (g_163_16 N n) ih x1 x2 x3 A r A' hf
set_option maxRecDepth 100000 in
set_option maxHeartbeats 4000000 in
theorem gt_163 {fz : Value} {sc : Nat × (Nat → Int32)} (hfz : fz = .null ∨ fz = .retAddr 60) (N : Nat) (c : Nat → aC) (R : List aC) (d : Nat) (hd : 8 ≤ d) (x1 : Int32) (x2 : Int32) (A : mS) (r : Int32) (A' : mS) (hf : g_163 N x1 x2 A = some (r, A')) : v_V fz sc d 163 0 [some (.ref 22), some (.int x1), some (.int x2), none, none, none, none, none, none] [] (hM c A R) (fun rv h' => rv = some (.int r) ∧ h' = hM c A' R) := by
  unfold g_163 at hf
  obtain ⟨d, rfl⟩ : ∃ z, d = z + 1 := ⟨d - 1, by omega⟩
  obtain ⟨r1, A1, hc, hf⟩ := m_bd_ok hf
  refine v_call 4 (k' := 112) (i' := 4) (E := [some (.int x2), some (.int (0 : Int32)), some (.int (1 : Int32))]) (L' := [some (.ref 22), some (.int x1), some (.int x2), none, none, none, none, none, none]) (rest := []) (h1 := (hM c A R)) (fun _ => rfl) ?_
  refine v_post (gt_112 hfz N c R d (by omega) x2 (0 : Int32) (1 : Int32) A _ _ hc) ?_
  rintro rv h' ⟨rfl, rfl⟩
  refine v_blk 1 (i' := (bif (a_ic .ne r1 (0 : Int32)) then 7 else 5)) (L' := [some (.ref 22), some (.int x1), some (.int x2), none, none, none, none, none, none]) (st' := []) (h' := (hM c A1 R)) (fun _ => rfl) ?_
  rcases Bool.eq_false_or_eq_true (a_ic .ne r1 (0 : Int32)) with hb | hb
  · have hf := a_bt hb hf
    refine v_it hb ?_
    obtain ⟨r2, A2, hc, hf⟩ := m_bd_ok hf
    refine v_call 4 (k' := 112) (i' := 11) (E := [some (.int x1), some (.int (1 : Int32)), some (.int (40 : Int32))]) (L' := [some (.ref 22), some (.int x1), some (.int x2), none, none, none, none, none, none]) (rest := []) (h1 := (hM c A1 R)) (fun _ => rfl) ?_
    refine v_post (gt_112 hfz N c R d (by omega) x1 (1 : Int32) (40 : Int32) A1 _ _ hc) ?_
    rintro rv h' ⟨rfl, rfl⟩
    refine v_blk 1 (i' := (bif (a_ic .ne r2 (0 : Int32)) then 14 else 12)) (L' := [some (.ref 22), some (.int x1), some (.int x2), none, none, none, none, none, none]) (st' := []) (h' := (hM c A2 R)) (fun _ => rfl) ?_
    rcases Bool.eq_false_or_eq_true (a_ic .ne r2 (0 : Int32)) with hb | hb
    · have hf := a_bt hb hf
      refine v_it hb ?_
      refine v_blk 2 (i' := 16) (L' := [some (.ref 22), some (.int x1), some (.int x2), some (.int (0 : Int32)), none, none, none, none, none]) (st' := []) (h' := (hM c A2 R)) (fun _ => rfl) ?_
      exact gt_163_16 hfz N c R (d + 1) hd N x1 x2 (0 : Int32) A2 _ _ hf
    · have hf := a_be hb hf
      refine v_ie hb ?_
      obtain ⟨rfl, rfl⟩ := m_rt hf
      exact v_ret 2 (fun _ => rfl) ⟨rfl, rfl⟩
  · have hf := a_be hb hf
    refine v_ie hb ?_
    obtain ⟨rfl, rfl⟩ := m_rt hf
    exact v_ret 2 (fun _ => rfl) ⟨rfl, rfl⟩
set_option maxRecDepth 100000 in
set_option maxHeartbeats 4000000 in
theorem gt_164_13b {fz : Value} {sc : Nat × (Nat → Int32)} (hfz : fz = .null ∨ fz = .retAddr 60) (N : Nat) (c : Nat → aC) (R : List aC) (d : Nat) (hd : 8 ≤ d) (rc13 : Int32 → Int64 → Int32 → mS → Option (Int64 × mS)) (hrc13 : ∀ (x1 : Int32) (x2 : Int64) (x4 : Int32) (A : mS) (r : Int64) (A' : mS), rc13 x1 x2 x4 A = some (r, A') → v_V fz sc d 164 13 [some (.ref 22), some (.int x1), some (.long x2), none, some (.int x4), none, none, none] [] (hM c A R) (fun rv h' => rv = some (.long r) ∧ h' = hM c A' R)) (x1 : Int32) (x2 : Int64) (x4 : Int32) (A : mS) (r : Int64) (A' : mS) (hf : g_164_13b N rc13 x1 x2 x4 A = some (r, A')) : v_V fz sc d 164 13 [some (.ref 22), some (.int x1), some (.long x2), none, some (.int x4), none, none, none] [] (hM c A R) (fun rv h' => rv = some (.long r) ∧ h' = hM c A' R) := by
  unfold g_164_13b at hf
  obtain ⟨d, rfl⟩ : ∃ z, d = z + 1 := ⟨d - 1, by omega⟩
  refine v_blk 3 (i' := (bif (a_ic .ge x4 x1) then 53 else 16)) (L' := [some (.ref 22), some (.int x1), some (.long x2), none, some (.int x4), none, none, none]) (st' := []) (h' := (hM c A R)) (fun _ => rfl) ?_
  rcases Bool.eq_false_or_eq_true (a_ic .ge x4 x1) with hb | hb
  · have hf := a_bt hb hf
    refine v_it hb ?_
    obtain ⟨r3, A3, hc, hf⟩ := m_bd_ok hf
    refine v_call 2 (k' := 116) (i' := 55) (E := [some (.ref 22), none]) (L' := [some (.ref 22), some (.int x1), some (.long x2), none, some (.int x4), none, none, none]) (rest := []) (h1 := (hM c A R)) (fun _ => rfl) ?_
    refine v_post (gt_116 hfz N c R d (by omega)  A _ _ hc) ?_
    rintro rv h' ⟨rfl, rfl⟩
    obtain ⟨rfl, rfl⟩ := m_rt hf
    exact v_ret 2 (fun _ => rfl) ⟨rfl, rfl⟩
  · have hf := a_be hb hf
    refine v_ie hb ?_
    obtain ⟨r4, A4, hc, hf⟩ := m_bd_ok hf
    refine v_call 12 (k' := 136) (i' := 28) (E := [some (.ref 22)]) (L' := [some (.ref 22), some (.int x1), some (.long x2), none, some (.int x4), some (.int ((A 0) 1)), some (.int ((A 0) 0)), none]) (rest := []) (h1 := (hM c A R)) (fun _ => rfl) ?_
    refine v_post (gt_136 hfz N c R d (by omega)  A _ _ hc) ?_
    rintro rv h' ⟨rfl, rfl⟩
    obtain ⟨r5, A5, hc, hf⟩ := m_bd_ok hf
    refine v_call 3 (k' := 152) (i' := 31) (E := [some (.ref 22), none, none, none]) (L' := [some (.ref 22), some (.int x1), some (.long x2), none, some (.int x4), some (.int ((A 0) 1)), some (.int ((A 0) 0)), some (.int r4)]) (rest := []) (h1 := (hM c A4 R)) (fun _ => rfl) ?_
    refine v_post (gt_152 hfz N c R d (by omega)  A4 _ _ hc) ?_
    rintro rv h' ⟨rfl, rfl⟩
    obtain ⟨r6, A6, hc, hf⟩ := m_bd_ok hf
    refine v_call 7 (k' := 135) (i' := 38) (E := [some (.ref 22), some (.int (A5 99 14)), some (.int ((A 0) 1)), some (.int ((A 0) 0)), none, none]) (L' := [some (.ref 22), some (.int x1), some (.long x2), none, some (.int x4), some (.int ((A 0) 1)), some (.int ((A 0) 0)), some (.int r4)]) (rest := [(.long x2)]) (h1 := (hM c A5 R)) (fun _ => rfl) ?_
    refine v_post (gt_135 hfz N c R d (by omega) (A5 99 14) ((A 0) 1) ((A 0) 0) A5 _ _ hc) ?_
    rintro rv h' ⟨rfl, rfl⟩
    obtain ⟨r7, A7, hc, hf⟩ := m_bd_ok hf
    refine v_call 5 (k' := 135) (i' := 43) (E := [some (.ref 22), some (.int r4), some (.int ((A 0) 1)), some (.int ((A 0) 0)), none, none]) (L' := [some (.ref 22), some (.int x1), some (.long x2), none, some (.int x4), some (.int ((A 0) 1)), some (.int ((A 0) 0)), some (.int r4)]) (rest := [(.int r6), (.long x2)]) (h1 := (hM c A6 R)) (fun _ => rfl) ?_
    refine v_post (gt_135 hfz N c R d (by omega) r4 ((A 0) 1) ((A 0) 0) A6 _ _ hc) ?_
    rintro rv h' ⟨rfl, rfl⟩
    refine v_blk 1 (i' := (bif (a_ic .ge r6 r7) then 48 else 44)) (L' := [some (.ref 22), some (.int x1), some (.long x2), none, some (.int x4), some (.int ((A 0) 1)), some (.int ((A 0) 0)), some (.int r4)]) (st' := [(.long x2)]) (h' := (hM c A7 R)) (fun _ => rfl) ?_
    rcases Bool.eq_false_or_eq_true (a_ic .ge r6 r7) with hb | hb
    · have hf := a_bt hb hf
      refine v_it hb ?_
      refine v_blk 5 (i' := 13) (L' := [some (.ref 22), some (.int x1), some (.long (x2 ||| (0 : Int64))), none, some (.int (x4 + (1 : Int32))), some (.int ((A 0) 1)), some (.int ((A 0) 0)), some (.int r4)]) (st' := []) (h' := (hM c A7 R)) (fun _ => rfl) ?_
      refine v_weak (L' := [some (.ref 22), some (.int x1), some (.long (x2 ||| (0 : Int64))), none, some (.int (x4 + (1 : Int32))), none, none, none]) (show a_wk [some (.ref 22), some (.int x1), some (.long (x2 ||| (0 : Int64))), none, some (.int (x4 + (1 : Int32))), none, none, none] [some (.ref 22), some (.int x1), some (.long (x2 ||| (0 : Int64))), none, some (.int (x4 + (1 : Int32))), some (.int ((A 0) 1)), some (.int ((A 0) 0)), some (.int r4)] from ⟨rfl, ⟨rfl, ⟨rfl, ⟨(fun v hv => by cases hv), ⟨rfl, ⟨(fun v hv => by cases hv; rfl), ⟨(fun v hv => by cases hv; rfl), ⟨(fun v hv => by cases hv; rfl), trivial⟩⟩⟩⟩⟩⟩⟩⟩) ?_
      exact hrc13 x1 (x2 ||| (0 : Int64)) (x4 + (1 : Int32)) A7 _ _ hf
    · have hf := a_be hb hf
      refine v_ie hb ?_
      refine v_blk 8 (i' := 13) (L' := [some (.ref 22), some (.int x1), some (.long (x2 ||| ((1 : Int64) <<< (Int32.toInt64 x4 &&& 63)))), none, some (.int (x4 + (1 : Int32))), some (.int ((A 0) 1)), some (.int ((A 0) 0)), some (.int r4)]) (st' := []) (h' := (hM c A7 R)) (fun _ => rfl) ?_
      refine v_weak (L' := [some (.ref 22), some (.int x1), some (.long (x2 ||| ((1 : Int64) <<< (Int32.toInt64 x4 &&& 63)))), none, some (.int (x4 + (1 : Int32))), none, none, none]) (show a_wk [some (.ref 22), some (.int x1), some (.long (x2 ||| ((1 : Int64) <<< (Int32.toInt64 x4 &&& 63)))), none, some (.int (x4 + (1 : Int32))), none, none, none] [some (.ref 22), some (.int x1), some (.long (x2 ||| ((1 : Int64) <<< (Int32.toInt64 x4 &&& 63)))), none, some (.int (x4 + (1 : Int32))), some (.int ((A 0) 1)), some (.int ((A 0) 0)), some (.int r4)] from ⟨rfl, ⟨rfl, ⟨rfl, ⟨(fun v hv => by cases hv), ⟨rfl, ⟨(fun v hv => by cases hv; rfl), ⟨(fun v hv => by cases hv; rfl), ⟨(fun v hv => by cases hv; rfl), trivial⟩⟩⟩⟩⟩⟩⟩⟩) ?_
      exact hrc13 x1 (x2 ||| ((1 : Int64) <<< (Int32.toInt64 x4 &&& 63))) (x4 + (1 : Int32)) A7 _ _ hf
theorem gt_164_13 {fz : Value} {sc : Nat × (Nat → Int32)} (hfz : fz = .null ∨ fz = .retAddr 60) (N : Nat) (c : Nat → aC) (R : List aC) (d : Nat) (hd : 8 ≤ d) : ∀ (n : Nat) (x1 : Int32) (x2 : Int64) (x4 : Int32) (A : mS) (r : Int64) (A' : mS) (hf : g_164_13 N n x1 x2 x4 A = some (r, A')), v_V fz sc d 164 13 [some (.ref 22), some (.int x1), some (.long x2), none, some (.int x4), none, none, none] [] (hM c A R) (fun rv h' => rv = some (.long r) ∧ h' = hM c A' R) := by
  intro n
  induction n with
  | zero => intro x1 x2 x4 A r A' hf; cases hf
  | succ n ih =>
    intro x1 x2 x4 A r A' hf
    exact gt_164_13b hfz N c R d hd (g_164_13 N n) ih x1 x2 x4 A r A' hf
