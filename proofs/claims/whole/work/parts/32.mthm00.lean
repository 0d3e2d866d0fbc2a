/-! 32.mthm, piece 0: runs of the model's methods are their mirrored functions (by program) -/
set_option maxRecDepth 100000 in
set_option maxHeartbeats 4000000 in
theorem gt_112 {fz : Value} {sc : Nat × (Nat → Int32)} (hfz : fz = .null ∨ fz = .retAddr 60) (N : Nat) (c : Nat → aC) (R : List aC) (d : Nat) (hd : 0 ≤ d) (x0 : Int32) (x1 : Int32) (x2 : Int32) (A : mS) (r : Int32) (A' : mS) (hf : g_112 N x0 x1 x2 A = some (r, A')) : v_V fz sc d 112 0 [some (.int x0), some (.int x1), some (.int x2)] [] (hM c A R) (fun rv h' => rv = some (.int r) ∧ h' = hM c A' R) := by
  unfold g_112 at hf
  refine v_blk 3 (i' := (bif (a_ic .lt x0 x1) then 8 else 3)) (L' := [some (.int x0), some (.int x1), some (.int x2)]) (st' := []) (h' := (hM c A R)) (fun _ => rfl) ?_
  rcases Bool.eq_false_or_eq_true (a_ic .lt x0 x1) with hb | hb
  · have hf := a_bt hb hf
    refine v_it hb ?_
    obtain ⟨rfl, rfl⟩ := m_rt hf
    exact v_ret 2 (fun _ => rfl) ⟨rfl, rfl⟩
  · have hf := a_be hb hf
    refine v_ie hb ?_
    refine v_blk 3 (i' := (bif (a_ic .gt x0 x2) then 8 else 6)) (L' := [some (.int x0), some (.int x1), some (.int x2)]) (st' := []) (h' := (hM c A R)) (fun _ => rfl) ?_
    rcases Bool.eq_false_or_eq_true (a_ic .gt x0 x2) with hb | hb
    · have hf := a_bt hb hf
      refine v_it hb ?_
      obtain ⟨rfl, rfl⟩ := m_rt hf
      exact v_ret 2 (fun _ => rfl) ⟨rfl, rfl⟩
    · have hf := a_be hb hf
      refine v_ie hb ?_
      obtain ⟨rfl, rfl⟩ := m_rt hf
      exact v_ret 3 (fun _ => rfl) ⟨rfl, rfl⟩
set_option maxRecDepth 100000 in
set_option maxHeartbeats 4000000 in
theorem gt_113 {fz : Value} {sc : Nat × (Nat → Int32)} (hfz : fz = .null ∨ fz = .retAddr 60) (N : Nat) (c : Nat → aC) (R : List aC) (d : Nat) (hd : 1 ≤ d) (x0 : Int32) (A : mS) (r : Int32) (A' : mS) (hf : g_113 N x0 A = some (r, A')) : v_V fz sc d 113 0 [some (.int x0)] [] (hM c A R) (fun rv h' => rv = some (.int r) ∧ h' = hM c A' R) := by
  unfold g_113 at hf
  obtain ⟨d, rfl⟩ : ∃ z, d = z + 1 := ⟨d - 1, by omega⟩
  obtain ⟨r1, A1, hc, hf⟩ := m_bd_ok hf
  refine v_call 4 (k' := 112) (i' := 4) (E := [some (.int x0), some (.int (0 : Int32)), some (.int (3 : Int32))]) (L' := [some (.int x0)]) (rest := []) (h1 := (hM c A R)) (fun _ => rfl) ?_
  refine v_post (gt_112 hfz N c R d (by omega) x0 (0 : Int32) (3 : Int32) A _ _ hc) ?_
  rintro rv h' ⟨rfl, rfl⟩
  obtain ⟨hg, hf⟩ := a_bif hf
  obtain ⟨rfl, rfl⟩ := m_rt hf
  exact v_retg 1 (fun _ => rfl) hg ⟨rfl, rfl⟩
set_option maxRecDepth 100000 in
set_option maxHeartbeats 4000000 in
theorem gt_114 {fz : Value} {sc : Nat × (Nat → Int32)} (hfz : fz = .null ∨ fz = .retAddr 60) (N : Nat) (c : Nat → aC) (R : List aC) (d : Nat) (hd : 1 ≤ d) (x1 : Int32) (A : mS) (r : Int32) (A' : mS) (hf : g_114 N x1 A = some (r, A')) : v_V fz sc d 114 0 [some (.ref 22), some (.int x1)] [] (hM c A R) (fun rv h' => rv = some (.int r) ∧ h' = hM c A' R) := by
  unfold g_114 at hf
  obtain ⟨d, rfl⟩ : ∃ z, d = z + 1 := ⟨d - 1, by omega⟩
  obtain ⟨r1, A1, hc, hf⟩ := m_bd_ok hf
  refine v_call 9 (k' := 112) (i' := 9) (E := [some (.int x1), some (.int (0 : Int32)), some (.int (((A 0) 11) - (1 : Int32)))]) (L' := [some (.ref 22), some (.int x1)]) (rest := []) (h1 := (hM c A R)) (fun _ => rfl) ?_
  refine v_post (gt_112 hfz N c R d (by omega) x1 (0 : Int32) (((A 0) 11) - (1 : Int32)) A _ _ hc) ?_
  rintro rv h' ⟨rfl, rfl⟩
  obtain ⟨hg, hf⟩ := a_bif hf
  obtain ⟨rfl, rfl⟩ := m_rt hf
  exact v_retg 1 (fun _ => rfl) hg ⟨rfl, rfl⟩
set_option maxRecDepth 100000 in
set_option maxHeartbeats 4000000 in
theorem gt_115_2b {fz : Value} {sc : Nat × (Nat → Int32)} (hfz : fz = .null ∨ fz = .retAddr 60) (N : Nat) (c : Nat → aC) (R : List aC) (d : Nat) (hd : 0 ≤ d) (rc2 : Int32 → mS → Option (Int32 × mS)) (hrc2 : ∀ (x1 : Int32) (A : mS) (r : Int32) (A' : mS), rc2 x1 A = some (r, A') → v_V fz sc d 115 2 [some (.ref 22), some (.int x1)] [] (hM c A R) (fun rv h' => rv = none ∧ h' = hM c A' R)) (x1 : Int32) (A : mS) (r : Int32) (A' : mS) (hf : g_115_2b N rc2 x1 A = some (r, A')) : v_V fz sc d 115 2 [some (.ref 22), some (.int x1)] [] (hM c A R) (fun rv h' => rv = none ∧ h' = hM c A' R) := by
  unfold g_115_2b at hf
  refine v_blk 3 (i' := (bif (a_ic .ge x1 (11 : Int32)) then 15 else 5)) (L' := [some (.ref 22), some (.int x1)]) (st' := []) (h' := (hM c A R)) (fun _ => rfl) ?_
  rcases Bool.eq_false_or_eq_true (a_ic .ge x1 (11 : Int32)) with hb | hb
  · have hf := a_bt hb hf
    refine v_it hb ?_
    obtain ⟨rfl, rfl⟩ := m_rt hf
    exact v_ret 1 (fun _ => rfl) ⟨rfl, rfl⟩
  · have hf := a_be hb hf
    refine v_ie hb ?_
    obtain ⟨hg, hf⟩ := a_bif hf
    refine v_grd 7 (i' := 12) (L' := [some (.ref 22), some (.int x1)]) (st' := [(.int ((A 0) (x1).toNatClampNeg)), (.int x1), (.ref 25)]) (h' := (hM c A R)) (fun _ => rfl) hg ?_
    obtain ⟨y1, hy, hf⟩ := m_li_ok hf
    rw [hy]
    obtain ⟨hg, hf⟩ := a_bif hf
    refine v_grd 1 (i' := 13) (L' := [some (.ref 22), some (.int x1)]) (st' := []) (h' := (hM c (va_up A 2 (upd (A 2) (x1).toNatClampNeg y1)) R)) (fun _ => rfl) hg ?_
    obtain ⟨A2, hA, hf⟩ := m_st_ok hf
    rw [hA]
    refine v_blk 2 (i' := 2) (L' := [some (.ref 22), some (.int (x1 + (1 : Int32)))]) (st' := []) (h' := (hM c A2 R)) (fun _ => rfl) ?_
    exact hrc2 (x1 + (1 : Int32)) A2 _ _ hf
theorem gt_115_2 {fz : Value} {sc : Nat × (Nat → Int32)} (hfz : fz = .null ∨ fz = .retAddr 60) (N : Nat) (c : Nat → aC) (R : List aC) (d : Nat) (hd : 0 ≤ d) : ∀ (n : Nat) (x1 : Int32) (A : mS) (r : Int32) (A' : mS) (hf : g_115_2 N n x1 A = some (r, A')), v_V fz sc d 115 2 [some (.ref 22), some (.int x1)] [] (hM c A R) (fun rv h' => rv = none ∧ h' = hM c A' R) := by
  intro n
  induction n with
  | zero => intro x1 A r A' hf; cases hf
  | succ n ih =>
    intro x1 A r A' hf
    exact gt_115_2b hfz N c R d hd (g_115_2 N n) ih x1 A r A' hf
set_option maxRecDepth 100000 in
set_option maxHeartbeats 4000000 in
theorem gt_115 {fz : Value} {sc : Nat × (Nat → Int32)} (hfz : fz = .null ∨ fz = .retAddr 60) (N : Nat) (c : Nat → aC) (R : List aC) (d : Nat) (hd : 0 ≤ d) (A : mS) (r : Int32) (A' : mS) (hf : g_115 N  A = some (r, A')) : v_V fz sc d 115 0 [some (.ref 22), none] [] (hM c A R) (fun rv h' => rv = none ∧ h' = hM c A' R) := by
  unfold g_115 at hf
  refine v_blk 2 (i' := 2) (L' := [some (.ref 22), some (.int (0 : Int32))]) (st' := []) (h' := (hM c A R)) (fun _ => rfl) ?_
  exact gt_115_2 hfz N c R d hd N (0 : Int32) A _ _ hf
set_option maxRecDepth 100000 in
set_option maxHeartbeats 4000000 in
theorem gt_116_2b {fz : Value} {sc : Nat × (Nat → Int32)} (hfz : fz = .null ∨ fz = .retAddr 60) (N : Nat) (c : Nat → aC) (R : List aC) (d : Nat) (hd : 0 ≤ d) (rc2 : Int32 → mS → Option (Int32 × mS)) (hrc2 : ∀ (x1 : Int32) (A : mS) (r : Int32) (A' : mS), rc2 x1 A = some (r, A') → v_V fz sc d 116 2 [some (.ref 22), some (.int x1)] [] (hM c A R) (fun rv h' => rv = none ∧ h' = hM c A' R)) (x1 : Int32) (A : mS) (r : Int32) (A' : mS) (hf : g_116_2b N rc2 x1 A = some (r, A')) : v_V fz sc d 116 2 [some (.ref 22), some (.int x1)] [] (hM c A R) (fun rv h' => rv = none ∧ h' = hM c A' R) := by
  unfold g_116_2b at hf
  refine v_blk 3 (i' := (bif (a_ic .ge x1 (11 : Int32)) then 15 else 5)) (L' := [some (.ref 22), some (.int x1)]) (st' := []) (h' := (hM c A R)) (fun _ => rfl) ?_
  rcases Bool.eq_false_or_eq_true (a_ic .ge x1 (11 : Int32)) with hb | hb
  · have hf := a_bt hb hf
    refine v_it hb ?_
    obtain ⟨rfl, rfl⟩ := m_rt hf
    exact v_ret 1 (fun _ => rfl) ⟨rfl, rfl⟩
  · have hf := a_be hb hf
    refine v_ie hb ?_
    obtain ⟨hg, hf⟩ := a_bif hf
    refine v_grd 7 (i' := 12) (L' := [some (.ref 22), some (.int x1)]) (st' := [(.int ((A 2) (x1).toNatClampNeg)), (.int x1), (.ref 23)]) (h' := (hM c A R)) (fun _ => rfl) hg ?_
    obtain ⟨y1, hy, hf⟩ := m_li_ok hf
    rw [hy]
    obtain ⟨hg, hf⟩ := a_bif hf
    refine v_grd 1 (i' := 13) (L' := [some (.ref 22), some (.int x1)]) (st' := []) (h' := (hM c (va_up A 0 (upd (A 0) (x1).toNatClampNeg y1)) R)) (fun _ => rfl) hg ?_
    obtain ⟨A2, hA, hf⟩ := m_st_ok hf
    rw [hA]
    refine v_blk 2 (i' := 2) (L' := [some (.ref 22), some (.int (x1 + (1 : Int32)))]) (st' := []) (h' := (hM c A2 R)) (fun _ => rfl) ?_
    exact hrc2 (x1 + (1 : Int32)) A2 _ _ hf
theorem gt_116_2 {fz : Value} {sc : Nat × (Nat → Int32)} (hfz : fz = .null ∨ fz = .retAddr 60) (N : Nat) (c : Nat → aC) (R : List aC) (d : Nat) (hd : 0 ≤ d) : ∀ (n : Nat) (x1 : Int32) (A : mS) (r : Int32) (A' : mS) (hf : g_116_2 N n x1 A = some (r, A')), v_V fz sc d 116 2 [some (.ref 22), some (.int x1)] [] (hM c A R) (fun rv h' => rv = none ∧ h' = hM c A' R) := by
  intro n
  induction n with
  | zero => intro x1 A r A' hf; cases hf
  | succ n ih =>
    intro x1 A r A' hf
    exact gt_116_2b hfz N c R d hd (g_116_2 N n) ih x1 A r A' hf
set_option maxRecDepth 100000 in
set_option maxHeartbeats 4000000 in
theorem gt_116 {fz : Value} {sc : Nat × (Nat → Int32)} (hfz : fz = .null ∨ fz = .retAddr 60) (N : Nat) (c : Nat → aC) (R : List aC) (d : Nat) (hd : 0 ≤ d) (A : mS) (r : Int32) (A' : mS) (hf : g_116 N  A = some (r, A')) : v_V fz sc d 116 0 [some (.ref 22), none] [] (hM c A R) (fun rv h' => rv = none ∧ h' = hM c A' R) := by
  unfold g_116 at hf
  refine v_blk 2 (i' := 2) (L' := [some (.ref 22), some (.int (0 : Int32))]) (st' := []) (h' := (hM c A R)) (fun _ => rfl) ?_
  exact gt_116_2 hfz N c R d hd N (0 : Int32) A _ _ hf
set_option maxRecDepth 100000 in
set_option maxHeartbeats 4000000 in
theorem gt_117 {fz : Value} {sc : Nat × (Nat → Int32)} (hfz : fz = .null ∨ fz = .retAddr 60) (N : Nat) (c : Nat → aC) (R : List aC) (d : Nat) (hd : 1 ≤ d) (x1 : Int32) (A : mS) (r : Int32) (A' : mS) (hf : g_117 N x1 A = some (r, A')) : v_V fz sc d 117 0 [some (.ref 22), some (.int x1)] [] (hM c A R) (fun rv h' => rv = some (.int r) ∧ h' = hM c A' R) := by
  unfold g_117 at hf
  obtain ⟨d, rfl⟩ : ∃ z, d = z + 1 := ⟨d - 1, by omega⟩
  obtain ⟨r1, A1, hc, hf⟩ := m_bd_ok hf
  refine v_call 4 (k' := 112) (i' := 4) (E := [some (.int x1), some (.int (0 : Int32)), some (.int (127 : Int32))]) (L' := [some (.ref 22), some (.int x1)]) (rest := []) (h1 := (hM c A R)) (fun _ => rfl) ?_
  refine v_post (gt_112 hfz N c R d (by omega) x1 (0 : Int32) (127 : Int32) A _ _ hc) ?_
  rintro rv h' ⟨rfl, rfl⟩
  refine v_blk 1 (i' := (bif (a_ic .ne r1 (0 : Int32)) then 7 else 5)) (L' := [some (.ref 22), some (.int x1)]) (st' := []) (h' := (hM c A1 R)) (fun _ => rfl) ?_
  rcases Bool.eq_false_or_eq_true (a_ic .ne r1 (0 : Int32)) with hb | hb
  · have hf := a_bt hb hf
    refine v_it hb ?_
    refine v_blk 6 (i' := (bif (a_ic .ne ((A1 0) 16) (120 : Int32)) then 15 else 13)) (L' := [some (.ref 22), some (.int x1)]) (st' := []) (h' := (hM c A1 R)) (fun _ => rfl) ?_
    rcases Bool.eq_false_or_eq_true (a_ic .ne ((A1 0) 16) (120 : Int32)) with hb | hb
    · have hf := a_bt hb hf
      refine v_it hb ?_
      obtain ⟨hg, hf⟩ := a_bif hf
      refine v_grd 10 (i' := 25) (L' := [some (.ref 22), some (.int x1)]) (st' := []) (h' := (hM c (va_up A1 0 (upd (A1 0) (((20 : Int32) + ((A1 0) 16))).toNatClampNeg x1)) R)) (fun _ => rfl) hg ?_
      obtain ⟨A2, hA, hf⟩ := m_st_ok hf
      rw [hA]
      obtain ⟨rfl, rfl⟩ := m_rt hf
      exact v_ret 13 (fun _ => rfl) ⟨rfl, rfl⟩
    · have hf := a_be hb hf
      refine v_ie hb ?_
      obtain ⟨rfl, rfl⟩ := m_rt hf
      exact v_ret 2 (fun _ => rfl) ⟨rfl, rfl⟩
  · have hf := a_be hb hf
    refine v_ie hb ?_
    obtain ⟨rfl, rfl⟩ := m_rt hf
    exact v_ret 2 (fun _ => rfl) ⟨rfl, rfl⟩
set_option maxRecDepth 100000 in
set_option maxHeartbeats 4000000 in
theorem gt_118 {fz : Value} {sc : Nat × (Nat → Int32)} (hfz : fz = .null ∨ fz = .retAddr 60) (N : Nat) (c : Nat → aC) (R : List aC) (d : Nat) (hd : 0 ≤ d) (A : mS) (r : Int32) (A' : mS) (hf : g_118 N  A = some (r, A')) : v_V fz sc d 118 0 [some (.ref 22)] [] (hM c A R) (fun rv h' => rv = some (.int r) ∧ h' = hM c A' R) := by
  unfold g_118 at hf
  refine v_blk 5 (i' := (bif (a_ic .ge (A 99 6) (A 99 7)) then 13 else 5)) (L' := [some (.ref 22)]) (st' := []) (h' := (hM c A R)) (fun _ => rfl) ?_
  rcases Bool.eq_false_or_eq_true (a_ic .ge (A 99 6) (A 99 7)) with hb | hb
  · have hf := a_bt hb hf
    refine v_it hb ?_
    obtain ⟨rfl, rfl⟩ := m_rt hf
    exact v_ret 2 (fun _ => rfl) ⟨rfl, rfl⟩
  · have hf := a_be hb hf
    refine v_ie hb ?_
    obtain ⟨hg, hf⟩ := a_bif hf
    refine v_grd 7 (i' := 12) (L' := [some (.ref 22)]) (st' := [(.int ((A 0) (((20 : Int32) + (A 99 6))).toNatClampNeg))]) (h' := (hM c A R)) (fun _ => rfl) hg ?_
    obtain ⟨y1, hy, hf⟩ := m_li_ok hf
    rw [hy]
    obtain ⟨rfl, rfl⟩ := m_rt hf
    exact v_ret 2 (fun _ => rfl) ⟨rfl, rfl⟩
set_option maxRecDepth 100000 in
set_option maxHeartbeats 4000000 in
theorem gt_119_11 {fz : Value} {sc : Nat × (Nat → Int32)} (hfz : fz = .null ∨ fz = .retAddr 60) (N : Nat) (c : Nat → aC) (R : List aC) (d : Nat) (hd : 1 ≤ d) (t1 : Int32) (A : mS) (r : Int32) (A' : mS) (hf : g_119_11 N t1 A = some (r, A')) : v_V fz sc d 119 11 [some (.ref 22), none] [(.int t1), (.ref 22)] (hM c A R) (fun rv h' => rv = none ∧ h' = hM c A' R) := by
  unfold g_119_11 at hf
  obtain ⟨d, rfl⟩ : ∃ z, d = z + 1 := ⟨d - 1, by omega⟩
  obtain ⟨hg, hf⟩ := a_bif hf
  refine v_grd 1 (i' := 12) (L' := [some (.ref 22), none]) (st' := []) (h' := (hM c (va_up A 99 (upd (A 99) 8 t1)) R)) (fun _ => rfl) hg ?_
  obtain ⟨A2, hA, hf⟩ := m_st_ok hf
  rw [hA]
  refine v_blk 6 (i' := (bif (a_ic .eq (A2 99 8) (0 : Int32)) then 20 else 18)) (L' := [some (.ref 22), none]) (st' := [(.int (A2 99 6)), (.ref 22)]) (h' := (hM c A2 R)) (fun _ => rfl) ?_
  rcases Bool.eq_false_or_eq_true (a_ic .eq (A2 99 8) (0 : Int32)) with hb | hb
  · have hf := a_bt hb hf
    refine v_it hb ?_
    obtain ⟨rfl, rfl⟩ := m_rt hf
    exact v_ret 4 (fun _ => rfl) ⟨rfl, rfl⟩
  · have hf := a_be hb hf
    refine v_ie hb ?_
    obtain ⟨rfl, rfl⟩ := m_rt hf
    exact v_ret 5 (fun _ => rfl) ⟨rfl, rfl⟩
set_option maxRecDepth 100000 in
set_option maxHeartbeats 4000000 in
theorem gt_119_8 {fz : Value} {sc : Nat × (Nat → Int32)} (hfz : fz = .null ∨ fz = .retAddr 60) (N : Nat) (c : Nat → aC) (R : List aC) (d : Nat) (hd : 1 ≤ d) (A : mS) (r : Int32) (A' : mS) (hf : g_119_8 N  A = some (r, A')) : v_V fz sc d 119 8 [some (.ref 22), none] [(.ref 22)] (hM c A R) (fun rv h' => rv = none ∧ h' = hM c A' R) := by
  unfold g_119_8 at hf
  obtain ⟨d, rfl⟩ : ∃ z, d = z + 1 := ⟨d - 1, by omega⟩
  refine v_blk 2 (i' := 11) (L' := [some (.ref 22), none]) (st' := [(.int (1 : Int32)), (.ref 22)]) (h' := (hM c A R)) (fun _ => rfl) ?_
  exact gt_119_11 hfz N c R (d + 1) hd (1 : Int32) A _ _ hf
set_option maxRecDepth 100000 in
set_option maxHeartbeats 4000000 in
theorem gt_119 {fz : Value} {sc : Nat × (Nat → Int32)} (hfz : fz = .null ∨ fz = .retAddr 60) (N : Nat) (c : Nat → aC) (R : List aC) (d : Nat) (hd : 1 ≤ d) (x1 : Int32) (A : mS) (r : Int32) (A' : mS) (hf : g_119 N x1 A = some (r, A')) : v_V fz sc d 119 0 [some (.ref 22), some (.int x1)] [] (hM c A R) (fun rv h' => rv = none ∧ h' = hM c A' R) := by
  unfold g_119 at hf
  obtain ⟨d, rfl⟩ : ∃ z, d = z + 1 := ⟨d - 1, by omega⟩
  refine v_blk 4 (i' := (bif (a_ic .ne (A 99 8) (0 : Int32)) then 8 else 4)) (L' := [some (.ref 22), some (.int x1)]) (st' := [(.ref 22)]) (h' := (hM c A R)) (fun _ => rfl) ?_
  rcases Bool.eq_false_or_eq_true (a_ic .ne (A 99 8) (0 : Int32)) with hb | hb
  · have hf := a_bt hb hf
    refine v_it hb ?_
    refine v_weak (L' := [some (.ref 22), none]) (show a_wk [some (.ref 22), none] [some (.ref 22), some (.int x1)] from ⟨rfl, ⟨(fun v hv => by cases hv; rfl), trivial⟩⟩) ?_
    exact gt_119_8 hfz N c R (d + 1) hd  A _ _ hf
  · have hf := a_be hb hf
    refine v_ie hb ?_
    obtain ⟨r1, A1, hc, hf⟩ := m_bd_ok hf
    refine v_call 2 (k' := 118) (i' := 6) (E := [some (.ref 22)]) (L' := [some (.ref 22), some (.int x1)]) (rest := [(.ref 22)]) (h1 := (hM c A R)) (fun _ => rfl) ?_
    refine v_post (gt_118 hfz N c R d (by omega)  A _ _ hc) ?_
    rintro rv h' ⟨rfl, rfl⟩
    refine v_blk 2 (i' := (bif (a_ic .eq r1 x1) then 10 else 8)) (L' := [some (.ref 22), some (.int x1)]) (st' := [(.ref 22)]) (h' := (hM c A1 R)) (fun _ => rfl) ?_
    rcases Bool.eq_false_or_eq_true (a_ic .eq r1 x1) with hb | hb
    · have hf := a_bt hb hf
      refine v_it hb ?_
      refine v_blk 1 (i' := 11) (L' := [some (.ref 22), some (.int x1)]) (st' := [(.int (0 : Int32)), (.ref 22)]) (h' := (hM c A1 R)) (fun _ => rfl) ?_
      refine v_weak (L' := [some (.ref 22), none]) (show a_wk [some (.ref 22), none] [some (.ref 22), some (.int x1)] from ⟨rfl, ⟨(fun v hv => by cases hv; rfl), trivial⟩⟩) ?_
      exact gt_119_11 hfz N c R (d + 1) hd (0 : Int32) A1 _ _ hf
    · have hf := a_be hb hf
      refine v_ie hb ?_
      refine v_weak (L' := [some (.ref 22), none]) (show a_wk [some (.ref 22), none] [some (.ref 22), some (.int x1)] from ⟨rfl, ⟨(fun v hv => by cases hv; rfl), trivial⟩⟩) ?_
      exact gt_119_8 hfz N c R (d + 1) hd  A1 _ _ hf
set_option maxRecDepth 100000 in
set_option maxHeartbeats 4000000 in
theorem gt_120_2b {fz : Value} {sc : Nat × (Nat → Int32)} (hfz : fz = .null ∨ fz = .retAddr 60) (N : Nat) (c : Nat → aC) (R : List aC) (d : Nat) (hd : 6 ≤ d) (rc2 : Nat → Int32 → mS → Option (Int32 × mS)) (hrc2 : ∀ (x1 : Nat) (x2 : Int32) (A : mS) (r : Int32) (A' : mS), rc2 x1 x2 A = some (r, A') → v_V fz sc d 120 2 [some (.ref 22), some (.retAddr x1), some (.int x2)] [] (hM c A R) (fun rv h' => rv = none ∧ h' = hM c A' R)) (x1 : Nat) (x2 : Int32) (A : mS) (r : Int32) (A' : mS) (hf : g_120_2b N rc2 x1 x2 A = some (r, A')) : v_V fz sc d 120 2 [some (.ref 22), some (.retAddr x1), some (.int x2)] [] (hM c A R) (fun rv h' => rv = none ∧ h' = hM c A' R) := by
  unfold g_120_2b at hf
  obtain ⟨d, rfl⟩ : ∃ z, d = z + 1 := ⟨d - 1, by omega⟩
  obtain ⟨r1, hc, hf⟩ := m_bs_ok hf
  refine v_blk 2 (i' := 4) (L' := [some (.ref 22), some (.retAddr x1), some (.int x2)]) (st' := [(.retAddr x1), (.int x2)]) (h' := (hM c A R)) (fun _ => rfl) ?_
  refine v_cs (n := 0) (w := x1) (kk := 182) (E := [some (.retAddr x1)]) (rest := [(.int x2)]) rfl rfl rfl (t_len_lt hc) rfl rfl rfl ?_
  refine v_post (t_len_ok hfz (by omega) hc) ?_
  rintro rv h' ⟨rfl, rfl⟩
  refine v_blk 1 (i' := (bif (a_ic .ge x2 r1) then 13 else 6)) (L' := [some (.ref 22), some (.retAddr x1), some (.int x2)]) (st' := []) (h' := (hM c A R)) (fun _ => rfl) ?_
  rcases Bool.eq_false_or_eq_true (a_ic .ge x2 r1) with hb | hb
  · have hf := a_bt hb hf
    refine v_it hb ?_
    obtain ⟨rfl, rfl⟩ := m_rt hf
    exact v_ret 1 (fun _ => rfl) ⟨rfl, rfl⟩
  · have hf := a_be hb hf
    refine v_ie hb ?_
    obtain ⟨r2, hc, hf⟩ := m_bs_ok hf
    refine v_blk 3 (i' := 9) (L' := [some (.ref 22), some (.retAddr x1), some (.int x2)]) (st' := [(.int x2), (.retAddr x1), (.ref 22)]) (h' := (hM c A R)) (fun _ => rfl) ?_
    refine v_cs (n := 1) (w := x1) (kk := 183) (E := [some (.retAddr x1), some (.int x2)]) (rest := [(.ref 22)]) rfl rfl rfl (t_chr_lt hc) rfl rfl rfl ?_
    refine v_post (t_chr_ok hfz (by omega) hc) ?_
    rintro rv h' ⟨rfl, rfl⟩
    obtain ⟨r3, A3, hc, hf⟩ := m_bd_ok hf
    refine v_call 1 (k' := 119) (i' := 11) (E := [some (.ref 22), some (.int r2)]) (L' := [some (.ref 22), some (.retAddr x1), some (.int x2)]) (rest := []) (h1 := (hM c A R)) (fun _ => rfl) ?_
    refine v_post (gt_119 hfz N c R d (by omega) r2 A _ _ hc) ?_
    rintro rv h' ⟨rfl, rfl⟩
    refine v_blk 2 (i' := 2) (L' := [some (.ref 22), some (.retAddr x1), some (.int (x2 + (1 : Int32)))]) (st' := []) (h' := (hM c A3 R)) (fun _ => rfl) ?_
    exact hrc2 x1 (x2 + (1 : Int32)) A3 _ _ hf
theorem gt_120_2 {fz : Value} {sc : Nat × (Nat → Int32)} (hfz : fz = .null ∨ fz = .retAddr 60) (N : Nat) (c : Nat → aC) (R : List aC) (d : Nat) (hd : 6 ≤ d) : ∀ (n : Nat) (x1 : Nat) (x2 : Int32) (A : mS) (r : Int32) (A' : mS) (hf : g_120_2 N n x1 x2 A = some (r, A')), v_V fz sc d 120 2 [some (.ref 22), some (.retAddr x1), some (.int x2)] [] (hM c A R) (fun rv h' => rv = none ∧ h' = hM c A' R) := by
  intro n
  induction n with
  | zero => intro x1 x2 A r A' hf; cases hf
  | succ n ih =>
    intro x1 x2 A r A' hf
    exact gt_120_2b hfz N c R d hd (g_120_2 N n) ih x1 x2 A r A' hf
set_option maxRecDepth 100000 in
set_option maxHeartbeats 4000000 in
theorem gt_120 {fz : Value} {sc : Nat × (Nat → Int32)} (hfz : fz = .null ∨ fz = .retAddr 60) (N : Nat) (c : Nat → aC) (R : List aC) (d : Nat) (hd : 6 ≤ d) (x1 : Nat) (A : mS) (r : Int32) (A' : mS) (hf : g_120 N x1 A = some (r, A')) : v_V fz sc d 120 0 [some (.ref 22), some (.retAddr x1), none] [] (hM c A R) (fun rv h' => rv = none ∧ h' = hM c A' R) := by
  unfold g_120 at hf
  obtain ⟨d, rfl⟩ : ∃ z, d = z + 1 := ⟨d - 1, by omega⟩
  refine v_blk 2 (i' := 2) (L' := [some (.ref 22), some (.retAddr x1), some (.int (0 : Int32))]) (st' := []) (h' := (hM c A R)) (fun _ => rfl) ?_
  exact gt_120_2 hfz N c R (d + 1) hd N x1 (0 : Int32) A _ _ hf
set_option maxRecDepth 100000 in
set_option maxHeartbeats 4000000 in
theorem gt_121_34 {fz : Value} {sc : Nat × (Nat → Int32)} (hfz : fz = .null ∨ fz = .retAddr 60) (N : Nat) (c : Nat → aC) (R : List aC) (d : Nat) (hd : 1 ≤ d) (rc18 : Int32 → Int32 → mS → Option (Int32 × mS)) (hrc18 : ∀ (x1 : Int32) (x2 : Int32) (A : mS) (r : Int32) (A' : mS), rc18 x1 x2 A = some (r, A') → v_V fz sc d 121 18 [some (.ref 22), some (.int x1), some (.int x2)] [] (hM c A R) (fun rv h' => rv = some (.int r) ∧ h' = hM c A' R)) (x1 : Int32) (x2 : Int32) (A : mS) (r : Int32) (A' : mS) (hf : g_121_34 N rc18 x1 x2 A = some (r, A')) : v_V fz sc d 121 34 [some (.ref 22), some (.int x1), some (.int x2)] [] (hM c A R) (fun rv h' => rv = some (.int r) ∧ h' = hM c A' R) := by
  unfold g_121_34 at hf
  obtain ⟨d, rfl⟩ : ∃ z, d = z + 1 := ⟨d - 1, by omega⟩
  obtain ⟨r5, A5, hc, hf⟩ := m_bd_ok hf
  refine v_call 5 (k' := 118) (i' := 39) (E := [some (.ref 22)]) (L' := [some (.ref 22), some (.int x1), some (.int x2)]) (rest := [(.int ((10 : Int32) * x1))]) (h1 := (hM c A R)) (fun _ => rfl) ?_
  refine v_post (gt_118 hfz N c R d (by omega)  A _ _ hc) ?_
  rintro rv h' ⟨rfl, rfl⟩
  refine v_blk 12 (i' := 18) (L' := [some (.ref 22), some (.int ((((10 : Int32) * x1) + r5) - (48 : Int32))), some (.int (x2 + (1 : Int32)))]) (st' := []) (h' := (hM c (va_up A5 99 (upd (A5 99) 6 ((A5 99 6) + (1 : Int32)))) R)) (fun _ => rfl) ?_
  exact hrc18 ((((10 : Int32) * x1) + r5) - (48 : Int32)) (x2 + (1 : Int32)) (va_up A5 99 (upd (A5 99) 6 ((A5 99 6) + (1 : Int32)))) _ _ hf
set_option maxRecDepth 100000 in
set_option maxHeartbeats 4000000 in
theorem gt_121_18b {fz : Value} {sc : Nat × (Nat → Int32)} (hfz : fz = .null ∨ fz = .retAddr 60) (N : Nat) (c : Nat → aC) (R : List aC) (d : Nat) (hd : 1 ≤ d) (rc18 : Int32 → Int32 → mS → Option (Int32 × mS)) (hrc18 : ∀ (x1 : Int32) (x2 : Int32) (A : mS) (r : Int32) (A' : mS), rc18 x1 x2 A = some (r, A') → v_V fz sc d 121 18 [some (.ref 22), some (.int x1), some (.int x2)] [] (hM c A R) (fun rv h' => rv = some (.int r) ∧ h' = hM c A' R)) (x1 : Int32) (x2 : Int32) (A : mS) (r : Int32) (A' : mS) (hf : g_121_18b N rc18 x1 x2 A = some (r, A')) : v_V fz sc d 121 18 [some (.ref 22), some (.int x1), some (.int x2)] [] (hM c A R) (fun rv h' => rv = some (.int r) ∧ h' = hM c A' R) := by
  unfold g_121_18b at hf
  obtain ⟨d, rfl⟩ : ∃ z, d = z + 1 := ⟨d - 1, by omega⟩
  refine v_blk 3 (i' := (bif (a_ic .ge x2 (2 : Int32)) then 51 else 21)) (L' := [some (.ref 22), some (.int x1), some (.int x2)]) (st' := []) (h' := (hM c A R)) (fun _ => rfl) ?_
  rcases Bool.eq_false_or_eq_true (a_ic .ge x2 (2 : Int32)) with hb | hb
  · have hf := a_bt hb hf
    refine v_it hb ?_
    obtain ⟨rfl, rfl⟩ := m_rt hf
    exact v_ret 2 (fun _ => rfl) ⟨rfl, rfl⟩
  · have hf := a_be hb hf
    refine v_ie hb ?_
    refine v_blk 3 (i' := (bif (a_ic .ne (A 99 8) (0 : Int32)) then 51 else 24)) (L' := [some (.ref 22), some (.int x1), some (.int x2)]) (st' := []) (h' := (hM c A R)) (fun _ => rfl) ?_
    rcases Bool.eq_false_or_eq_true (a_ic .ne (A 99 8) (0 : Int32)) with hb | hb
    · have hf := a_bt hb hf
      refine v_it hb ?_
      obtain ⟨rfl, rfl⟩ := m_rt hf
      exact v_ret 2 (fun _ => rfl) ⟨rfl, rfl⟩
    · have hf := a_be hb hf
      refine v_ie hb ?_
      obtain ⟨r3, A3, hc, hf⟩ := m_bd_ok hf
      refine v_call 2 (k' := 118) (i' := 26) (E := [some (.ref 22)]) (L' := [some (.ref 22), some (.int x1), some (.int x2)]) (rest := []) (h1 := (hM c A R)) (fun _ => rfl) ?_
      refine v_post (gt_118 hfz N c R d (by omega)  A _ _ hc) ?_
      rintro rv h' ⟨rfl, rfl⟩
      obtain ⟨r4, A4, hc, hf⟩ := m_bd_ok hf
      refine v_call 3 (k' := 112) (i' := 29) (E := [some (.int r3), some (.int (48 : Int32)), some (.int (57 : Int32))]) (L' := [some (.ref 22), some (.int x1), some (.int x2)]) (rest := []) (h1 := (hM c A3 R)) (fun _ => rfl) ?_
      refine v_post (gt_112 hfz N c R d (by omega) r3 (48 : Int32) (57 : Int32) A3 _ _ hc) ?_
      rintro rv h' ⟨rfl, rfl⟩
      refine v_blk 1 (i' := (bif (a_ic .eq r4 (0 : Int32)) then 51 else 30)) (L' := [some (.ref 22), some (.int x1), some (.int x2)]) (st' := []) (h' := (hM c A4 R)) (fun _ => rfl) ?_
      rcases Bool.eq_false_or_eq_true (a_ic .eq r4 (0 : Int32)) with hb | hb
      · have hf := a_bt hb hf
        refine v_it hb ?_
        obtain ⟨rfl, rfl⟩ := m_rt hf
        exact v_ret 2 (fun _ => rfl) ⟨rfl, rfl⟩
      · have hf := a_be hb hf
        refine v_ie hb ?_
        refine v_blk 2 (i' := (bif (a_ic .eq x2 (0 : Int32)) then 34 else 32)) (L' := [some (.ref 22), some (.int x1), some (.int x2)]) (st' := []) (h' := (hM c A4 R)) (fun _ => rfl) ?_
        rcases Bool.eq_false_or_eq_true (a_ic .eq x2 (0 : Int32)) with hb | hb
        · have hf := a_bt hb hf
          refine v_it hb ?_
          exact gt_121_34 hfz N c R (d + 1) hd rc18 hrc18 x1 x2 A4 _ _ hf
        · have hf := a_be hb hf
          refine v_ie hb ?_
          refine v_blk 2 (i' := (bif (a_ic .le x1 (0 : Int32)) then 51 else 34)) (L' := [some (.ref 22), some (.int x1), some (.int x2)]) (st' := []) (h' := (hM c A4 R)) (fun _ => rfl) ?_
          rcases Bool.eq_false_or_eq_true (a_ic .le x1 (0 : Int32)) with hb | hb
          · have hf := a_bt hb hf
            refine v_it hb ?_
            obtain ⟨rfl, rfl⟩ := m_rt hf
            exact v_ret 2 (fun _ => rfl) ⟨rfl, rfl⟩
          · have hf := a_be hb hf
            refine v_ie hb ?_
            exact gt_121_34 hfz N c R (d + 1) hd rc18 hrc18 x1 x2 A4 _ _ hf
theorem gt_121_18 {fz : Value} {sc : Nat × (Nat → Int32)} (hfz : fz = .null ∨ fz = .retAddr 60) (N : Nat) (c : Nat → aC) (R : List aC) (d : Nat) (hd : 1 ≤ d) : ∀ (n : Nat) (x1 : Int32) (x2 : Int32) (A : mS) (r : Int32) (A' : mS) (hf : g_121_18 N n x1 x2 A = some (r, A')), v_V fz sc d 121 18 [some (.ref 22), some (.int x1), some (.int x2)] [] (hM c A R) (fun rv h' => rv = some (.int r) ∧ h' = hM c A' R) := by
  intro n
  induction n with
  | zero => intro x1 x2 A r A' hf; cases hf
  | succ n ih =>
    intro x1 x2 A r A' hf
    exact gt_121_18b hfz N c R d hd (g_121_18 N n) ih x1 x2 A r A' hf
set_option maxRecDepth 100000 in
set_option maxHeartbeats 4000000 in
theorem gt_121_10 {fz : Value} {sc : Nat × (Nat → Int32)} (hfz : fz = .null ∨ fz = .retAddr 60) (N : Nat) (c : Nat → aC) (R : List aC) (d : Nat) (hd : 1 ≤ d) (A : mS) (r : Int32) (A' : mS) (hf : g_121_10 N  A = some (r, A')) : v_V fz sc d 121 10 [some (.ref 22), none, none] [(.ref 22)] (hM c A R) (fun rv h' => rv = some (.int r) ∧ h' = hM c A' R) := by
  unfold g_121_10 at hf
  obtain ⟨d, rfl⟩ : ∃ z, d = z + 1 := ⟨d - 1, by omega⟩
  refine v_blk 7 (i' := 18) (L' := [some (.ref 22), some (.int (0 : Int32)), some (.int (0 : Int32))]) (st' := []) (h' := (hM c (va_up A 99 (upd (A 99) 8 (1 : Int32))) R)) (fun _ => rfl) ?_
  exact gt_121_18 hfz N c R (d + 1) hd N (0 : Int32) (0 : Int32) (va_up A 99 (upd (A 99) 8 (1 : Int32))) _ _ hf
set_option maxRecDepth 100000 in
set_option maxHeartbeats 4000000 in
theorem gt_121 {fz : Value} {sc : Nat × (Nat → Int32)} (hfz : fz = .null ∨ fz = .retAddr 60) (N : Nat) (c : Nat → aC) (R : List aC) (d : Nat) (hd : 1 ≤ d) (A : mS) (r : Int32) (A' : mS) (hf : g_121 N  A = some (r, A')) : v_V fz sc d 121 0 [some (.ref 22), none, none] [] (hM c A R) (fun rv h' => rv = some (.int r) ∧ h' = hM c A' R) := by
  unfold g_121 at hf
  obtain ⟨d, rfl⟩ : ∃ z, d = z + 1 := ⟨d - 1, by omega⟩
  refine v_blk 4 (i' := (bif (a_ic .ne (A 99 8) (0 : Int32)) then 10 else 4)) (L' := [some (.ref 22), none, none]) (st' := [(.ref 22)]) (h' := (hM c A R)) (fun _ => rfl) ?_
  rcases Bool.eq_false_or_eq_true (a_ic .ne (A 99 8) (0 : Int32)) with hb | hb
  · have hf := a_bt hb hf
    refine v_it hb ?_
    exact gt_121_10 hfz N c R (d + 1) hd  A _ _ hf
  · have hf := a_be hb hf
    refine v_ie hb ?_
    obtain ⟨r1, A1, hc, hf⟩ := m_bd_ok hf
    refine v_call 2 (k' := 118) (i' := 6) (E := [some (.ref 22)]) (L' := [some (.ref 22), none, none]) (rest := [(.ref 22)]) (h1 := (hM c A R)) (fun _ => rfl) ?_
    refine v_post (gt_118 hfz N c R d (by omega)  A _ _ hc) ?_
    rintro rv h' ⟨rfl, rfl⟩
    obtain ⟨r2, A2, hc, hf⟩ := m_bd_ok hf
    refine v_call 3 (k' := 112) (i' := 9) (E := [some (.int r1), some (.int (48 : Int32)), some (.int (57 : Int32))]) (L' := [some (.ref 22), none, none]) (rest := [(.ref 22)]) (h1 := (hM c A1 R)) (fun _ => rfl) ?_
    refine v_post (gt_112 hfz N c R d (by omega) r1 (48 : Int32) (57 : Int32) A1 _ _ hc) ?_
    rintro rv h' ⟨rfl, rfl⟩
    refine v_blk 1 (i' := (bif (a_ic .ne r2 (0 : Int32)) then 12 else 10)) (L' := [some (.ref 22), none, none]) (st' := [(.ref 22)]) (h' := (hM c A2 R)) (fun _ => rfl) ?_
    rcases Bool.eq_false_or_eq_true (a_ic .ne r2 (0 : Int32)) with hb | hb
    · have hf := a_bt hb hf
      refine v_it hb ?_
      refine v_blk 6 (i' := 18) (L' := [some (.ref 22), some (.int (0 : Int32)), some (.int (0 : Int32))]) (st' := []) (h' := (hM c (va_up A2 99 (upd (A2 99) 8 (0 : Int32))) R)) (fun _ => rfl) ?_
      exact gt_121_18 hfz N c R (d + 1) hd N (0 : Int32) (0 : Int32) (va_up A2 99 (upd (A2 99) 8 (0 : Int32))) _ _ hf
    · have hf := a_be hb hf
      refine v_ie hb ?_
      exact gt_121_10 hfz N c R (d + 1) hd  A2 _ _ hf
set_option maxRecDepth 100000 in
set_option maxHeartbeats 4000000 in
theorem gt_122_2b {fz : Value} {sc : Nat × (Nat → Int32)} (hfz : fz = .null ∨ fz = .retAddr 60) (N : Nat) (c : Nat → aC) (R : List aC) (d : Nat) (hd : 6 ≤ d) (rc2 : Nat → Int32 → mS → Option (Int32 × mS)) (hrc2 : ∀ (x1 : Nat) (x2 : Int32) (A : mS) (r : Int32) (A' : mS), rc2 x1 x2 A = some (r, A') → v_V fz sc d 122 2 [some (.ref 22), some (.retAddr x1), some (.int x2)] [] (hM c A R) (fun rv h' => rv = some (.int r) ∧ h' = hM c A' R)) (x1 : Nat) (x2 : Int32) (A : mS) (r : Int32) (A' : mS) (hf : g_122_2b N rc2 x1 x2 A = some (r, A')) : v_V fz sc d 122 2 [some (.ref 22), some (.retAddr x1), some (.int x2)] [] (hM c A R) (fun rv h' => rv = some (.int r) ∧ h' = hM c A' R) := by
  unfold g_122_2b at hf
  obtain ⟨d, rfl⟩ : ∃ z, d = z + 1 := ⟨d - 1, by omega⟩
  obtain ⟨r1, hc, hf⟩ := m_bs_ok hf
  refine v_blk 2 (i' := 4) (L' := [some (.ref 22), some (.retAddr x1), some (.int x2)]) (st' := [(.retAddr x1), (.int x2)]) (h' := (hM c A R)) (fun _ => rfl) ?_
  refine v_cs (n := 0) (w := x1) (kk := 182) (E := [some (.retAddr x1)]) (rest := [(.int x2)]) rfl rfl rfl (t_len_lt hc) rfl rfl rfl ?_
  refine v_post (t_len_ok hfz (by omega) hc) ?_
  rintro rv h' ⟨rfl, rfl⟩
  refine v_blk 1 (i' := (bif (a_ic .ge x2 r1) then 22 else 6)) (L' := [some (.ref 22), some (.retAddr x1), some (.int x2)]) (st' := []) (h' := (hM c A R)) (fun _ => rfl) ?_
  rcases Bool.eq_false_or_eq_true (a_ic .ge x2 r1) with hb | hb
  · have hf := a_bt hb hf
    refine v_it hb ?_
    obtain ⟨rfl, rfl⟩ := m_rt hf
    exact v_ret 2 (fun _ => rfl) ⟨rfl, rfl⟩
  · have hf := a_be hb hf
    refine v_ie hb ?_
    obtain ⟨r2, A2, hc, hf⟩ := m_bd_ok hf
    refine v_call 2 (k' := 118) (i' := 8) (E := [some (.ref 22)]) (L' := [some (.ref 22), some (.retAddr x1), some (.int x2)]) (rest := []) (h1 := (hM c A R)) (fun _ => rfl) ?_
    refine v_post (gt_118 hfz N c R d (by omega)  A _ _ hc) ?_
    rintro rv h' ⟨rfl, rfl⟩
    obtain ⟨r3, hc, hf⟩ := m_bs_ok hf
    refine v_blk 2 (i' := 10) (L' := [some (.ref 22), some (.retAddr x1), some (.int x2)]) (st' := [(.int x2), (.retAddr x1), (.int r2)]) (h' := (hM c A2 R)) (fun _ => rfl) ?_
    refine v_cs (n := 1) (w := x1) (kk := 183) (E := [some (.retAddr x1), some (.int x2)]) (rest := [(.int r2)]) rfl rfl rfl (t_chr_lt hc) rfl rfl rfl ?_
    refine v_post (t_chr_ok hfz (by omega) hc) ?_
    rintro rv h' ⟨rfl, rfl⟩
    refine v_blk 1 (i' := (bif (a_ic .ne r2 r3) then 20 else 12)) (L' := [some (.ref 22), some (.retAddr x1), some (.int x2)]) (st' := []) (h' := (hM c A2 R)) (fun _ => rfl) ?_
    rcases Bool.eq_false_or_eq_true (a_ic .ne r2 r3) with hb | hb
    · have hf := a_bt hb hf
      refine v_it hb ?_
      refine v_blk 2 (i' := 2) (L' := [some (.ref 22), some (.retAddr x1), some (.int (x2 + (1 : Int32)))]) (st' := []) (h' := (hM c A2 R)) (fun _ => rfl) ?_
      exact hrc2 x1 (x2 + (1 : Int32)) A2 _ _ hf
    · have hf := a_be hb hf
      refine v_ie hb ?_
      obtain ⟨rfl, rfl⟩ := m_rt hf
      exact v_ret 8 (fun _ => rfl) ⟨rfl, rfl⟩
theorem gt_122_2 {fz : Value} {sc : Nat × (Nat → Int32)} (hfz : fz = .null ∨ fz = .retAddr 60) (N : Nat) (c : Nat → aC) (R : List aC) (d : Nat) (hd : 6 ≤ d) : ∀ (n : Nat) (x1 : Nat) (x2 : Int32) (A : mS) (r : Int32) (A' : mS) (hf : g_122_2 N n x1 x2 A = some (r, A')), v_V fz sc d 122 2 [some (.ref 22), some (.retAddr x1), some (.int x2)] [] (hM c A R) (fun rv h' => rv = some (.int r) ∧ h' = hM c A' R) := by
  intro n
  induction n with
  | zero => intro x1 x2 A r A' hf; cases hf
  | succ n ih =>
    intro x1 x2 A r A' hf
    exact gt_122_2b hfz N c R d hd (g_122_2 N n) ih x1 x2 A r A' hf
set_option maxRecDepth 100000 in
set_option maxHeartbeats 4000000 in
theorem gt_122 {fz : Value} {sc : Nat × (Nat → Int32)} (hfz : fz = .null ∨ fz = .retAddr 60) (N : Nat) (c : Nat → aC) (R : List aC) (d : Nat) (hd : 6 ≤ d) (x1 : Nat) (A : mS) (r : Int32) (A' : mS) (hf : g_122 N x1 A = some (r, A')) : v_V fz sc d 122 0 [some (.ref 22), some (.retAddr x1), none] [] (hM c A R) (fun rv h' => rv = some (.int r) ∧ h' = hM c A' R) := by
  unfold g_122 at hf
  obtain ⟨d, rfl⟩ : ∃ z, d = z + 1 := ⟨d - 1, by omega⟩
  refine v_blk 2 (i' := 2) (L' := [some (.ref 22), some (.retAddr x1), some (.int (0 : Int32))]) (st' := []) (h' := (hM c A R)) (fun _ => rfl) ?_
  exact gt_122_2 hfz N c R (d + 1) hd N x1 (0 : Int32) A _ _ hf
set_option maxRecDepth 100000 in
set_option maxHeartbeats 4000000 in
theorem gt_123 {fz : Value} {sc : Nat × (Nat → Int32)} (hfz : fz = .null ∨ fz = .retAddr 60) (N : Nat) (c : Nat → aC) (R : List aC) (d : Nat) (hd : 0 ≤ d) (x1 : Int32) (A : mS) (r : Int32) (A' : mS) (hf : g_123 N x1 A = some (r, A')) : v_V fz sc d 123 0 [some (.ref 22), some (.int x1)] [] (hM c A R) (fun rv h' => rv = none ∧ h' = hM c A' R) := by
  unfold g_123 at hf
  refine v_blk 3 (i' := (bif (a_ic .ne (A 99 8) (0 : Int32)) then 32 else 3)) (L' := [some (.ref 22), some (.int x1)]) (st' := []) (h' := (hM c A R)) (fun _ => rfl) ?_
  rcases Bool.eq_false_or_eq_true (a_ic .ne (A 99 8) (0 : Int32)) with hb | hb
  · have hf := a_bt hb hf
    refine v_it hb ?_
    obtain ⟨rfl, rfl⟩ := m_rt hf
    exact v_ret 1 (fun _ => rfl) ⟨rfl, rfl⟩
  · have hf := a_be hb hf
    refine v_ie hb ?_
    obtain ⟨hg, hf⟩ := a_bif hf
    refine v_grd 15 (i' := 18) (L' := [some (.ref 22), some (.int x1)]) (st' := [(.int ((A 0) (((242 : Int32) + (A 99 5))).toNatClampNeg)), (.int ((247 : Int32) + ((140 : Int32) * (A 99 5)))), (.ref 23)]) (h' := (hM c A R)) (fun _ => rfl) hg ?_
    obtain ⟨y1, hy, hf⟩ := m_li_ok hf
    rw [hy]
    obtain ⟨hg, hf⟩ := a_bif hf
    refine v_grd 3 (i' := 21) (L' := [some (.ref 22), some (.int x1)]) (st' := []) (h' := (hM c (va_up A 0 (upd (A 0) ((((247 : Int32) + ((140 : Int32) * (A 99 5))) + y1)).toNatClampNeg x1)) R)) (fun _ => rfl) hg ?_
    obtain ⟨A2, hA, hf⟩ := m_st_ok hf
    rw [hA]
    obtain ⟨hg, hf⟩ := a_bif hf
    refine v_grd 8 (i' := 29) (L' := [some (.ref 22), some (.int x1)]) (st' := [(.int ((A2 0) (((242 : Int32) + (A2 99 5))).toNatClampNeg)), (.int ((242 : Int32) + (A2 99 5))), (.ref 23)]) (h' := (hM c A2 R)) (fun _ => rfl) hg ?_
    obtain ⟨y3, hy, hf⟩ := m_li_ok hf
    rw [hy]
    obtain ⟨hg, hf⟩ := a_bif hf
    refine v_grd 3 (i' := 32) (L' := [some (.ref 22), some (.int x1)]) (st' := []) (h' := (hM c (va_up A2 0 (upd (A2 0) (((242 : Int32) + (A2 99 5))).toNatClampNeg (y3 + (1 : Int32)))) R)) (fun _ => rfl) hg ?_
    obtain ⟨A4, hA, hf⟩ := m_st_ok hf
    rw [hA]
    obtain ⟨rfl, rfl⟩ := m_rt hf
    exact v_ret 1 (fun _ => rfl) ⟨rfl, rfl⟩
set_option maxRecDepth 100000 in
set_option maxHeartbeats 4000000 in
theorem gt_125_2b {fz : Value} {sc : Nat × (Nat → Int32)} (hfz : fz = .null ∨ fz = .retAddr 60) (N : Nat) (rf : mS → Option (Int32 × mS)) (c : Nat → aC) (R : List aC) (D : Nat) (hD : 4 ≤ D) (hrf : ∀ (d : Nat) (A : mS) (r : Int32) (A' : mS), D ≤ d → rf A = some (r, A') → v_V fz sc d 124 0 [some (.ref 22), none, none, none, none] [] (hM c A R) (fun rv h' => rv = none ∧ h' = hM c A' R)) (d : Nat) (hd : D + 1 ≤ d) (rc2 : mS → Option (Int32 × mS)) (hrc2 : ∀ (A : mS) (r : Int32) (A' : mS), rc2  A = some (r, A') → v_V fz sc d 125 2 [some (.ref 22)] [] (hM c A R) (fun rv h' => rv = none ∧ h' = hM c A' R)) (A : mS) (r : Int32) (A' : mS) (hf : g_125_2b N rf rc2  A = some (r, A')) : v_V fz sc d 125 2 [some (.ref 22)] [] (hM c A R) (fun rv h' => rv = none ∧ h' = hM c A' R) := by
  unfold g_125_2b at hf
  obtain ⟨d, rfl⟩ : ∃ z, d = z + 1 := ⟨d - 1, by omega⟩
  refine v_blk 3 (i' := (bif (a_ic .ne (A 99 8) (0 : Int32)) then 21 else 5)) (L' := [some (.ref 22)]) (st' := []) (h' := (hM c A R)) (fun _ => rfl) ?_
  rcases Bool.eq_false_or_eq_true (a_ic .ne (A 99 8) (0 : Int32)) with hb | hb
  · have hf := a_bt hb hf
    refine v_it hb ?_
    obtain ⟨rfl, rfl⟩ := m_rt hf
    exact v_ret 1 (fun _ => rfl) ⟨rfl, rfl⟩
  · have hf := a_be hb hf
    refine v_ie hb ?_
    obtain ⟨r2, A2, hc, hf⟩ := m_bd_ok hf
    refine v_call 2 (k' := 118) (i' := 7) (E := [some (.ref 22)]) (L' := [some (.ref 22)]) (rest := []) (h1 := (hM c A R)) (fun _ => rfl) ?_
    refine v_post (gt_118 hfz N c R d (by omega)  A _ _ hc) ?_
    rintro rv h' ⟨rfl, rfl⟩
    refine v_blk 2 (i' := (bif (a_ic .ne r2 (38 : Int32)) then 21 else 9)) (L' := [some (.ref 22)]) (st' := []) (h' := (hM c A2 R)) (fun _ => rfl) ?_
    rcases Bool.eq_false_or_eq_true (a_ic .ne r2 (38 : Int32)) with hb | hb
    · have hf := a_bt hb hf
      refine v_it hb ?_
      obtain ⟨rfl, rfl⟩ := m_rt hf
      exact v_ret 1 (fun _ => rfl) ⟨rfl, rfl⟩
    · have hf := a_be hb hf
      refine v_ie hb ?_
      obtain ⟨r3, A3, hc, hf⟩ := m_bd_ok hf
      refine v_call 8 (k' := 124) (i' := 17) (E := [some (.ref 22), none, none, none, none]) (L' := [some (.ref 22)]) (rest := []) (h1 := (hM c (va_up A2 99 (upd (A2 99) 6 ((A2 99 6) + (1 : Int32)))) R)) (fun _ => rfl) ?_
      refine v_post (hrf d _ _ _ (by omega) hc) ?_
      rintro rv h' ⟨rfl, rfl⟩
      obtain ⟨r4, A4, hc, hf⟩ := m_bd_ok hf
      refine v_call 3 (k' := 123) (i' := 20) (E := [some (.ref 22), some (.int (-2 : Int32))]) (L' := [some (.ref 22)]) (rest := []) (h1 := (hM c A3 R)) (fun _ => rfl) ?_
      refine v_post (gt_123 hfz N c R d (by omega) (-2 : Int32) A3 _ _ hc) ?_
      rintro rv h' ⟨rfl, rfl⟩
      refine v_blk 1 (i' := 2) (L' := [some (.ref 22)]) (st' := []) (h' := (hM c A4 R)) (fun _ => rfl) ?_
      exact hrc2  A4 _ _ hf
theorem gt_125_2 {fz : Value} {sc : Nat × (Nat → Int32)} (hfz : fz = .null ∨ fz = .retAddr 60) (N : Nat) (rf : mS → Option (Int32 × mS)) (c : Nat → aC) (R : List aC) (D : Nat) (hD : 4 ≤ D) (hrf : ∀ (d : Nat) (A : mS) (r : Int32) (A' : mS), D ≤ d → rf A = some (r, A') → v_V fz sc d 124 0 [some (.ref 22), none, none, none, none] [] (hM c A R) (fun rv h' => rv = none ∧ h' = hM c A' R)) (d : Nat) (hd : D + 1 ≤ d) : ∀ (n : Nat) (A : mS) (r : Int32) (A' : mS) (hf : g_125_2 N rf n  A = some (r, A')), v_V fz sc d 125 2 [some (.ref 22)] [] (hM c A R) (fun rv h' => rv = none ∧ h' = hM c A' R) := by
  intro n
  induction n with
  | zero => intro  A r A' hf; cases hf
  | succ n ih =>
    intro  A r A' hf
    exact gt_125_2b hfz N rf c R D hD hrf d hd (g_125_2 N rf n) ih  A r A' hf
set_option maxRecDepth 100000 in
set_option maxHeartbeats 4000000 in
theorem gt_125 {fz : Value} {sc : Nat × (Nat → Int32)} (hfz : fz = .null ∨ fz = .retAddr 60) (N : Nat) (rf : mS → Option (Int32 × mS)) (c : Nat → aC) (R : List aC) (D : Nat) (hD : 4 ≤ D) (hrf : ∀ (d : Nat) (A : mS) (r : Int32) (A' : mS), D ≤ d → rf A = some (r, A') → v_V fz sc d 124 0 [some (.ref 22), none, none, none, none] [] (hM c A R) (fun rv h' => rv = none ∧ h' = hM c A' R)) (d : Nat) (hd : D + 1 ≤ d) (A : mS) (r : Int32) (A' : mS) (hf : g_125 N rf  A = some (r, A')) : v_V fz sc d 125 0 [some (.ref 22)] [] (hM c A R) (fun rv h' => rv = none ∧ h' = hM c A' R) := by
  unfold g_125 at hf
  obtain ⟨d, rfl⟩ : ∃ z, d = z + 1 := ⟨d - 1, by omega⟩
  obtain ⟨r1, A1, hc, hf⟩ := m_bd_ok hf
  refine v_call 2 (k' := 124) (i' := 2) (E := [some (.ref 22), none, none, none, none]) (L' := [some (.ref 22)]) (rest := []) (h1 := (hM c A R)) (fun _ => rfl) ?_
  refine v_post (hrf d _ _ _ (by omega) hc) ?_
  rintro rv h' ⟨rfl, rfl⟩
  exact gt_125_2 hfz N rf c R D hD hrf (d + 1) hd N  A1 _ _ hf
set_option maxRecDepth 100000 in
set_option maxHeartbeats 4000000 in
theorem gt_126_2b {fz : Value} {sc : Nat × (Nat → Int32)} (hfz : fz = .null ∨ fz = .retAddr 60) (N : Nat) (rf : mS → Option (Int32 × mS)) (c : Nat → aC) (R : List aC) (D : Nat) (hD : 4 ≤ D) (hrf : ∀ (d : Nat) (A : mS) (r : Int32) (A' : mS), D ≤ d → rf A = some (r, A') → v_V fz sc d 124 0 [some (.ref 22), none, none, none, none] [] (hM c A R) (fun rv h' => rv = none ∧ h' = hM c A' R)) (d : Nat) (hd : D + 2 ≤ d) (rc2 : mS → Option (Int32 × mS)) (hrc2 : ∀ (A : mS) (r : Int32) (A' : mS), rc2  A = some (r, A') → v_V fz sc d 126 2 [some (.ref 22)] [] (hM c A R) (fun rv h' => rv = none ∧ h' = hM c A' R)) (A : mS) (r : Int32) (A' : mS) (hf : g_126_2b N rf rc2  A = some (r, A')) : v_V fz sc d 126 2 [some (.ref 22)] [] (hM c A R) (fun rv h' => rv = none ∧ h' = hM c A' R) := by
  unfold g_126_2b at hf
  obtain ⟨d, rfl⟩ : ∃ z, d = z + 1 := ⟨d - 1, by omega⟩
  refine v_blk 3 (i' := (bif (a_ic .ne (A 99 8) (0 : Int32)) then 21 else 5)) (L' := [some (.ref 22)]) (st' := []) (h' := (hM c A R)) (fun _ => rfl) ?_
  rcases Bool.eq_false_or_eq_true (a_ic .ne (A 99 8) (0 : Int32)) with hb | hb
  · have hf := a_bt hb hf
    refine v_it hb ?_
    obtain ⟨rfl, rfl⟩ := m_rt hf
    exact v_ret 1 (fun _ => rfl) ⟨rfl, rfl⟩
  · have hf := a_be hb hf
    refine v_ie hb ?_
    obtain ⟨r2, A2, hc, hf⟩ := m_bd_ok hf
    refine v_call 2 (k' := 118) (i' := 7) (E := [some (.ref 22)]) (L' := [some (.ref 22)]) (rest := []) (h1 := (hM c A R)) (fun _ => rfl) ?_
    refine v_post (gt_118 hfz N c R d (by omega)  A _ _ hc) ?_
    rintro rv h' ⟨rfl, rfl⟩
    refine v_blk 2 (i' := (bif (a_ic .ne r2 (124 : Int32)) then 21 else 9)) (L' := [some (.ref 22)]) (st' := []) (h' := (hM c A2 R)) (fun _ => rfl) ?_
    rcases Bool.eq_false_or_eq_true (a_ic .ne r2 (124 : Int32)) with hb | hb
    · have hf := a_bt hb hf
      refine v_it hb ?_
      obtain ⟨rfl, rfl⟩ := m_rt hf
      exact v_ret 1 (fun _ => rfl) ⟨rfl, rfl⟩
    · have hf := a_be hb hf
      refine v_ie hb ?_
      obtain ⟨r3, A3, hc, hf⟩ := m_bd_ok hf
      refine v_call 8 (k' := 125) (i' := 17) (E := [some (.ref 22)]) (L' := [some (.ref 22)]) (rest := []) (h1 := (hM c (va_up A2 99 (upd (A2 99) 6 ((A2 99 6) + (1 : Int32)))) R)) (fun _ => rfl) ?_
      refine v_post (gt_125 hfz N rf c R D hD hrf d (by omega) (va_up A2 99 (upd (A2 99) 6 ((A2 99 6) + (1 : Int32)))) _ _ hc) ?_
      rintro rv h' ⟨rfl, rfl⟩
      obtain ⟨r4, A4, hc, hf⟩ := m_bd_ok hf
      refine v_call 3 (k' := 123) (i' := 20) (E := [some (.ref 22), some (.int (-3 : Int32))]) (L' := [some (.ref 22)]) (rest := []) (h1 := (hM c A3 R)) (fun _ => rfl) ?_
      refine v_post (gt_123 hfz N c R d (by omega) (-3 : Int32) A3 _ _ hc) ?_
      rintro rv h' ⟨rfl, rfl⟩
      refine v_blk 1 (i' := 2) (L' := [some (.ref 22)]) (st' := []) (h' := (hM c A4 R)) (fun _ => rfl) ?_
      exact hrc2  A4 _ _ hf
theorem gt_126_2 {fz : Value} {sc : Nat × (Nat → Int32)} (hfz : fz = .null ∨ fz = .retAddr 60) (N : Nat) (rf : mS → Option (Int32 × mS)) (c : Nat → aC) (R : List aC) (D : Nat) (hD : 4 ≤ D) (hrf : ∀ (d : Nat) (A : mS) (r : Int32) (A' : mS), D ≤ d → rf A = some (r, A') → v_V fz sc d 124 0 [some (.ref 22), none, none, none, none] [] (hM c A R) (fun rv h' => rv = none ∧ h' = hM c A' R)) (d : Nat) (hd : D + 2 ≤ d) : ∀ (n : Nat) (A : mS) (r : Int32) (A' : mS) (hf : g_126_2 N rf n  A = some (r, A')), v_V fz sc d 126 2 [some (.ref 22)] [] (hM c A R) (fun rv h' => rv = none ∧ h' = hM c A' R) := by
  intro n
  induction n with
  | zero => intro  A r A' hf; cases hf
  | succ n ih =>
    intro  A r A' hf
    exact gt_126_2b hfz N rf c R D hD hrf d hd (g_126_2 N rf n) ih  A r A' hf
set_option maxRecDepth 100000 in
set_option maxHeartbeats 4000000 in
theorem gt_126 {fz : Value} {sc : Nat × (Nat → Int32)} (hfz : fz = .null ∨ fz = .retAddr 60) (N : Nat) (rf : mS → Option (Int32 × mS)) (c : Nat → aC) (R : List aC) (D : Nat) (hD : 4 ≤ D) (hrf : ∀ (d : Nat) (A : mS) (r : Int32) (A' : mS), D ≤ d → rf A = some (r, A') → v_V fz sc d 124 0 [some (.ref 22), none, none, none, none] [] (hM c A R) (fun rv h' => rv = none ∧ h' = hM c A' R)) (d : Nat) (hd : D + 2 ≤ d) (A : mS) (r : Int32) (A' : mS) (hf : g_126 N rf  A = some (r, A')) : v_V fz sc d 126 0 [some (.ref 22)] [] (hM c A R) (fun rv h' => rv = none ∧ h' = hM c A' R) := by
  unfold g_126 at hf
  obtain ⟨d, rfl⟩ : ∃ z, d = z + 1 := ⟨d - 1, by omega⟩
  obtain ⟨r1, A1, hc, hf⟩ := m_bd_ok hf
  refine v_call 2 (k' := 125) (i' := 2) (E := [some (.ref 22)]) (L' := [some (.ref 22)]) (rest := []) (h1 := (hM c A R)) (fun _ => rfl) ?_
  refine v_post (gt_125 hfz N rf c R D hD hrf d (by omega) A _ _ hc) ?_
  rintro rv h' ⟨rfl, rfl⟩
  exact gt_126_2 hfz N rf c R D hD hrf (d + 1) hd N  A1 _ _ hf
