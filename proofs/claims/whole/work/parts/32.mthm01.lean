/-! 32.mthm, piece 1: runs of the model's methods are their mirrored functions (by program) -/
set_option maxRecDepth 100000 in
set_option maxHeartbeats 4000000 in
theorem gt_124_91 {fz : Value} {sc : Nat × (Nat → Int32)} (hfz : fz = .null ∨ fz = .retAddr 60) (N : Nat) (rf : mS → Option (Int32 × mS)) (c : Nat → aC) (R : List aC) (D : Nat) (hD : 4 ≤ D) (hrf : ∀ (d : Nat) (A : mS) (r : Int32) (A' : mS), D ≤ d → rf A = some (r, A') → v_V fz sc d 124 0 [some (.ref 22), none, none, none, none] [] (hM c A R) (fun rv h' => rv = none ∧ h' = hM c A' R)) (d : Nat) (hd : D + 3 ≤ d) (x2 : Int32) (x3 : Int32) (t1 : Int32) (A : mS) (r : Int32) (A' : mS) (hf : g_124_91 N rf x2 x3 t1 A = some (r, A')) : v_V fz sc d 124 91 [some (.ref 22), none, some (.int x2), some (.int x3), none] [(.int t1), (.ref 22)] (hM c A R) (fun rv h' => rv = none ∧ h' = hM c A' R) := by
  unfold g_124_91 at hf
  obtain ⟨d, rfl⟩ : ∃ z, d = z + 1 := ⟨d - 1, by omega⟩
  obtain ⟨hg, hf⟩ := a_bif hf
  refine v_grd 1 (i' := 92) (L' := [some (.ref 22), none, some (.int x2), some (.int x3), none]) (st' := []) (h' := (hM c (va_up A 99 (upd (A 99) 8 t1)) R)) (fun _ => rfl) hg ?_
  obtain ⟨A14, hA, hf⟩ := m_st_ok hf
  rw [hA]
  obtain ⟨r15, A15, hc, hf⟩ := m_bd_ok hf
  refine v_call 2 (k' := 121) (i' := 94) (E := [some (.ref 22), none, none]) (L' := [some (.ref 22), none, some (.int x2), some (.int x3), none]) (rest := []) (h1 := (hM c A14 R)) (fun _ => rfl) ?_
  refine v_post (gt_121 hfz N c R d (by omega)  A14 _ _ hc) ?_
  rintro rv h' ⟨rfl, rfl⟩
  obtain ⟨r16, A16, hc, hf⟩ := m_bd_ok hf
  refine v_call 12 (k' := 123) (i' := 106) (E := [some (.ref 22), some (.int ((x2 + ((8 : Int32) * x3)) + ((32 : Int32) * r15)))]) (L' := [some (.ref 22), none, some (.int x2), some (.int x3), some (.int r15)]) (rest := []) (h1 := (hM c A15 R)) (fun _ => rfl) ?_
  refine v_post (gt_123 hfz N c R d (by omega) ((x2 + ((8 : Int32) * x3)) + ((32 : Int32) * r15)) A15 _ _ hc) ?_
  rintro rv h' ⟨rfl, rfl⟩
  obtain ⟨rfl, rfl⟩ := m_rt hf
  exact v_ret 1 (fun _ => rfl) ⟨rfl, rfl⟩
set_option maxRecDepth 100000 in
set_option maxHeartbeats 4000000 in
theorem gt_124_88 {fz : Value} {sc : Nat × (Nat → Int32)} (hfz : fz = .null ∨ fz = .retAddr 60) (N : Nat) (rf : mS → Option (Int32 × mS)) (c : Nat → aC) (R : List aC) (D : Nat) (hD : 4 ≤ D) (hrf : ∀ (d : Nat) (A : mS) (r : Int32) (A' : mS), D ≤ d → rf A = some (r, A') → v_V fz sc d 124 0 [some (.ref 22), none, none, none, none] [] (hM c A R) (fun rv h' => rv = none ∧ h' = hM c A' R)) (d : Nat) (hd : D + 3 ≤ d) (x2 : Int32) (x3 : Int32) (A : mS) (r : Int32) (A' : mS) (hf : g_124_88 N rf x2 x3 A = some (r, A')) : v_V fz sc d 124 88 [some (.ref 22), none, some (.int x2), some (.int x3), none] [(.ref 22)] (hM c A R) (fun rv h' => rv = none ∧ h' = hM c A' R) := by
  unfold g_124_88 at hf
  obtain ⟨d, rfl⟩ : ∃ z, d = z + 1 := ⟨d - 1, by omega⟩
  refine v_blk 2 (i' := 91) (L' := [some (.ref 22), none, some (.int x2), some (.int x3), none]) (st' := [(.int (1 : Int32)), (.ref 22)]) (h' := (hM c A R)) (fun _ => rfl) ?_
  exact gt_124_91 hfz N rf c R D hD hrf (d + 1) hd x2 x3 (1 : Int32) A _ _ hf
set_option maxRecDepth 100000 in
set_option maxHeartbeats 4000000 in
theorem gt_124_80 {fz : Value} {sc : Nat × (Nat → Int32)} (hfz : fz = .null ∨ fz = .retAddr 60) (N : Nat) (rf : mS → Option (Int32 × mS)) (c : Nat → aC) (R : List aC) (D : Nat) (hD : 4 ≤ D) (hrf : ∀ (d : Nat) (A : mS) (r : Int32) (A' : mS), D ≤ d → rf A = some (r, A') → v_V fz sc d 124 0 [some (.ref 22), none, none, none, none] [] (hM c A R) (fun rv h' => rv = none ∧ h' = hM c A' R)) (d : Nat) (hd : D + 3 ≤ d) (x2 : Int32) (t0 : Int32) (A : mS) (r : Int32) (A' : mS) (hf : g_124_80 N rf x2 t0 A = some (r, A')) : v_V fz sc d 124 80 [some (.ref 22), none, some (.int x2), none, none] [(.int t0)] (hM c A R) (fun rv h' => rv = none ∧ h' = hM c A' R) := by
  unfold g_124_80 at hf
  obtain ⟨d, rfl⟩ : ∃ z, d = z + 1 := ⟨d - 1, by omega⟩
  refine v_blk 5 (i' := (bif (a_ic .ne (A 99 8) (0 : Int32)) then 88 else 85)) (L' := [some (.ref 22), none, some (.int x2), some (.int t0), none]) (st' := [(.ref 22)]) (h' := (hM c A R)) (fun _ => rfl) ?_
  rcases Bool.eq_false_or_eq_true (a_ic .ne (A 99 8) (0 : Int32)) with hb | hb
  · have hf := a_bt hb hf
    refine v_it hb ?_
    exact gt_124_88 hfz N rf c R D hD hrf (d + 1) hd x2 t0 A _ _ hf
  · have hf := a_be hb hf
    refine v_ie hb ?_
    refine v_blk 3 (i' := (bif (a_ic .ne t0 (-1 : Int32)) then 90 else 88)) (L' := [some (.ref 22), none, some (.int x2), some (.int t0), none]) (st' := [(.ref 22)]) (h' := (hM c A R)) (fun _ => rfl) ?_
    rcases Bool.eq_false_or_eq_true (a_ic .ne t0 (-1 : Int32)) with hb | hb
    · have hf := a_bt hb hf
      refine v_it hb ?_
      refine v_blk 1 (i' := 91) (L' := [some (.ref 22), none, some (.int x2), some (.int t0), none]) (st' := [(.int (0 : Int32)), (.ref 22)]) (h' := (hM c A R)) (fun _ => rfl) ?_
      exact gt_124_91 hfz N rf c R D hD hrf (d + 1) hd x2 t0 (0 : Int32) A _ _ hf
    · have hf := a_be hb hf
      refine v_ie hb ?_
      exact gt_124_88 hfz N rf c R D hD hrf (d + 1) hd x2 t0 A _ _ hf
set_option maxRecDepth 100000 in
set_option maxHeartbeats 4000000 in
theorem gt_124_71 {fz : Value} {sc : Nat × (Nat → Int32)} (hfz : fz = .null ∨ fz = .retAddr 60) (N : Nat) (rf : mS → Option (Int32 × mS)) (c : Nat → aC) (R : List aC) (D : Nat) (hD : 4 ≤ D) (hrf : ∀ (d : Nat) (A : mS) (r : Int32) (A' : mS), D ≤ d → rf A = some (r, A') → v_V fz sc d 124 0 [some (.ref 22), none, none, none, none] [] (hM c A R) (fun rv h' => rv = none ∧ h' = hM c A' R)) (d : Nat) (hd : D + 3 ≤ d) (x2 : Int32) (t1 : Int32) (A : mS) (r : Int32) (A' : mS) (hf : g_124_71 N rf x2 t1 A = some (r, A')) : v_V fz sc d 124 71 [some (.ref 22), none, some (.int x2), none, none] [(.int t1), (.ref 22)] (hM c A R) (fun rv h' => rv = none ∧ h' = hM c A' R) := by
  unfold g_124_71 at hf
  obtain ⟨d, rfl⟩ : ∃ z, d = z + 1 := ⟨d - 1, by omega⟩
  obtain ⟨hg, hf⟩ := a_bif hf
  refine v_grd 1 (i' := 72) (L' := [some (.ref 22), none, some (.int x2), none, none]) (st' := []) (h' := (hM c (va_up A 99 (upd (A 99) 8 t1)) R)) (fun _ => rfl) hg ?_
  obtain ⟨A3, hA, hf⟩ := m_st_ok hf
  rw [hA]
  refine v_blk 3 (i' := (bif (a_ic .eq (A3 99 8) (0 : Int32)) then 77 else 75)) (L' := [some (.ref 22), none, some (.int x2), none, none]) (st' := []) (h' := (hM c A3 R)) (fun _ => rfl) ?_
  rcases Bool.eq_false_or_eq_true (a_ic .eq (A3 99 8) (0 : Int32)) with hb | hb
  · have hf := a_bt hb hf
    refine v_it hb ?_
    obtain ⟨r4, A4, hc, hf⟩ := m_bd_ok hf
    refine v_call 3 (k' := 122) (i' := 80) (E := [some (.ref 22), some (.retAddr 7), none]) (L' := [some (.ref 22), none, some (.int x2), none, none]) (rest := []) (h1 := (hM c A3 R)) (fun _ => rfl) ?_
    refine v_post (gt_122 hfz N c R d (by omega) 7 A3 _ _ hc) ?_
    rintro rv h' ⟨rfl, rfl⟩
    exact gt_124_80 hfz N rf c R D hD hrf (d + 1) hd x2 r4 A4 _ _ hf
  · have hf := a_be hb hf
    refine v_ie hb ?_
    refine v_blk 2 (i' := 80) (L' := [some (.ref 22), none, some (.int x2), none, none]) (st' := [(.int (0 : Int32))]) (h' := (hM c A3 R)) (fun _ => rfl) ?_
    exact gt_124_80 hfz N rf c R D hD hrf (d + 1) hd x2 (0 : Int32) A3 _ _ hf
set_option maxRecDepth 100000 in
set_option maxHeartbeats 4000000 in
theorem gt_124_37 {fz : Value} {sc : Nat × (Nat → Int32)} (hfz : fz = .null ∨ fz = .retAddr 60) (N : Nat) (rf : mS → Option (Int32 × mS)) (c : Nat → aC) (R : List aC) (D : Nat) (hD : 4 ≤ D) (hrf : ∀ (d : Nat) (A : mS) (r : Int32) (A' : mS), D ≤ d → rf A = some (r, A') → v_V fz sc d 124 0 [some (.ref 22), none, none, none, none] [] (hM c A R) (fun rv h' => rv = none ∧ h' = hM c A' R)) (d : Nat) (hd : D + 3 ≤ d) (x1 : Int32) (t1 : Int32) (t2 : Int32) (A : mS) (r : Int32) (A' : mS) (hf : g_124_37 N rf x1 t1 t2 A = some (r, A')) : v_V fz sc d 124 37 [some (.ref 22), some (.int x1), none, none, none] [(.int t2), (.int t1), (.ref 22)] (hM c A R) (fun rv h' => rv = none ∧ h' = hM c A' R) := by
  unfold g_124_37 at hf
  obtain ⟨d, rfl⟩ : ∃ z, d = z + 1 := ⟨d - 1, by omega⟩
  refine v_blk 5 (i' := (bif (a_ic .ne x1 (33 : Int32)) then 48 else 42)) (L' := [some (.ref 22), some (.int x1), none, none, none]) (st' := []) (h' := (hM c (va_up A 99 (upd (A 99) 6 (t1 + t2))) R)) (fun _ => rfl) ?_
  rcases Bool.eq_false_or_eq_true (a_ic .ne x1 (33 : Int32)) with hb | hb
  · have hf := a_bt hb hf
    refine v_it hb ?_
    obtain ⟨A8, hA, hf⟩ := m_st_ok hf
    rw [hA]
    obtain ⟨r9, A9, hc, hf⟩ := m_bd_ok hf
    refine v_call 2 (k' := 126) (i' := 50) (E := [some (.ref 22)]) (L' := [some (.ref 22), some (.int x1), none, none, none]) (rest := []) (h1 := (hM c A8 R)) (fun _ => rfl) ?_
    refine v_post (gt_126 hfz N rf c R D hD hrf d (by omega) A8 _ _ hc) ?_
    rintro rv h' ⟨rfl, rfl⟩
    obtain ⟨r10, A10, hc, hf⟩ := m_bd_ok hf
    refine v_call 3 (k' := 119) (i' := 53) (E := [some (.ref 22), some (.int (41 : Int32))]) (L' := [some (.ref 22), some (.int x1), none, none, none]) (rest := []) (h1 := (hM c A9 R)) (fun _ => rfl) ?_
    refine v_post (gt_119 hfz N c R d (by omega) (41 : Int32) A9 _ _ hc) ?_
    rintro rv h' ⟨rfl, rfl⟩
    obtain ⟨rfl, rfl⟩ := m_rt hf
    exact v_ret 7 (fun _ => rfl) ⟨rfl, rfl⟩
  · have hf := a_be hb hf
    refine v_ie hb ?_
    obtain ⟨A11, hA, hf⟩ := m_st_ok hf
    rw [hA]
    obtain ⟨r12, A12, hc, hf⟩ := m_bd_ok hf
    refine v_call 2 (k' := 124) (i' := 44) (E := [some (.ref 22), none, none, none, none]) (L' := [some (.ref 22), some (.int x1), none, none, none]) (rest := []) (h1 := (hM c A11 R)) (fun _ => rfl) ?_
    refine v_post (hrf d _ _ _ (by omega) hc) ?_
    rintro rv h' ⟨rfl, rfl⟩
    obtain ⟨r13, A13, hc, hf⟩ := m_bd_ok hf
    refine v_call 3 (k' := 123) (i' := 47) (E := [some (.ref 22), some (.int (-1 : Int32))]) (L' := [some (.ref 22), some (.int x1), none, none, none]) (rest := []) (h1 := (hM c A12 R)) (fun _ => rfl) ?_
    refine v_post (gt_123 hfz N c R d (by omega) (-1 : Int32) A12 _ _ hc) ?_
    rintro rv h' ⟨rfl, rfl⟩
    obtain ⟨rfl, rfl⟩ := m_rt hf
    exact v_ret 8 (fun _ => rfl) ⟨rfl, rfl⟩
set_option maxRecDepth 100000 in
set_option maxHeartbeats 4000000 in
theorem gt_124_21 {fz : Value} {sc : Nat × (Nat → Int32)} (hfz : fz = .null ∨ fz = .retAddr 60) (N : Nat) (rf : mS → Option (Int32 × mS)) (c : Nat → aC) (R : List aC) (D : Nat) (hD : 4 ≤ D) (hrf : ∀ (d : Nat) (A : mS) (r : Int32) (A' : mS), D ≤ d → rf A = some (r, A') → v_V fz sc d 124 0 [some (.ref 22), none, none, none, none] [] (hM c A R) (fun rv h' => rv = none ∧ h' = hM c A' R)) (d : Nat) (hd : D + 3 ≤ d) (x1 : Int32) (t1 : Int32) (A : mS) (r : Int32) (A' : mS) (hf : g_124_21 N rf x1 t1 A = some (r, A')) : v_V fz sc d 124 21 [some (.ref 22), some (.int x1), none, none, none] [(.int t1), (.ref 22)] (hM c A R) (fun rv h' => rv = none ∧ h' = hM c A' R) := by
  unfold g_124_21 at hf
  obtain ⟨d, rfl⟩ : ∃ z, d = z + 1 := ⟨d - 1, by omega⟩
  obtain ⟨hg, hf⟩ := a_bif hf
  refine v_grd 1 (i' := 22) (L' := [some (.ref 22), some (.int x1), none, none, none]) (st' := []) (h' := (hM c (va_up A 99 (upd (A 99) 8 t1)) R)) (fun _ => rfl) hg ?_
  obtain ⟨A5, hA, hf⟩ := m_st_ok hf
  rw [hA]
  refine v_blk 12 (i' := (bif (a_ic .eq (A5 99 8) (0 : Int32)) then 36 else 34)) (L' := [some (.ref 22), some (.int x1), none, none, none]) (st' := [(.int (A5 99 6)), (.ref 22)]) (h' := (hM c (va_up A5 99 (upd (A5 99) 9 ((A5 99 9) + (1 : Int32)))) R)) (fun _ => rfl) ?_
  rcases Bool.eq_false_or_eq_true (a_ic .eq (A5 99 8) (0 : Int32)) with hb | hb
  · have hf := a_bt hb hf
    refine v_it hb ?_
    obtain ⟨A6, hA, hf⟩ := m_st_ok hf
    rw [hA]
    refine v_blk 1 (i' := 37) (L' := [some (.ref 22), some (.int x1), none, none, none]) (st' := [(.int (1 : Int32)), (.int (A5 99 6)), (.ref 22)]) (h' := (hM c A6 R)) (fun _ => rfl) ?_
    exact gt_124_37 hfz N rf c R D hD hrf (d + 1) hd x1 (A5 99 6) (1 : Int32) A6 _ _ hf
  · have hf := a_be hb hf
    refine v_ie hb ?_
    obtain ⟨A7, hA, hf⟩ := m_st_ok hf
    rw [hA]
    refine v_blk 2 (i' := 37) (L' := [some (.ref 22), some (.int x1), none, none, none]) (st' := [(.int (0 : Int32)), (.int (A5 99 6)), (.ref 22)]) (h' := (hM c A7 R)) (fun _ => rfl) ?_
    exact gt_124_37 hfz N rf c R D hD hrf (d + 1) hd x1 (A5 99 6) (0 : Int32) A7 _ _ hf
set_option maxRecDepth 100000 in
set_option maxHeartbeats 4000000 in
theorem gt_124_13 {fz : Value} {sc : Nat × (Nat → Int32)} (hfz : fz = .null ∨ fz = .retAddr 60) (N : Nat) (rf : mS → Option (Int32 × mS)) (c : Nat → aC) (R : List aC) (D : Nat) (hD : 4 ≤ D) (hrf : ∀ (d : Nat) (A : mS) (r : Int32) (A' : mS), D ≤ d → rf A = some (r, A') → v_V fz sc d 124 0 [some (.ref 22), none, none, none, none] [] (hM c A R) (fun rv h' => rv = none ∧ h' = hM c A' R)) (d : Nat) (hd : D + 3 ≤ d) (x1 : Int32) (A : mS) (r : Int32) (A' : mS) (hf : g_124_13 N rf x1 A = some (r, A')) : v_V fz sc d 124 13 [some (.ref 22), some (.int x1), none, none, none] [] (hM c A R) (fun rv h' => rv = none ∧ h' = hM c A' R) := by
  unfold g_124_13 at hf
  obtain ⟨d, rfl⟩ : ∃ z, d = z + 1 := ⟨d - 1, by omega⟩
  refine v_blk 5 (i' := (bif (a_ic .ne (A 99 9) (5 : Int32)) then 20 else 18)) (L' := [some (.ref 22), some (.int x1), none, none, none]) (st' := [(.ref 22)]) (h' := (hM c A R)) (fun _ => rfl) ?_
  rcases Bool.eq_false_or_eq_true (a_ic .ne (A 99 9) (5 : Int32)) with hb | hb
  · have hf := a_bt hb hf
    refine v_it hb ?_
    refine v_blk 1 (i' := 21) (L' := [some (.ref 22), some (.int x1), none, none, none]) (st' := [(.int (0 : Int32)), (.ref 22)]) (h' := (hM c A R)) (fun _ => rfl) ?_
    exact gt_124_21 hfz N rf c R D hD hrf (d + 1) hd x1 (0 : Int32) A _ _ hf
  · have hf := a_be hb hf
    refine v_ie hb ?_
    refine v_blk 2 (i' := 21) (L' := [some (.ref 22), some (.int x1), none, none, none]) (st' := [(.int (1 : Int32)), (.ref 22)]) (h' := (hM c A R)) (fun _ => rfl) ?_
    exact gt_124_21 hfz N rf c R D hD hrf (d + 1) hd x1 (1 : Int32) A _ _ hf
set_option maxRecDepth 100000 in
set_option maxHeartbeats 4000000 in
theorem gt_124 {fz : Value} {sc : Nat × (Nat → Int32)} (hfz : fz = .null ∨ fz = .retAddr 60) (N : Nat) (rf : mS → Option (Int32 × mS)) (c : Nat → aC) (R : List aC) (D : Nat) (hD : 4 ≤ D) (hrf : ∀ (d : Nat) (A : mS) (r : Int32) (A' : mS), D ≤ d → rf A = some (r, A') → v_V fz sc d 124 0 [some (.ref 22), none, none, none, none] [] (hM c A R) (fun rv h' => rv = none ∧ h' = hM c A' R)) (d : Nat) (hd : D + 3 ≤ d) (A : mS) (r : Int32) (A' : mS) (hf : g_124 N rf  A = some (r, A')) : v_V fz sc d 124 0 [some (.ref 22), none, none, none, none] [] (hM c A R) (fun rv h' => rv = none ∧ h' = hM c A' R) := by
  unfold g_124 at hf
  obtain ⟨d, rfl⟩ : ∃ z, d = z + 1 := ⟨d - 1, by omega⟩
  refine v_blk 3 (i' := (bif (a_ic .eq (A 99 8) (0 : Int32)) then 4 else 3)) (L' := [some (.ref 22), none, none, none, none]) (st' := []) (h' := (hM c A R)) (fun _ => rfl) ?_
  rcases Bool.eq_false_or_eq_true (a_ic .eq (A 99 8) (0 : Int32)) with hb | hb
  · have hf := a_bt hb hf
    refine v_it hb ?_
    obtain ⟨r1, A1, hc, hf⟩ := m_bd_ok hf
    refine v_call 2 (k' := 118) (i' := 6) (E := [some (.ref 22)]) (L' := [some (.ref 22), none, none, none, none]) (rest := []) (h1 := (hM c A R)) (fun _ => rfl) ?_
    refine v_post (gt_118 hfz N c R d (by omega)  A _ _ hc) ?_
    rintro rv h' ⟨rfl, rfl⟩
    refine v_blk 4 (i' := (bif (a_ic .eq r1 (33 : Int32)) then 13 else 10)) (L' := [some (.ref 22), some (.int r1), none, none, none]) (st' := []) (h' := (hM c A1 R)) (fun _ => rfl) ?_
    rcases Bool.eq_false_or_eq_true (a_ic .eq r1 (33 : Int32)) with hb | hb
    · have hf := a_bt hb hf
      refine v_it hb ?_
      exact gt_124_13 hfz N rf c R D hD hrf (d + 1) hd r1 A1 _ _ hf
    · have hf := a_be hb hf
      refine v_ie hb ?_
      refine v_blk 3 (i' := (bif (a_ic .ne r1 (40 : Int32)) then 60 else 13)) (L' := [some (.ref 22), some (.int r1), none, none, none]) (st' := []) (h' := (hM c A1 R)) (fun _ => rfl) ?_
      rcases Bool.eq_false_or_eq_true (a_ic .ne r1 (40 : Int32)) with hb | hb
      · have hf := a_bt hb hf
        refine v_it hb ?_
        obtain ⟨r2, A2, hc, hf⟩ := m_bd_ok hf
        refine v_call 3 (k' := 122) (i' := 63) (E := [some (.ref 22), some (.retAddr 6), none]) (L' := [some (.ref 22), some (.int r1), none, none, none]) (rest := []) (h1 := (hM c A1 R)) (fun _ => rfl) ?_
        refine v_post (gt_122 hfz N c R d (by omega) 6 A1 _ _ hc) ?_
        rintro rv h' ⟨rfl, rfl⟩
        refine v_blk 5 (i' := (bif (a_ic .ne r2 (-1 : Int32)) then 70 else 68)) (L' := [some (.ref 22), some (.int r1), some (.int r2), none, none]) (st' := [(.ref 22)]) (h' := (hM c A2 R)) (fun _ => rfl) ?_
        rcases Bool.eq_false_or_eq_true (a_ic .ne r2 (-1 : Int32)) with hb | hb
        · have hf := a_bt hb hf
          refine v_it hb ?_
          refine v_blk 1 (i' := 71) (L' := [some (.ref 22), some (.int r1), some (.int r2), none, none]) (st' := [(.int (0 : Int32)), (.ref 22)]) (h' := (hM c A2 R)) (fun _ => rfl) ?_
          refine v_weak (L' := [some (.ref 22), none, some (.int r2), none, none]) (show a_wk [some (.ref 22), none, some (.int r2), none, none] [some (.ref 22), some (.int r1), some (.int r2), none, none] from ⟨rfl, ⟨(fun v hv => by cases hv; rfl), ⟨rfl, ⟨(fun v hv => by cases hv), ⟨(fun v hv => by cases hv), trivial⟩⟩⟩⟩⟩) ?_
          exact gt_124_71 hfz N rf c R D hD hrf (d + 1) hd r2 (0 : Int32) A2 _ _ hf
        · have hf := a_be hb hf
          refine v_ie hb ?_
          refine v_blk 2 (i' := 71) (L' := [some (.ref 22), some (.int r1), some (.int r2), none, none]) (st' := [(.int (1 : Int32)), (.ref 22)]) (h' := (hM c A2 R)) (fun _ => rfl) ?_
          refine v_weak (L' := [some (.ref 22), none, some (.int r2), none, none]) (show a_wk [some (.ref 22), none, some (.int r2), none, none] [some (.ref 22), some (.int r1), some (.int r2), none, none] from ⟨rfl, ⟨(fun v hv => by cases hv; rfl), ⟨rfl, ⟨(fun v hv => by cases hv), ⟨(fun v hv => by cases hv), trivial⟩⟩⟩⟩⟩) ?_
          exact gt_124_71 hfz N rf c R D hD hrf (d + 1) hd r2 (1 : Int32) A2 _ _ hf
      · have hf := a_be hb hf
        refine v_ie hb ?_
        exact gt_124_13 hfz N rf c R D hD hrf (d + 1) hd r1 A1 _ _ hf
  · have hf := a_be hb hf
    refine v_ie hb ?_
    obtain ⟨rfl, rfl⟩ := m_rt hf
    exact v_ret 1 (fun _ => rfl) ⟨rfl, rfl⟩
theorem gt_fac {fz : Value} {sc : Nat × (Nat → Int32)} (hfz : fz = .null ∨ fz = .retAddr 60) (N : Nat) (c : Nat → aC) (R : List aC) : ∀ (q d : Nat) (A : mS) (r : Int32) (A' : mS), 4 + 3 * q ≤ d → g_fac N q A = some (r, A') → v_V fz sc d 124 0 [some (.ref 22), none, none, none, none] [] (hM c A R) (fun rv h' => rv = none ∧ h' = hM c A' R) := by
  intro q
  induction q with
  | zero => intro d A r A' hd hf; cases hf
  | succ q ih =>
    intro d A r A' hd hf
    exact gt_124 hfz N (g_fac N q) c R (4 + 3 * q) (by omega) (fun d A r A' hd hf => ih d A r A' hd hf) d (by omega) A r A' hf
set_option maxRecDepth 100000 in
set_option maxHeartbeats 4000000 in
theorem gt_127 {fz : Value} {sc : Nat × (Nat → Int32)} (hfz : fz = .null ∨ fz = .retAddr 60) (N : Nat) (c : Nat → aC) (R : List aC) (d : Nat) (hd : 31 ≤ d) (x1 : Int32) (x2 : Nat) (A : mS) (r : Int32) (A' : mS) (hf : g_127 N x1 x2 A = some (r, A')) : v_V fz sc d 127 0 [some (.ref 22), some (.int x1), some (.retAddr x2), none] [] (hM c A R) (fun rv h' => rv = none ∧ h' = hM c A' R) := by
  unfold g_127 at hf
  obtain ⟨d, rfl⟩ : ∃ z, d = z + 1 := ⟨d - 1, by omega⟩
  obtain ⟨r1, A1, hc, hf⟩ := m_bd_ok hf
  refine v_call 3 (k' := 120) (i' := 3) (E := [some (.ref 22), some (.retAddr x2), none]) (L' := [some (.ref 22), some (.int x1), some (.retAddr x2), none]) (rest := []) (h1 := (hM c A R)) (fun _ => rfl) ?_
  refine v_post (gt_120 hfz N c R d (by omega) x2 A _ _ hc) ?_
  rintro rv h' ⟨rfl, rfl⟩
  obtain ⟨r2, A2, hc, hf⟩ := m_bd_ok hf
  refine v_call 2 (k' := 121) (i' := 5) (E := [some (.ref 22), none, none]) (L' := [some (.ref 22), some (.int x1), some (.retAddr x2), none]) (rest := []) (h1 := (hM c A1 R)) (fun _ => rfl) ?_
  refine v_post (gt_121 hfz N c R d (by omega)  A1 _ _ hc) ?_
  rintro rv h' ⟨rfl, rfl⟩
  obtain ⟨r3, A3, hc, hf⟩ := m_bd_ok hf
  refine v_call 4 (k' := 119) (i' := 9) (E := [some (.ref 22), some (.int (32 : Int32))]) (L' := [some (.ref 22), some (.int x1), some (.retAddr x2), some (.int r2)]) (rest := []) (h1 := (hM c A2 R)) (fun _ => rfl) ?_
  refine v_post (gt_119 hfz N c R d (by omega) (32 : Int32) A2 _ _ hc) ?_
  rintro rv h' ⟨rfl, rfl⟩
  obtain ⟨r4, A4, hc, hf⟩ := m_bd_ok hf
  refine v_call 2 (k' := 126) (i' := 11) (E := [some (.ref 22)]) (L' := [some (.ref 22), some (.int x1), some (.retAddr x2), some (.int r2)]) (rest := []) (h1 := (hM c A3 R)) (fun _ => rfl) ?_
  refine v_post (gt_126 hfz N (g_fac N 8) c R 28 (by omega) (fun d A r A' hd hf => gt_fac hfz N c R 8 d A r A' (by omega) hf) d (by omega) A3 _ _ hc) ?_
  rintro rv h' ⟨rfl, rfl⟩
  obtain ⟨r5, A5, hc, hf⟩ := m_bd_ok hf
  refine v_call 5 (k' := 123) (i' := 16) (E := [some (.ref 22), some (.int (x1 - r2))]) (L' := [some (.ref 22), some (.int x1), some (.retAddr x2), some (.int r2)]) (rest := []) (h1 := (hM c A4 R)) (fun _ => rfl) ?_
  refine v_post (gt_123 hfz N c R d (by omega) (x1 - r2) A4 _ _ hc) ?_
  rintro rv h' ⟨rfl, rfl⟩
  obtain ⟨rfl, rfl⟩ := m_rt hf
  exact v_ret 1 (fun _ => rfl) ⟨rfl, rfl⟩
set_option maxRecDepth 100000 in
set_option maxHeartbeats 4000000 in
theorem gt_128_16 {fz : Value} {sc : Nat × (Nat → Int32)} (hfz : fz = .null ∨ fz = .retAddr 60) (N : Nat) (c : Nat → aC) (R : List aC) (d : Nat) (hd : 7 ≤ d) (t1 : Int32) (A : mS) (r : Int32) (A' : mS) (hf : g_128_16 N t1 A = some (r, A')) : v_V fz sc d 128 16 [some (.ref 22)] [(.int t1), (.ref 22)] (hM c A R) (fun rv h' => rv = none ∧ h' = hM c A' R) := by
  unfold g_128_16 at hf
  obtain ⟨d, rfl⟩ : ∃ z, d = z + 1 := ⟨d - 1, by omega⟩
  obtain ⟨hg, hf⟩ := a_bif hf
  refine v_grd 1 (i' := 17) (L' := [some (.ref 22)]) (st' := []) (h' := (hM c (va_up A 99 (upd (A 99) 8 t1)) R)) (fun _ => rfl) hg ?_
  obtain ⟨A4, hA, hf⟩ := m_st_ok hf
  rw [hA]
  refine v_blk 3 (i' := (bif (a_ic .ne (A4 99 8) (0 : Int32)) then 37 else 20)) (L' := [some (.ref 22)]) (st' := []) (h' := (hM c A4 R)) (fun _ => rfl) ?_
  rcases Bool.eq_false_or_eq_true (a_ic .ne (A4 99 8) (0 : Int32)) with hb | hb
  · have hf := a_bt hb hf
    refine v_it hb ?_
    obtain ⟨rfl, rfl⟩ := m_rt hf
    exact v_ret 1 (fun _ => rfl) ⟨rfl, rfl⟩
  · have hf := a_be hb hf
    refine v_ie hb ?_
    obtain ⟨r5, A5, hc, hf⟩ := m_bd_ok hf
    refine v_call 8 (k' := 118) (i' := 28) (E := [some (.ref 22)]) (L' := [some (.ref 22)]) (rest := [(.int ((232 : Int32) + (A4 99 5))), (.ref 23)]) (h1 := (hM c A4 R)) (fun _ => rfl) ?_
    refine v_post (gt_118 hfz N c R d (by omega)  A4 _ _ hc) ?_
    rintro rv h' ⟨rfl, rfl⟩
    obtain ⟨hg, hf⟩ := a_bif hf
    refine v_grd 3 (i' := 31) (L' := [some (.ref 22)]) (st' := []) (h' := (hM c (va_up A5 0 (upd (A5 0) (((232 : Int32) + (A4 99 5))).toNatClampNeg (r5 - (48 : Int32)))) R)) (fun _ => rfl) hg ?_
    obtain ⟨A6, hA, hf⟩ := m_st_ok hf
    rw [hA]
    obtain ⟨rfl, rfl⟩ := m_rt hf
    exact v_ret 7 (fun _ => rfl) ⟨rfl, rfl⟩
set_option maxRecDepth 100000 in
set_option maxHeartbeats 4000000 in
theorem gt_128_13 {fz : Value} {sc : Nat × (Nat → Int32)} (hfz : fz = .null ∨ fz = .retAddr 60) (N : Nat) (c : Nat → aC) (R : List aC) (d : Nat) (hd : 7 ≤ d) (A : mS) (r : Int32) (A' : mS) (hf : g_128_13 N  A = some (r, A')) : v_V fz sc d 128 13 [some (.ref 22)] [(.ref 22)] (hM c A R) (fun rv h' => rv = none ∧ h' = hM c A' R) := by
  unfold g_128_13 at hf
  obtain ⟨d, rfl⟩ : ∃ z, d = z + 1 := ⟨d - 1, by omega⟩
  refine v_blk 2 (i' := 16) (L' := [some (.ref 22)]) (st' := [(.int (1 : Int32)), (.ref 22)]) (h' := (hM c A R)) (fun _ => rfl) ?_
  exact gt_128_16 hfz N c R (d + 1) hd (1 : Int32) A _ _ hf
set_option maxRecDepth 100000 in
set_option maxHeartbeats 4000000 in
theorem gt_128 {fz : Value} {sc : Nat × (Nat → Int32)} (hfz : fz = .null ∨ fz = .retAddr 60) (N : Nat) (c : Nat → aC) (R : List aC) (d : Nat) (hd : 7 ≤ d) (A : mS) (r : Int32) (A' : mS) (hf : g_128 N  A = some (r, A')) : v_V fz sc d 128 0 [some (.ref 22)] [] (hM c A R) (fun rv h' => rv = none ∧ h' = hM c A' R) := by
  unfold g_128 at hf
  obtain ⟨d, rfl⟩ : ∃ z, d = z + 1 := ⟨d - 1, by omega⟩
  obtain ⟨r1, A1, hc, hf⟩ := m_bd_ok hf
  refine v_call 3 (k' := 120) (i' := 3) (E := [some (.ref 22), some (.retAddr 1), none]) (L' := [some (.ref 22)]) (rest := []) (h1 := (hM c A R)) (fun _ => rfl) ?_
  refine v_post (gt_120 hfz N c R d (by omega) 1 A _ _ hc) ?_
  rintro rv h' ⟨rfl, rfl⟩
  refine v_blk 4 (i' := (bif (a_ic .ne (A1 99 8) (0 : Int32)) then 13 else 7)) (L' := [some (.ref 22)]) (st' := [(.ref 22)]) (h' := (hM c A1 R)) (fun _ => rfl) ?_
  rcases Bool.eq_false_or_eq_true (a_ic .ne (A1 99 8) (0 : Int32)) with hb | hb
  · have hf := a_bt hb hf
    refine v_it hb ?_
    exact gt_128_13 hfz N c R (d + 1) hd  A1 _ _ hf
  · have hf := a_be hb hf
    refine v_ie hb ?_
    obtain ⟨r2, A2, hc, hf⟩ := m_bd_ok hf
    refine v_call 2 (k' := 118) (i' := 9) (E := [some (.ref 22)]) (L' := [some (.ref 22)]) (rest := [(.ref 22)]) (h1 := (hM c A1 R)) (fun _ => rfl) ?_
    refine v_post (gt_118 hfz N c R d (by omega)  A1 _ _ hc) ?_
    rintro rv h' ⟨rfl, rfl⟩
    obtain ⟨r3, A3, hc, hf⟩ := m_bd_ok hf
    refine v_call 3 (k' := 112) (i' := 12) (E := [some (.int r2), some (.int (48 : Int32)), some (.int (50 : Int32))]) (L' := [some (.ref 22)]) (rest := [(.ref 22)]) (h1 := (hM c A2 R)) (fun _ => rfl) ?_
    refine v_post (gt_112 hfz N c R d (by omega) r2 (48 : Int32) (50 : Int32) A2 _ _ hc) ?_
    rintro rv h' ⟨rfl, rfl⟩
    refine v_blk 1 (i' := (bif (a_ic .ne r3 (0 : Int32)) then 15 else 13)) (L' := [some (.ref 22)]) (st' := [(.ref 22)]) (h' := (hM c A3 R)) (fun _ => rfl) ?_
    rcases Bool.eq_false_or_eq_true (a_ic .ne r3 (0 : Int32)) with hb | hb
    · have hf := a_bt hb hf
      refine v_it hb ?_
      refine v_blk 1 (i' := 16) (L' := [some (.ref 22)]) (st' := [(.int (0 : Int32)), (.ref 22)]) (h' := (hM c A3 R)) (fun _ => rfl) ?_
      exact gt_128_16 hfz N c R (d + 1) hd (0 : Int32) A3 _ _ hf
    · have hf := a_be hb hf
      refine v_ie hb ?_
      exact gt_128_13 hfz N c R (d + 1) hd  A3 _ _ hf
set_option maxRecDepth 100000 in
set_option maxHeartbeats 4000000 in
theorem gt_129 {fz : Value} {sc : Nat × (Nat → Int32)} (hfz : fz = .null ∨ fz = .retAddr 60) (N : Nat) (c : Nat → aC) (R : List aC) (d : Nat) (hd : 7 ≤ d) (A : mS) (r : Int32) (A' : mS) (hf : g_129 N  A = some (r, A')) : v_V fz sc d 129 0 [some (.ref 22), none] [] (hM c A R) (fun rv h' => rv = none ∧ h' = hM c A' R) := by
  unfold g_129 at hf
  obtain ⟨d, rfl⟩ : ∃ z, d = z + 1 := ⟨d - 1, by omega⟩
  obtain ⟨r1, A1, hc, hf⟩ := m_bd_ok hf
  refine v_call 3 (k' := 120) (i' := 3) (E := [some (.ref 22), some (.retAddr 2), none]) (L' := [some (.ref 22), none]) (rest := []) (h1 := (hM c A R)) (fun _ => rfl) ?_
  refine v_post (gt_120 hfz N c R d (by omega) 2 A _ _ hc) ?_
  rintro rv h' ⟨rfl, rfl⟩
  obtain ⟨r2, A2, hc, hf⟩ := m_bd_ok hf
  refine v_call 2 (k' := 121) (i' := 5) (E := [some (.ref 22), none, none]) (L' := [some (.ref 22), none]) (rest := []) (h1 := (hM c A1 R)) (fun _ => rfl) ?_
  refine v_post (gt_121 hfz N c R d (by omega)  A1 _ _ hc) ?_
  rintro rv h' ⟨rfl, rfl⟩
  refine v_blk 4 (i' := (bif (a_ic .ne (A2 99 8) (0 : Int32)) then 17 else 9)) (L' := [some (.ref 22), some (.int r2)]) (st' := []) (h' := (hM c A2 R)) (fun _ => rfl) ?_
  rcases Bool.eq_false_or_eq_true (a_ic .ne (A2 99 8) (0 : Int32)) with hb | hb
  · have hf := a_bt hb hf
    refine v_it hb ?_
    obtain ⟨rfl, rfl⟩ := m_rt hf
    exact v_ret 1 (fun _ => rfl) ⟨rfl, rfl⟩
  · have hf := a_be hb hf
    refine v_ie hb ?_
    obtain ⟨hg, hf⟩ := a_bif hf
    refine v_grd 8 (i' := 17) (L' := [some (.ref 22), some (.int r2)]) (st' := []) (h' := (hM c (va_up A2 0 (upd (A2 0) (((237 : Int32) + (A2 99 5))).toNatClampNeg r2)) R)) (fun _ => rfl) hg ?_
    obtain ⟨A3, hA, hf⟩ := m_st_ok hf
    rw [hA]
    obtain ⟨rfl, rfl⟩ := m_rt hf
    exact v_ret 1 (fun _ => rfl) ⟨rfl, rfl⟩
set_option maxRecDepth 100000 in
set_option maxHeartbeats 4000000 in
theorem gt_130 {fz : Value} {sc : Nat × (Nat → Int32)} (hfz : fz = .null ∨ fz = .retAddr 60) (N : Nat) (c : Nat → aC) (R : List aC) (d : Nat) (hd : 32 ≤ d) (A : mS) (r : Int32) (A' : mS) (hf : g_130 N  A = some (r, A')) : v_V fz sc d 130 0 [some (.ref 22)] [] (hM c A R) (fun rv h' => rv = none ∧ h' = hM c A' R) := by
  unfold g_130 at hf
  obtain ⟨d, rfl⟩ : ∃ z, d = z + 1 := ⟨d - 1, by omega⟩
  obtain ⟨r1, A1, hc, hf⟩ := m_bd_ok hf
  refine v_call 2 (k' := 118) (i' := 2) (E := [some (.ref 22)]) (L' := [some (.ref 22)]) (rest := []) (h1 := (hM c A R)) (fun _ => rfl) ?_
  refine v_post (gt_118 hfz N c R d (by omega)  A _ _ hc) ?_
  rintro rv h' ⟨rfl, rfl⟩
  refine v_blk 1 (i' := (a_lsw 19 [(103, 74), (104, 55), (114, 67), (119, 44)] [16, 8, 13, 3] r1)) (L' := [some (.ref 22)]) (st' := []) (h' := (hM c A1 R)) (fun _ => rfl) ?_
  by_cases hb : (a_lsw 19 [(103, 74), (104, 55), (114, 67), (119, 44)] [16, 8, 13, 3] r1) = 16
  · rw [if_pos hb] at hf
    rw [hb]
    obtain ⟨r2, A2, hc, hf⟩ := m_bd_ok hf
    refine v_call 2 (k' := 129) (i' := 18) (E := [some (.ref 22), none]) (L' := [some (.ref 22)]) (rest := []) (h1 := (hM c A1 R)) (fun _ => rfl) ?_
    refine v_post (gt_129 hfz N c R d (by omega)  A1 _ _ hc) ?_
    rintro rv h' ⟨rfl, rfl⟩
    obtain ⟨rfl, rfl⟩ := m_rt hf
    exact v_ret 2 (fun _ => rfl) ⟨rfl, rfl⟩
  rw [if_neg hb] at hf
  by_cases hb : (a_lsw 19 [(103, 74), (104, 55), (114, 67), (119, 44)] [16, 8, 13, 3] r1) = 8
  · rw [if_pos hb] at hf
    rw [hb]
    obtain ⟨r3, A3, hc, hf⟩ := m_bd_ok hf
    refine v_call 4 (k' := 127) (i' := 12) (E := [some (.ref 22), some (.int (-200 : Int32)), some (.retAddr 0), none]) (L' := [some (.ref 22)]) (rest := []) (h1 := (hM c A1 R)) (fun _ => rfl) ?_
    refine v_post (gt_127 hfz N c R d (by omega) (-200 : Int32) 0 A1 _ _ hc) ?_
    rintro rv h' ⟨rfl, rfl⟩
    obtain ⟨rfl, rfl⟩ := m_rt hf
    exact v_ret 2 (fun _ => rfl) ⟨rfl, rfl⟩
  rw [if_neg hb] at hf
  by_cases hb : (a_lsw 19 [(103, 74), (104, 55), (114, 67), (119, 44)] [16, 8, 13, 3] r1) = 13
  · rw [if_pos hb] at hf
    rw [hb]
    obtain ⟨r4, A4, hc, hf⟩ := m_bd_ok hf
    refine v_call 2 (k' := 128) (i' := 15) (E := [some (.ref 22)]) (L' := [some (.ref 22)]) (rest := []) (h1 := (hM c A1 R)) (fun _ => rfl) ?_
    refine v_post (gt_128 hfz N c R d (by omega)  A1 _ _ hc) ?_
    rintro rv h' ⟨rfl, rfl⟩
    obtain ⟨rfl, rfl⟩ := m_rt hf
    exact v_ret 2 (fun _ => rfl) ⟨rfl, rfl⟩
  rw [if_neg hb] at hf
  by_cases hb : (a_lsw 19 [(103, 74), (104, 55), (114, 67), (119, 44)] [16, 8, 13, 3] r1) = 3
  · rw [if_pos hb] at hf
    rw [hb]
    obtain ⟨r5, A5, hc, hf⟩ := m_bd_ok hf
    refine v_call 4 (k' := 127) (i' := 7) (E := [some (.ref 22), some (.int (-10 : Int32)), some (.retAddr 3), none]) (L' := [some (.ref 22)]) (rest := []) (h1 := (hM c A1 R)) (fun _ => rfl) ?_
    refine v_post (gt_127 hfz N c R d (by omega) (-10 : Int32) 3 A1 _ _ hc) ?_
    rintro rv h' ⟨rfl, rfl⟩
    obtain ⟨rfl, rfl⟩ := m_rt hf
    exact v_ret 2 (fun _ => rfl) ⟨rfl, rfl⟩
  rw [if_neg hb] at hf
  by_cases hb : (a_lsw 19 [(103, 74), (104, 55), (114, 67), (119, 44)] [16, 8, 13, 3] r1) = 19
  · rw [if_pos hb] at hf
    rw [hb]
    obtain ⟨rfl, rfl⟩ := m_rt hf
    exact v_ret 4 (fun _ => rfl) ⟨rfl, rfl⟩
  rw [if_neg hb] at hf
  cases hf
set_option maxRecDepth 100000 in
set_option maxHeartbeats 4000000 in
theorem gt_131_82 {fz : Value} {sc : Nat × (Nat → Int32)} (hfz : fz = .null ∨ fz = .retAddr 60) (N : Nat) (c : Nat → aC) (R : List aC) (d : Nat) (hd : 33 ≤ d) (A : mS) (r : Int32) (A' : mS) (hf : g_131_82 N  A = some (r, A')) : v_V fz sc d 131 82 [some (.ref 22), none] [] (hM c A R) (fun rv h' => rv = some (.int r) ∧ h' = hM c A' R) := by
  unfold g_131_82 at hf
  obtain ⟨d, rfl⟩ : ∃ z, d = z + 1 := ⟨d - 1, by omega⟩
  refine v_blk 3 (i' := (bif (a_ic .ne (A 99 8) (0 : Int32)) then 90 else 85)) (L' := [some (.ref 22), none]) (st' := []) (h' := (hM c A R)) (fun _ => rfl) ?_
  rcases Bool.eq_false_or_eq_true (a_ic .ne (A 99 8) (0 : Int32)) with hb | hb
  · have hf := a_bt hb hf
    refine v_it hb ?_
    refine v_blk 4 (i' := 94) (L' := [some (.ref 22), none]) (st' := [(.int ((-10 : Int32) - (A 99 6)))]) (h' := (hM c A R)) (fun _ => rfl) ?_
    obtain ⟨y7, hy, hf⟩ := m_li_ok hf
    rw [hy]
    obtain ⟨rfl, rfl⟩ := m_rt hf
    exact v_ret 1 (fun _ => rfl) ⟨rfl, rfl⟩
  · have hf := a_be hb hf
    refine v_ie hb ?_
    refine v_blk 5 (i' := (bif (a_ic .eq (A 99 6) (A 99 7)) then 95 else 90)) (L' := [some (.ref 22), none]) (st' := []) (h' := (hM c A R)) (fun _ => rfl) ?_
    rcases Bool.eq_false_or_eq_true (a_ic .eq (A 99 6) (A 99 7)) with hb | hb
    · have hf := a_bt hb hf
      refine v_it hb ?_
      obtain ⟨rfl, rfl⟩ := m_rt hf
      exact v_ret 17 (fun _ => rfl) ⟨rfl, rfl⟩
    · have hf := a_be hb hf
      refine v_ie hb ?_
      refine v_blk 4 (i' := 94) (L' := [some (.ref 22), none]) (st' := [(.int ((-10 : Int32) - (A 99 6)))]) (h' := (hM c A R)) (fun _ => rfl) ?_
      obtain ⟨y8, hy, hf⟩ := m_li_ok hf
      rw [hy]
      obtain ⟨rfl, rfl⟩ := m_rt hf
      exact v_ret 1 (fun _ => rfl) ⟨rfl, rfl⟩
set_option maxRecDepth 100000 in
set_option maxHeartbeats 4000000 in
theorem gt_131_62b {fz : Value} {sc : Nat × (Nat → Int32)} (hfz : fz = .null ∨ fz = .retAddr 60) (N : Nat) (c : Nat → aC) (R : List aC) (d : Nat) (hd : 33 ≤ d) (rc62 : Int32 → mS → Option (Int32 × mS)) (hrc62 : ∀ (x1 : Int32) (A : mS) (r : Int32) (A' : mS), rc62 x1 A = some (r, A') → v_V fz sc d 131 62 [some (.ref 22), some (.int x1)] [] (hM c A R) (fun rv h' => rv = some (.int r) ∧ h' = hM c A' R)) (x1 : Int32) (A : mS) (r : Int32) (A' : mS) (hf : g_131_62b N rc62 x1 A = some (r, A')) : v_V fz sc d 131 62 [some (.ref 22), some (.int x1)] [] (hM c A R) (fun rv h' => rv = some (.int r) ∧ h' = hM c A' R) := by
  unfold g_131_62b at hf
  obtain ⟨d, rfl⟩ : ∃ z, d = z + 1 := ⟨d - 1, by omega⟩
  refine v_blk 3 (i' := (bif (a_ic .ne (A 99 8) (0 : Int32)) then 82 else 65)) (L' := [some (.ref 22), some (.int x1)]) (st' := []) (h' := (hM c A R)) (fun _ => rfl) ?_
  rcases Bool.eq_false_or_eq_true (a_ic .ne (A 99 8) (0 : Int32)) with hb | hb
  · have hf := a_bt hb hf
    refine v_it hb ?_
    refine v_weak (L' := [some (.ref 22), none]) (show a_wk [some (.ref 22), none] [some (.ref 22), some (.int x1)] from ⟨rfl, ⟨(fun v hv => by cases hv; rfl), trivial⟩⟩) ?_
    exact gt_131_82 hfz N c R (d + 1) hd  A _ _ hf
  · have hf := a_be hb hf
    refine v_ie hb ?_
    refine v_blk 3 (i' := (bif (a_ic .ge x1 (10 : Int32)) then 82 else 68)) (L' := [some (.ref 22), some (.int x1)]) (st' := []) (h' := (hM c A R)) (fun _ => rfl) ?_
    rcases Bool.eq_false_or_eq_true (a_ic .ge x1 (10 : Int32)) with hb | hb
    · have hf := a_bt hb hf
      refine v_it hb ?_
      refine v_weak (L' := [some (.ref 22), none]) (show a_wk [some (.ref 22), none] [some (.ref 22), some (.int x1)] from ⟨rfl, ⟨(fun v hv => by cases hv; rfl), trivial⟩⟩) ?_
      exact gt_131_82 hfz N c R (d + 1) hd  A _ _ hf
    · have hf := a_be hb hf
      refine v_ie hb ?_
      obtain ⟨r5, A5, hc, hf⟩ := m_bd_ok hf
      refine v_call 2 (k' := 118) (i' := 70) (E := [some (.ref 22)]) (L' := [some (.ref 22), some (.int x1)]) (rest := []) (h1 := (hM c A R)) (fun _ => rfl) ?_
      refine v_post (gt_118 hfz N c R d (by omega)  A _ _ hc) ?_
      rintro rv h' ⟨rfl, rfl⟩
      refine v_blk 2 (i' := (bif (a_ic .ne r5 (59 : Int32)) then 82 else 72)) (L' := [some (.ref 22), some (.int x1)]) (st' := []) (h' := (hM c A5 R)) (fun _ => rfl) ?_
      rcases Bool.eq_false_or_eq_true (a_ic .ne r5 (59 : Int32)) with hb | hb
      · have hf := a_bt hb hf
        refine v_it hb ?_
        refine v_weak (L' := [some (.ref 22), none]) (show a_wk [some (.ref 22), none] [some (.ref 22), some (.int x1)] from ⟨rfl, ⟨(fun v hv => by cases hv; rfl), trivial⟩⟩) ?_
        exact gt_131_82 hfz N c R (d + 1) hd  A5 _ _ hf
      · have hf := a_be hb hf
        refine v_ie hb ?_
        obtain ⟨r6, A6, hc, hf⟩ := m_bd_ok hf
        refine v_call 8 (k' := 130) (i' := 80) (E := [some (.ref 22)]) (L' := [some (.ref 22), some (.int x1)]) (rest := []) (h1 := (hM c (va_up A5 99 (upd (A5 99) 6 ((A5 99 6) + (1 : Int32)))) R)) (fun _ => rfl) ?_
        refine v_post (gt_130 hfz N c R d (by omega)  (va_up A5 99 (upd (A5 99) 6 ((A5 99 6) + (1 : Int32)))) _ _ hc) ?_
        rintro rv h' ⟨rfl, rfl⟩
        refine v_blk 2 (i' := 62) (L' := [some (.ref 22), some (.int (x1 + (1 : Int32)))]) (st' := []) (h' := (hM c A6 R)) (fun _ => rfl) ?_
        exact hrc62 (x1 + (1 : Int32)) A6 _ _ hf
theorem gt_131_62 {fz : Value} {sc : Nat × (Nat → Int32)} (hfz : fz = .null ∨ fz = .retAddr 60) (N : Nat) (c : Nat → aC) (R : List aC) (d : Nat) (hd : 33 ≤ d) : ∀ (n : Nat) (x1 : Int32) (A : mS) (r : Int32) (A' : mS) (hf : g_131_62 N n x1 A = some (r, A')), v_V fz sc d 131 62 [some (.ref 22), some (.int x1)] [] (hM c A R) (fun rv h' => rv = some (.int r) ∧ h' = hM c A' R) := by
  intro n
  induction n with
  | zero => intro x1 A r A' hf; cases hf
  | succ n ih =>
    intro x1 A r A' hf
    exact gt_131_62b hfz N c R d hd (g_131_62 N n) ih x1 A r A' hf
set_option maxRecDepth 100000 in
set_option maxHeartbeats 4000000 in
theorem gt_131 {fz : Value} {sc : Nat × (Nat → Int32)} (hfz : fz = .null ∨ fz = .retAddr 60) (N : Nat) (c : Nat → aC) (R : List aC) (d : Nat) (hd : 33 ≤ d) (A : mS) (r : Int32) (A' : mS) (hf : g_131 N  A = some (r, A')) : v_V fz sc d 131 0 [some (.ref 22), none] [] (hM c A R) (fun rv h' => rv = some (.int r) ∧ h' = hM c A' R) := by
  unfold g_131 at hf
  obtain ⟨d, rfl⟩ : ∃ z, d = z + 1 := ⟨d - 1, by omega⟩
  refine v_blk 6 (i' := (bif (a_ic .ne ((A 0) 12) (5 : Int32)) then 8 else 6)) (L' := [some (.ref 22), none]) (st' := []) (h' := (hM c A R)) (fun _ => rfl) ?_
  rcases Bool.eq_false_or_eq_true (a_ic .ne ((A 0) 12) (5 : Int32)) with hb | hb
  · have hf := a_bt hb hf
    refine v_it hb ?_
    obtain ⟨hg, hf⟩ := a_bif hf
    refine v_grd 25 (i' := 33) (L' := [some (.ref 22), none]) (st' := []) (h' := (hM c (va_up (va_up A 0 (upd (upd (A 0) 16 (0 : Int32)) (((232 : Int32) + ((A 0) 12))).toNatClampNeg (0 : Int32))) 99 (upd (upd (A 99) 5 ((A 0) 12)) 7 ((A 0) 16))) R)) (fun _ => rfl) hg ?_
    obtain ⟨A1, hA, hf⟩ := m_st_ok hf
    rw [hA]
    obtain ⟨hg, hf⟩ := a_bif hf
    refine v_grd 8 (i' := 41) (L' := [some (.ref 22), none]) (st' := []) (h' := (hM c (va_up A1 0 (upd (A1 0) (((237 : Int32) + (A1 99 5))).toNatClampNeg (0 : Int32))) R)) (fun _ => rfl) hg ?_
    obtain ⟨A2, hA, hf⟩ := m_st_ok hf
    rw [hA]
    obtain ⟨hg, hf⟩ := a_bif hf
    refine v_grd 8 (i' := 49) (L' := [some (.ref 22), none]) (st' := []) (h' := (hM c (va_up A2 0 (upd (A2 0) (((242 : Int32) + (A2 99 5))).toNatClampNeg (0 : Int32))) R)) (fun _ => rfl) hg ?_
    obtain ⟨A3, hA, hf⟩ := m_st_ok hf
    rw [hA]
    obtain ⟨r4, A4, hc, hf⟩ := m_bd_ok hf
    refine v_call 13 (k' := 130) (i' := 62) (E := [some (.ref 22)]) (L' := [some (.ref 22), some (.int (1 : Int32))]) (rest := []) (h1 := (hM c (va_up A3 99 (upd (upd (upd (A3 99) 6 (0 : Int32)) 8 (0 : Int32)) 9 (0 : Int32))) R)) (fun _ => rfl) ?_
    refine v_post (gt_130 hfz N c R d (by omega)  (va_up A3 99 (upd (upd (upd (A3 99) 6 (0 : Int32)) 8 (0 : Int32)) 9 (0 : Int32))) _ _ hc) ?_
    rintro rv h' ⟨rfl, rfl⟩
    exact gt_131_62 hfz N c R (d + 1) hd N (1 : Int32) A4 _ _ hf
  · have hf := a_be hb hf
    refine v_ie hb ?_
    obtain ⟨rfl, rfl⟩ := m_rt hf
    exact v_ret 2 (fun _ => rfl) ⟨rfl, rfl⟩
set_option maxRecDepth 100000 in
set_option maxHeartbeats 4000000 in
theorem gt_132 {fz : Value} {sc : Nat × (Nat → Int32)} (hfz : fz = .null ∨ fz = .retAddr 60) (N : Nat) (c : Nat → aC) (R : List aC) (d : Nat) (hd : 0 ≤ d) (x1 : Int32) (A : mS) (r : Int32) (A' : mS) (hf : g_132 N x1 A = some (r, A')) : v_V fz sc d 132 0 [some (.ref 22), some (.int x1)] [] (hM c A R) (fun rv h' => rv = some (.int r) ∧ h' = hM c A' R) := by
  unfold g_132 at hf
  refine v_blk 6 (i' := (bif (a_ic .ne ((A 0) 17) (-1 : Int32)) then 8 else 6)) (L' := [some (.ref 22), some (.int x1)]) (st' := []) (h' := (hM c A R)) (fun _ => rfl) ?_
  rcases Bool.eq_false_or_eq_true (a_ic .ne ((A 0) 17) (-1 : Int32)) with hb | hb
  · have hf := a_bt hb hf
    refine v_it hb ?_
    obtain ⟨hg, hf⟩ := a_bif hf
    refine v_grd 9 (i' := 17) (L' := [some (.ref 22), some (.int x1)]) (st' := [(.int ((A 0) ((x1 + ((A 0) 17))).toNatClampNeg))]) (h' := (hM c A R)) (fun _ => rfl) hg ?_
    obtain ⟨y1, hy, hf⟩ := m_li_ok hf
    rw [hy]
    obtain ⟨rfl, rfl⟩ := m_rt hf
    exact v_ret 1 (fun _ => rfl) ⟨rfl, rfl⟩
  · have hf := a_be hb hf
    refine v_ie hb ?_
    obtain ⟨rfl, rfl⟩ := m_rt hf
    exact v_ret 3 (fun _ => rfl) ⟨rfl, rfl⟩
set_option maxRecDepth 100000 in
set_option maxHeartbeats 4000000 in
theorem gt_133_188 {fz : Value} {sc : Nat × (Nat → Int32)} (hfz : fz = .null ∨ fz = .retAddr 60) (N : Nat) (c : Nat → aC) (R : List aC) (d : Nat) (hd : 1 ≤ d) (rc51 : Int32 → Int32 → Int32 → Int32 → Int32 → mS → Option (Int32 × mS)) (hrc51 : ∀ (x5 : Int32) (x6 : Int32) (x7 : Int32) (x8 : Int32) (x9 : Int32) (A : mS) (r : Int32) (A' : mS), rc51 x5 x6 x7 x8 x9 A = some (r, A') → v_V fz sc d 133 51 [some (.ref 22), none, none, none, none, some (.int x5), some (.int x6), some (.int x7), some (.int x8), some (.int x9), none, none, none, none] [] (hM c A R) (fun rv h' => rv = some (.int r) ∧ h' = hM c A' R)) (x5 : Int32) (x6 : Int32) (x7 : Int32) (x8 : Int32) (x9 : Int32) (t0 : Int32) (A : mS) (r : Int32) (A' : mS) (hf : g_133_188 N rc51 x5 x6 x7 x8 x9 t0 A = some (r, A')) : v_V fz sc d 133 188 [some (.ref 22), none, none, none, none, some (.int x5), some (.int x6), some (.int x7), some (.int x8), some (.int x9), none, none, none, none] [(.int t0)] (hM c A R) (fun rv h' => rv = some (.int r) ∧ h' = hM c A' R) := by
  unfold g_133_188 at hf
  obtain ⟨d, rfl⟩ : ∃ z, d = z + 1 := ⟨d - 1, by omega⟩
  refine v_blk 7 (i' := (bif (a_ic .eq ((A 4) 0) (0 : Int32)) then 197 else 195)) (L' := [some (.ref 22), none, none, none, none, some (.int x5), some (.int x6), some (.int x7), some (.int x8), some (.int x9), none, some (.int t0), none, none]) (st' := [(.int x5)]) (h' := (hM c A R)) (fun _ => rfl) ?_
  rcases Bool.eq_false_or_eq_true (a_ic .eq ((A 4) 0) (0 : Int32)) with hb | hb
  · have hf := a_bt hb hf
    refine v_it hb ?_
    refine v_blk 5 (i' := 51) (L' := [some (.ref 22), none, none, none, none, some (.int (x5 + (0 : Int32))), some (.int x6), some (.int x7), some (.int x8), some (.int (x9 + (1 : Int32))), none, some (.int t0), none, none]) (st' := []) (h' := (hM c A R)) (fun _ => rfl) ?_
    refine v_weak (L' := [some (.ref 22), none, none, none, none, some (.int (x5 + (0 : Int32))), some (.int x6), some (.int x7), some (.int x8), some (.int (x9 + (1 : Int32))), none, none, none, none]) (show a_wk [some (.ref 22), none, none, none, none, some (.int (x5 + (0 : Int32))), some (.int x6), some (.int x7), some (.int x8), some (.int (x9 + (1 : Int32))), none, none, none, none] [some (.ref 22), none, none, none, none, some (.int (x5 + (0 : Int32))), some (.int x6), some (.int x7), some (.int x8), some (.int (x9 + (1 : Int32))), none, some (.int t0), none, none] from ⟨rfl, ⟨(fun v hv => by cases hv), ⟨(fun v hv => by cases hv), ⟨(fun v hv => by cases hv), ⟨(fun v hv => by cases hv), ⟨rfl, ⟨rfl, ⟨rfl, ⟨rfl, ⟨rfl, ⟨(fun v hv => by cases hv), ⟨(fun v hv => by cases hv; rfl), ⟨(fun v hv => by cases hv), ⟨(fun v hv => by cases hv), trivial⟩⟩⟩⟩⟩⟩⟩⟩⟩⟩⟩⟩⟩⟩) ?_
    exact hrc51 (x5 + (0 : Int32)) x6 x7 x8 (x9 + (1 : Int32)) A _ _ hf
  · have hf := a_be hb hf
    refine v_ie hb ?_
    refine v_blk 6 (i' := 51) (L' := [some (.ref 22), none, none, none, none, some (.int (x5 + t0)), some (.int x6), some (.int x7), some (.int x8), some (.int (x9 + (1 : Int32))), none, some (.int t0), none, none]) (st' := []) (h' := (hM c A R)) (fun _ => rfl) ?_
    refine v_weak (L' := [some (.ref 22), none, none, none, none, some (.int (x5 + t0)), some (.int x6), some (.int x7), some (.int x8), some (.int (x9 + (1 : Int32))), none, none, none, none]) (show a_wk [some (.ref 22), none, none, none, none, some (.int (x5 + t0)), some (.int x6), some (.int x7), some (.int x8), some (.int (x9 + (1 : Int32))), none, none, none, none] [some (.ref 22), none, none, none, none, some (.int (x5 + t0)), some (.int x6), some (.int x7), some (.int x8), some (.int (x9 + (1 : Int32))), none, some (.int t0), none, none] from ⟨rfl, ⟨(fun v hv => by cases hv), ⟨(fun v hv => by cases hv), ⟨(fun v hv => by cases hv), ⟨(fun v hv => by cases hv), ⟨rfl, ⟨rfl, ⟨rfl, ⟨rfl, ⟨rfl, ⟨(fun v hv => by cases hv), ⟨(fun v hv => by cases hv; rfl), ⟨(fun v hv => by cases hv), ⟨(fun v hv => by cases hv), trivial⟩⟩⟩⟩⟩⟩⟩⟩⟩⟩⟩⟩⟩⟩) ?_
    exact hrc51 (x5 + t0) x6 x7 x8 (x9 + (1 : Int32)) A _ _ hf
set_option maxRecDepth 100000 in
set_option maxHeartbeats 4000000 in
theorem gt_133_51b {fz : Value} {sc : Nat × (Nat → Int32)} (hfz : fz = .null ∨ fz = .retAddr 60) (N : Nat) (c : Nat → aC) (R : List aC) (d : Nat) (hd : 1 ≤ d) (rc51 : Int32 → Int32 → Int32 → Int32 → Int32 → mS → Option (Int32 × mS)) (hrc51 : ∀ (x5 : Int32) (x6 : Int32) (x7 : Int32) (x8 : Int32) (x9 : Int32) (A : mS) (r : Int32) (A' : mS), rc51 x5 x6 x7 x8 x9 A = some (r, A') → v_V fz sc d 133 51 [some (.ref 22), none, none, none, none, some (.int x5), some (.int x6), some (.int x7), some (.int x8), some (.int x9), none, none, none, none] [] (hM c A R) (fun rv h' => rv = some (.int r) ∧ h' = hM c A' R)) (x5 : Int32) (x6 : Int32) (x7 : Int32) (x8 : Int32) (x9 : Int32) (A : mS) (r : Int32) (A' : mS) (hf : g_133_51b N rc51 x5 x6 x7 x8 x9 A = some (r, A')) : v_V fz sc d 133 51 [some (.ref 22), none, none, none, none, some (.int x5), some (.int x6), some (.int x7), some (.int x8), some (.int x9), none, none, none, none] [] (hM c A R) (fun rv h' => rv = some (.int r) ∧ h' = hM c A' R) := by
  unfold g_133_51b at hf
  obtain ⟨d, rfl⟩ : ∃ z, d = z + 1 := ⟨d - 1, by omega⟩
  refine v_blk 5 (i' := (bif (a_ic .ge x9 (x7 + x6)) then 202 else 56)) (L' := [some (.ref 22), none, none, none, none, some (.int x5), some (.int x6), some (.int x7), some (.int x8), some (.int x9), none, none, none, none]) (st' := []) (h' := (hM c A R)) (fun _ => rfl) ?_
  rcases Bool.eq_false_or_eq_true (a_ic .ge x9 (x7 + x6)) with hb | hb
  · have hf := a_bt hb hf
    refine v_it hb ?_
    obtain ⟨rfl, rfl⟩ := m_rt hf
    exact v_ret 2 (fun _ => rfl) ⟨rfl, rfl⟩
  · have hf := a_be hb hf
    refine v_ie hb ?_
    obtain ⟨hg, hf⟩ := a_bif hf
    refine v_grd 4 (i' := 60) (L' := [some (.ref 22), none, none, none, none, some (.int x5), some (.int x6), some (.int x7), some (.int x8), some (.int x9), none, none, none, none]) (st' := [(.int ((A 0) (x9).toNatClampNeg))]) (h' := (hM c A R)) (fun _ => rfl) hg ?_
    obtain ⟨y4, hy, hf⟩ := m_li_ok hf
    rw [hy]
    refine v_blk 3 (i' := (bif (a_ic .lt y4 (0 : Int32)) then 111 else 63)) (L' := [some (.ref 22), none, none, none, none, some (.int x5), some (.int x6), some (.int x7), some (.int x8), some (.int x9), some (.int y4), none, none, none]) (st' := []) (h' := (hM c A R)) (fun _ => rfl) ?_
    rcases Bool.eq_false_or_eq_true (a_ic .lt y4 (0 : Int32)) with hb | hb
    · have hf := a_bt hb hf
      refine v_it hb ?_
      refine v_blk 3 (i' := (bif (a_ic .ne y4 (-1 : Int32)) then 131 else 114)) (L' := [some (.ref 22), none, none, none, none, some (.int x5), some (.int x6), some (.int x7), some (.int x8), some (.int x9), some (.int y4), none, none, none]) (st' := []) (h' := (hM c A R)) (fun _ => rfl) ?_
      rcases Bool.eq_false_or_eq_true (a_ic .ne y4 (-1 : Int32)) with hb | hb
      · have hf := a_bt hb hf
        refine v_it hb ?_
        refine v_blk 3 (i' := (bif (a_ic .le y4 (-10 : Int32)) then 176 else 134)) (L' := [some (.ref 22), none, none, none, none, some (.int x5), some (.int x6), some (.int x7), some (.int x8), some (.int x9), some (.int y4), none, none, none]) (st' := []) (h' := (hM c A R)) (fun _ => rfl) ?_
        rcases Bool.eq_false_or_eq_true (a_ic .le y4 (-10 : Int32)) with hb | hb
        · have hf := a_bt hb hf
          refine v_it hb ?_
          refine v_blk 5 (i' := (bif (a_ic .le y4 (-200 : Int32)) then 185 else 181)) (L' := [some (.ref 22), none, none, none, none, some (.int x5), some (.int x6), some (.int x7), some (.int (0 : Int32)), some (.int x9), some (.int y4), none, none, none]) (st' := []) (h' := (hM c A R)) (fun _ => rfl) ?_
          rcases Bool.eq_false_or_eq_true (a_ic .le y4 (-200 : Int32)) with hb | hb
          · have hf := a_bt hb hf
            refine v_it hb ?_
            refine v_blk 3 (i' := 188) (L' := [some (.ref 22), none, none, none, none, some (.int x5), some (.int x6), some (.int x7), some (.int (0 : Int32)), some (.int x9), some (.int y4), none, none, none]) (st' := [(.int (y4 - (-200 : Int32)))]) (h' := (hM c A R)) (fun _ => rfl) ?_
            obtain ⟨y5, hy, hf⟩ := m_li_ok hf
            rw [hy]
            refine v_weak (L' := [some (.ref 22), none, none, none, none, some (.int x5), some (.int x6), some (.int x7), some (.int (0 : Int32)), some (.int x9), none, none, none, none]) (show a_wk [some (.ref 22), none, none, none, none, some (.int x5), some (.int x6), some (.int x7), some (.int (0 : Int32)), some (.int x9), none, none, none, none] [some (.ref 22), none, none, none, none, some (.int x5), some (.int x6), some (.int x7), some (.int (0 : Int32)), some (.int x9), some (.int y4), none, none, none] from ⟨rfl, ⟨(fun v hv => by cases hv), ⟨(fun v hv => by cases hv), ⟨(fun v hv => by cases hv), ⟨(fun v hv => by cases hv), ⟨rfl, ⟨rfl, ⟨rfl, ⟨rfl, ⟨rfl, ⟨(fun v hv => by cases hv; rfl), ⟨(fun v hv => by cases hv), ⟨(fun v hv => by cases hv), ⟨(fun v hv => by cases hv), trivial⟩⟩⟩⟩⟩⟩⟩⟩⟩⟩⟩⟩⟩⟩) ?_
            exact gt_133_188 hfz N c R (d + 1) hd rc51 hrc51 x5 x6 x7 (0 : Int32) x9 y5 A _ _ hf
          · have hf := a_be hb hf
            refine v_ie hb ?_
            refine v_blk 3 (i' := 184) (L' := [some (.ref 22), none, none, none, none, some (.int x5), some (.int x6), some (.int x7), some (.int (0 : Int32)), some (.int x9), some (.int y4), none, none, none]) (st' := [(.int ((-10 : Int32) - y4))]) (h' := (hM c A R)) (fun _ => rfl) ?_
            obtain ⟨y6, hy, hf⟩ := m_li_ok hf
            rw [hy]
            refine v_blk 1 (i' := 188) (L' := [some (.ref 22), none, none, none, none, some (.int x5), some (.int x6), some (.int x7), some (.int (0 : Int32)), some (.int x9), some (.int y4), none, none, none]) (st' := [(.int y6)]) (h' := (hM c A R)) (fun _ => rfl) ?_
            refine v_weak (L' := [some (.ref 22), none, none, none, none, some (.int x5), some (.int x6), some (.int x7), some (.int (0 : Int32)), some (.int x9), none, none, none, none]) (show a_wk [some (.ref 22), none, none, none, none, some (.int x5), some (.int x6), some (.int x7), some (.int (0 : Int32)), some (.int x9), none, none, none, none] [some (.ref 22), none, none, none, none, some (.int x5), some (.int x6), some (.int x7), some (.int (0 : Int32)), some (.int x9), some (.int y4), none, none, none] from ⟨rfl, ⟨(fun v hv => by cases hv), ⟨(fun v hv => by cases hv), ⟨(fun v hv => by cases hv), ⟨(fun v hv => by cases hv), ⟨rfl, ⟨rfl, ⟨rfl, ⟨rfl, ⟨rfl, ⟨(fun v hv => by cases hv; rfl), ⟨(fun v hv => by cases hv), ⟨(fun v hv => by cases hv), ⟨(fun v hv => by cases hv), trivial⟩⟩⟩⟩⟩⟩⟩⟩⟩⟩⟩⟩⟩⟩) ?_
            exact gt_133_188 hfz N c R (d + 1) hd rc51 hrc51 x5 x6 x7 (0 : Int32) x9 y6 A _ _ hf
        · have hf := a_be hb hf
          refine v_ie hb ?_
          obtain ⟨y7, hy, hf⟩ := m_li_ok hf
          refine v_ii rfl rfl rfl rfl hy rfl ?_
          refine v_blk 8 (i' := (bif (a_ic .ne y4 (-2 : Int32)) then 159 else 143)) (L' := [some (.ref 22), none, none, none, none, some (.int x5), some (.int x6), some (.int x7), some (.int y7), some (.int x9), some (.int y4), none, none, none]) (st' := [(.int (y7 - (1 : Int32))), (.ref 27)]) (h' := (hM c A R)) (fun _ => rfl) ?_
          rcases Bool.eq_false_or_eq_true (a_ic .ne y4 (-2 : Int32)) with hb | hb
          · have hf := a_bt hb hf
            refine v_it hb ?_
            obtain ⟨hg, hf⟩ := a_bif hf
            refine v_grd 6 (i' := 165) (L' := [some (.ref 22), none, none, none, none, some (.int x5), some (.int x6), some (.int x7), some (.int y7), some (.int x9), some (.int y4), none, none, none]) (st' := [(.int ((A 4) ((y7 - (1 : Int32))).toNatClampNeg)), (.int (y7 - (1 : Int32))), (.ref 27)]) (h' := (hM c A R)) (fun _ => rfl) hg ?_
            obtain ⟨y8, hy, hf⟩ := m_li_ok hf
            rw [hy]
            refine v_blk 1 (i' := (bif (a_ic .ne y8 (0 : Int32)) then 171 else 166)) (L' := [some (.ref 22), none, none, none, none, some (.int x5), some (.int x6), some (.int x7), some (.int y7), some (.int x9), some (.int y4), none, none, none]) (st' := [(.int (y7 - (1 : Int32))), (.ref 27)]) (h' := (hM c A R)) (fun _ => rfl) ?_
            rcases Bool.eq_false_or_eq_true (a_ic .ne y8 (0 : Int32)) with hb | hb
            · have hf := a_bt hb hf
              refine v_it hb ?_
              obtain ⟨hg, hf⟩ := a_bif hf
              refine v_grd 3 (i' := 175) (L' := [some (.ref 22), none, none, none, none, some (.int x5), some (.int x6), some (.int x7), some (.int y7), some (.int x9), some (.int y4), none, none, none]) (st' := []) (h' := (hM c (va_up A 4 (upd (A 4) ((y7 - (1 : Int32))).toNatClampNeg (1 : Int32))) R)) (fun _ => rfl) hg ?_
              obtain ⟨A9, hA, hf⟩ := m_st_ok hf
              rw [hA]
              refine v_blk 3 (i' := 51) (L' := [some (.ref 22), none, none, none, none, some (.int x5), some (.int x6), some (.int x7), some (.int y7), some (.int (x9 + (1 : Int32))), some (.int y4), none, none, none]) (st' := []) (h' := (hM c A9 R)) (fun _ => rfl) ?_
              refine v_weak (L' := [some (.ref 22), none, none, none, none, some (.int x5), some (.int x6), some (.int x7), some (.int y7), some (.int (x9 + (1 : Int32))), none, none, none, none]) (show a_wk [some (.ref 22), none, none, none, none, some (.int x5), some (.int x6), some (.int x7), some (.int y7), some (.int (x9 + (1 : Int32))), none, none, none, none] [some (.ref 22), none, none, none, none, some (.int x5), some (.int x6), some (.int x7), some (.int y7), some (.int (x9 + (1 : Int32))), some (.int y4), none, none, none] from ⟨rfl, ⟨(fun v hv => by cases hv), ⟨(fun v hv => by cases hv), ⟨(fun v hv => by cases hv), ⟨(fun v hv => by cases hv), ⟨rfl, ⟨rfl, ⟨rfl, ⟨rfl, ⟨rfl, ⟨(fun v hv => by cases hv; rfl), ⟨(fun v hv => by cases hv), ⟨(fun v hv => by cases hv), ⟨(fun v hv => by cases hv), trivial⟩⟩⟩⟩⟩⟩⟩⟩⟩⟩⟩⟩⟩⟩) ?_
              exact hrc51 x5 x6 x7 y7 (x9 + (1 : Int32)) A9 _ _ hf
            · have hf := a_be hb hf
              refine v_ie hb ?_
              obtain ⟨hg, hf⟩ := a_bif hf
              refine v_grd 4 (i' := 170) (L' := [some (.ref 22), none, none, none, none, some (.int x5), some (.int x6), some (.int x7), some (.int y7), some (.int x9), some (.int y4), none, none, none]) (st' := [(.int ((A 4) (y7).toNatClampNeg)), (.int (y7 - (1 : Int32))), (.ref 27)]) (h' := (hM c A R)) (fun _ => rfl) hg ?_
              obtain ⟨y10, hy, hf⟩ := m_li_ok hf
              rw [hy]
              refine v_blk 1 (i' := (bif (a_ic .eq y10 (0 : Int32)) then 173 else 171)) (L' := [some (.ref 22), none, none, none, none, some (.int x5), some (.int x6), some (.int x7), some (.int y7), some (.int x9), some (.int y4), none, none, none]) (st' := [(.int (y7 - (1 : Int32))), (.ref 27)]) (h' := (hM c A R)) (fun _ => rfl) ?_
              rcases Bool.eq_false_or_eq_true (a_ic .eq y10 (0 : Int32)) with hb | hb
              · have hf := a_bt hb hf
                refine v_it hb ?_
                obtain ⟨hg, hf⟩ := a_bif hf
                refine v_grd 2 (i' := 175) (L' := [some (.ref 22), none, none, none, none, some (.int x5), some (.int x6), some (.int x7), some (.int y7), some (.int x9), some (.int y4), none, none, none]) (st' := []) (h' := (hM c (va_up A 4 (upd (A 4) ((y7 - (1 : Int32))).toNatClampNeg (0 : Int32))) R)) (fun _ => rfl) hg ?_
                obtain ⟨A11, hA, hf⟩ := m_st_ok hf
                rw [hA]
                refine v_blk 3 (i' := 51) (L' := [some (.ref 22), none, none, none, none, some (.int x5), some (.int x6), some (.int x7), some (.int y7), some (.int (x9 + (1 : Int32))), some (.int y4), none, none, none]) (st' := []) (h' := (hM c A11 R)) (fun _ => rfl) ?_
                refine v_weak (L' := [some (.ref 22), none, none, none, none, some (.int x5), some (.int x6), some (.int x7), some (.int y7), some (.int (x9 + (1 : Int32))), none, none, none, none]) (show a_wk [some (.ref 22), none, none, none, none, some (.int x5), some (.int x6), some (.int x7), some (.int y7), some (.int (x9 + (1 : Int32))), none, none, none, none] [some (.ref 22), none, none, none, none, some (.int x5), some (.int x6), some (.int x7), some (.int y7), some (.int (x9 + (1 : Int32))), some (.int y4), none, none, none] from ⟨rfl, ⟨(fun v hv => by cases hv), ⟨(fun v hv => by cases hv), ⟨(fun v hv => by cases hv), ⟨(fun v hv => by cases hv), ⟨rfl, ⟨rfl, ⟨rfl, ⟨rfl, ⟨rfl, ⟨(fun v hv => by cases hv; rfl), ⟨(fun v hv => by cases hv), ⟨(fun v hv => by cases hv), ⟨(fun v hv => by cases hv), trivial⟩⟩⟩⟩⟩⟩⟩⟩⟩⟩⟩⟩⟩⟩) ?_
                exact hrc51 x5 x6 x7 y7 (x9 + (1 : Int32)) A11 _ _ hf
              · have hf := a_be hb hf
                refine v_ie hb ?_
                obtain ⟨hg, hf⟩ := a_bif hf
                refine v_grd 3 (i' := 175) (L' := [some (.ref 22), none, none, none, none, some (.int x5), some (.int x6), some (.int x7), some (.int y7), some (.int x9), some (.int y4), none, none, none]) (st' := []) (h' := (hM c (va_up A 4 (upd (A 4) ((y7 - (1 : Int32))).toNatClampNeg (1 : Int32))) R)) (fun _ => rfl) hg ?_
                obtain ⟨A12, hA, hf⟩ := m_st_ok hf
                rw [hA]
                refine v_blk 3 (i' := 51) (L' := [some (.ref 22), none, none, none, none, some (.int x5), some (.int x6), some (.int x7), some (.int y7), some (.int (x9 + (1 : Int32))), some (.int y4), none, none, none]) (st' := []) (h' := (hM c A12 R)) (fun _ => rfl) ?_
                refine v_weak (L' := [some (.ref 22), none, none, none, none, some (.int x5), some (.int x6), some (.int x7), some (.int y7), some (.int (x9 + (1 : Int32))), none, none, none, none]) (show a_wk [some (.ref 22), none, none, none, none, some (.int x5), some (.int x6), some (.int x7), some (.int y7), some (.int (x9 + (1 : Int32))), none, none, none, none] [some (.ref 22), none, none, none, none, some (.int x5), some (.int x6), some (.int x7), some (.int y7), some (.int (x9 + (1 : Int32))), some (.int y4), none, none, none] from ⟨rfl, ⟨(fun v hv => by cases hv), ⟨(fun v hv => by cases hv), ⟨(fun v hv => by cases hv), ⟨(fun v hv => by cases hv), ⟨rfl, ⟨rfl, ⟨rfl, ⟨rfl, ⟨rfl, ⟨(fun v hv => by cases hv; rfl), ⟨(fun v hv => by cases hv), ⟨(fun v hv => by cases hv), ⟨(fun v hv => by cases hv), trivial⟩⟩⟩⟩⟩⟩⟩⟩⟩⟩⟩⟩⟩⟩) ?_
                exact hrc51 x5 x6 x7 y7 (x9 + (1 : Int32)) A12 _ _ hf
          · have hf := a_be hb hf
            refine v_ie hb ?_
            obtain ⟨hg, hf⟩ := a_bif hf
            refine v_grd 6 (i' := 149) (L' := [some (.ref 22), none, none, none, none, some (.int x5), some (.int x6), some (.int x7), some (.int y7), some (.int x9), some (.int y4), none, none, none]) (st' := [(.int ((A 4) ((y7 - (1 : Int32))).toNatClampNeg)), (.int (y7 - (1 : Int32))), (.ref 27)]) (h' := (hM c A R)) (fun _ => rfl) hg ?_
            obtain ⟨y13, hy, hf⟩ := m_li_ok hf
            rw [hy]
            refine v_blk 1 (i' := (bif (a_ic .eq y13 (0 : Int32)) then 157 else 150)) (L' := [some (.ref 22), none, none, none, none, some (.int x5), some (.int x6), some (.int x7), some (.int y7), some (.int x9), some (.int y4), none, none, none]) (st' := [(.int (y7 - (1 : Int32))), (.ref 27)]) (h' := (hM c A R)) (fun _ => rfl) ?_
            rcases Bool.eq_false_or_eq_true (a_ic .eq y13 (0 : Int32)) with hb | hb
            · have hf := a_bt hb hf
              refine v_it hb ?_
              obtain ⟨hg, hf⟩ := a_bif hf
              refine v_grd 3 (i' := 175) (L' := [some (.ref 22), none, none, none, none, some (.int x5), some (.int x6), some (.int x7), some (.int y7), some (.int x9), some (.int y4), none, none, none]) (st' := []) (h' := (hM c (va_up A 4 (upd (A 4) ((y7 - (1 : Int32))).toNatClampNeg (0 : Int32))) R)) (fun _ => rfl) hg ?_
              obtain ⟨A14, hA, hf⟩ := m_st_ok hf
              rw [hA]
              refine v_blk 3 (i' := 51) (L' := [some (.ref 22), none, none, none, none, some (.int x5), some (.int x6), some (.int x7), some (.int y7), some (.int (x9 + (1 : Int32))), some (.int y4), none, none, none]) (st' := []) (h' := (hM c A14 R)) (fun _ => rfl) ?_
              refine v_weak (L' := [some (.ref 22), none, none, none, none, some (.int x5), some (.int x6), some (.int x7), some (.int y7), some (.int (x9 + (1 : Int32))), none, none, none, none]) (show a_wk [some (.ref 22), none, none, none, none, some (.int x5), some (.int x6), some (.int x7), some (.int y7), some (.int (x9 + (1 : Int32))), none, none, none, none] [some (.ref 22), none, none, none, none, some (.int x5), some (.int x6), some (.int x7), some (.int y7), some (.int (x9 + (1 : Int32))), some (.int y4), none, none, none] from ⟨rfl, ⟨(fun v hv => by cases hv), ⟨(fun v hv => by cases hv), ⟨(fun v hv => by cases hv), ⟨(fun v hv => by cases hv), ⟨rfl, ⟨rfl, ⟨rfl, ⟨rfl, ⟨rfl, ⟨(fun v hv => by cases hv; rfl), ⟨(fun v hv => by cases hv), ⟨(fun v hv => by cases hv), ⟨(fun v hv => by cases hv), trivial⟩⟩⟩⟩⟩⟩⟩⟩⟩⟩⟩⟩⟩⟩) ?_
              exact hrc51 x5 x6 x7 y7 (x9 + (1 : Int32)) A14 _ _ hf
            · have hf := a_be hb hf
              refine v_ie hb ?_
              obtain ⟨hg, hf⟩ := a_bif hf
              refine v_grd 4 (i' := 154) (L' := [some (.ref 22), none, none, none, none, some (.int x5), some (.int x6), some (.int x7), some (.int y7), some (.int x9), some (.int y4), none, none, none]) (st' := [(.int ((A 4) (y7).toNatClampNeg)), (.int (y7 - (1 : Int32))), (.ref 27)]) (h' := (hM c A R)) (fun _ => rfl) hg ?_
              obtain ⟨y15, hy, hf⟩ := m_li_ok hf
              rw [hy]
              refine v_blk 1 (i' := (bif (a_ic .eq y15 (0 : Int32)) then 157 else 155)) (L' := [some (.ref 22), none, none, none, none, some (.int x5), some (.int x6), some (.int x7), some (.int y7), some (.int x9), some (.int y4), none, none, none]) (st' := [(.int (y7 - (1 : Int32))), (.ref 27)]) (h' := (hM c A R)) (fun _ => rfl) ?_
              rcases Bool.eq_false_or_eq_true (a_ic .eq y15 (0 : Int32)) with hb | hb
              · have hf := a_bt hb hf
                refine v_it hb ?_
                obtain ⟨hg, hf⟩ := a_bif hf
                refine v_grd 3 (i' := 175) (L' := [some (.ref 22), none, none, none, none, some (.int x5), some (.int x6), some (.int x7), some (.int y7), some (.int x9), some (.int y4), none, none, none]) (st' := []) (h' := (hM c (va_up A 4 (upd (A 4) ((y7 - (1 : Int32))).toNatClampNeg (0 : Int32))) R)) (fun _ => rfl) hg ?_
                obtain ⟨A16, hA, hf⟩ := m_st_ok hf
                rw [hA]
                refine v_blk 3 (i' := 51) (L' := [some (.ref 22), none, none, none, none, some (.int x5), some (.int x6), some (.int x7), some (.int y7), some (.int (x9 + (1 : Int32))), some (.int y4), none, none, none]) (st' := []) (h' := (hM c A16 R)) (fun _ => rfl) ?_
                refine v_weak (L' := [some (.ref 22), none, none, none, none, some (.int x5), some (.int x6), some (.int x7), some (.int y7), some (.int (x9 + (1 : Int32))), none, none, none, none]) (show a_wk [some (.ref 22), none, none, none, none, some (.int x5), some (.int x6), some (.int x7), some (.int y7), some (.int (x9 + (1 : Int32))), none, none, none, none] [some (.ref 22), none, none, none, none, some (.int x5), some (.int x6), some (.int x7), some (.int y7), some (.int (x9 + (1 : Int32))), some (.int y4), none, none, none] from ⟨rfl, ⟨(fun v hv => by cases hv), ⟨(fun v hv => by cases hv), ⟨(fun v hv => by cases hv), ⟨(fun v hv => by cases hv), ⟨rfl, ⟨rfl, ⟨rfl, ⟨rfl, ⟨rfl, ⟨(fun v hv => by cases hv; rfl), ⟨(fun v hv => by cases hv), ⟨(fun v hv => by cases hv), ⟨(fun v hv => by cases hv), trivial⟩⟩⟩⟩⟩⟩⟩⟩⟩⟩⟩⟩⟩⟩) ?_
                exact hrc51 x5 x6 x7 y7 (x9 + (1 : Int32)) A16 _ _ hf
              · have hf := a_be hb hf
                refine v_ie hb ?_
                obtain ⟨hg, hf⟩ := a_bif hf
                refine v_grd 3 (i' := 175) (L' := [some (.ref 22), none, none, none, none, some (.int x5), some (.int x6), some (.int x7), some (.int y7), some (.int x9), some (.int y4), none, none, none]) (st' := []) (h' := (hM c (va_up A 4 (upd (A 4) ((y7 - (1 : Int32))).toNatClampNeg (1 : Int32))) R)) (fun _ => rfl) hg ?_
                obtain ⟨A17, hA, hf⟩ := m_st_ok hf
                rw [hA]
                refine v_blk 3 (i' := 51) (L' := [some (.ref 22), none, none, none, none, some (.int x5), some (.int x6), some (.int x7), some (.int y7), some (.int (x9 + (1 : Int32))), some (.int y4), none, none, none]) (st' := []) (h' := (hM c A17 R)) (fun _ => rfl) ?_
                refine v_weak (L' := [some (.ref 22), none, none, none, none, some (.int x5), some (.int x6), some (.int x7), some (.int y7), some (.int (x9 + (1 : Int32))), none, none, none, none]) (show a_wk [some (.ref 22), none, none, none, none, some (.int x5), some (.int x6), some (.int x7), some (.int y7), some (.int (x9 + (1 : Int32))), none, none, none, none] [some (.ref 22), none, none, none, none, some (.int x5), some (.int x6), some (.int x7), some (.int y7), some (.int (x9 + (1 : Int32))), some (.int y4), none, none, none] from ⟨rfl, ⟨(fun v hv => by cases hv), ⟨(fun v hv => by cases hv), ⟨(fun v hv => by cases hv), ⟨(fun v hv => by cases hv), ⟨rfl, ⟨rfl, ⟨rfl, ⟨rfl, ⟨rfl, ⟨(fun v hv => by cases hv; rfl), ⟨(fun v hv => by cases hv), ⟨(fun v hv => by cases hv), ⟨(fun v hv => by cases hv), trivial⟩⟩⟩⟩⟩⟩⟩⟩⟩⟩⟩⟩⟩⟩) ?_
                exact hrc51 x5 x6 x7 y7 (x9 + (1 : Int32)) A17 _ _ hf
      · have hf := a_be hb hf
        refine v_ie hb ?_
        obtain ⟨hg, hf⟩ := a_bif hf
        refine v_grd 11 (i' := 125) (L' := [some (.ref 22), none, none, none, none, some (.int x5), some (.int x6), some (.int x7), some (.int x8), some (.int x9), some (.int y4), none, none, none]) (st' := [(.int ((A 4) ((x8 - (1 : Int32))).toNatClampNeg)), (.int (x8 - (1 : Int32))), (.ref 27)]) (h' := (hM c A R)) (fun _ => rfl) hg ?_
        obtain ⟨y18, hy, hf⟩ := m_li_ok hf
        rw [hy]
        refine v_blk 1 (i' := (bif (a_ic .ne y18 (0 : Int32)) then 128 else 126)) (L' := [some (.ref 22), none, none, none, none, some (.int x5), some (.int x6), some (.int x7), some (.int x8), some (.int x9), some (.int y4), none, none, none]) (st' := [(.int (x8 - (1 : Int32))), (.ref 27)]) (h' := (hM c A R)) (fun _ => rfl) ?_
        rcases Bool.eq_false_or_eq_true (a_ic .ne y18 (0 : Int32)) with hb | hb
        · have hf := a_bt hb hf
          refine v_it hb ?_
          obtain ⟨hg, hf⟩ := a_bif hf
          refine v_grd 2 (i' := 130) (L' := [some (.ref 22), none, none, none, none, some (.int x5), some (.int x6), some (.int x7), some (.int x8), some (.int x9), some (.int y4), none, none, none]) (st' := []) (h' := (hM c (va_up A 4 (upd (A 4) ((x8 - (1 : Int32))).toNatClampNeg (0 : Int32))) R)) (fun _ => rfl) hg ?_
          obtain ⟨A19, hA, hf⟩ := m_st_ok hf
          rw [hA]
          refine v_blk 3 (i' := 51) (L' := [some (.ref 22), none, none, none, none, some (.int x5), some (.int x6), some (.int x7), some (.int x8), some (.int (x9 + (1 : Int32))), some (.int y4), none, none, none]) (st' := []) (h' := (hM c A19 R)) (fun _ => rfl) ?_
          refine v_weak (L' := [some (.ref 22), none, none, none, none, some (.int x5), some (.int x6), some (.int x7), some (.int x8), some (.int (x9 + (1 : Int32))), none, none, none, none]) (show a_wk [some (.ref 22), none, none, none, none, some (.int x5), some (.int x6), some (.int x7), some (.int x8), some (.int (x9 + (1 : Int32))), none, none, none, none] [some (.ref 22), none, none, none, none, some (.int x5), some (.int x6), some (.int x7), some (.int x8), some (.int (x9 + (1 : Int32))), some (.int y4), none, none, none] from ⟨rfl, ⟨(fun v hv => by cases hv), ⟨(fun v hv => by cases hv), ⟨(fun v hv => by cases hv), ⟨(fun v hv => by cases hv), ⟨rfl, ⟨rfl, ⟨rfl, ⟨rfl, ⟨rfl, ⟨(fun v hv => by cases hv; rfl), ⟨(fun v hv => by cases hv), ⟨(fun v hv => by cases hv), ⟨(fun v hv => by cases hv), trivial⟩⟩⟩⟩⟩⟩⟩⟩⟩⟩⟩⟩⟩⟩) ?_
          exact hrc51 x5 x6 x7 x8 (x9 + (1 : Int32)) A19 _ _ hf
        · have hf := a_be hb hf
          refine v_ie hb ?_
          obtain ⟨hg, hf⟩ := a_bif hf
          refine v_grd 3 (i' := 130) (L' := [some (.ref 22), none, none, none, none, some (.int x5), some (.int x6), some (.int x7), some (.int x8), some (.int x9), some (.int y4), none, none, none]) (st' := []) (h' := (hM c (va_up A 4 (upd (A 4) ((x8 - (1 : Int32))).toNatClampNeg (1 : Int32))) R)) (fun _ => rfl) hg ?_
          obtain ⟨A20, hA, hf⟩ := m_st_ok hf
          rw [hA]
          refine v_blk 3 (i' := 51) (L' := [some (.ref 22), none, none, none, none, some (.int x5), some (.int x6), some (.int x7), some (.int x8), some (.int (x9 + (1 : Int32))), some (.int y4), none, none, none]) (st' := []) (h' := (hM c A20 R)) (fun _ => rfl) ?_
          refine v_weak (L' := [some (.ref 22), none, none, none, none, some (.int x5), some (.int x6), some (.int x7), some (.int x8), some (.int (x9 + (1 : Int32))), none, none, none, none]) (show a_wk [some (.ref 22), none, none, none, none, some (.int x5), some (.int x6), some (.int x7), some (.int x8), some (.int (x9 + (1 : Int32))), none, none, none, none] [some (.ref 22), none, none, none, none, some (.int x5), some (.int x6), some (.int x7), some (.int x8), some (.int (x9 + (1 : Int32))), some (.int y4), none, none, none] from ⟨rfl, ⟨(fun v hv => by cases hv), ⟨(fun v hv => by cases hv), ⟨(fun v hv => by cases hv), ⟨(fun v hv => by cases hv), ⟨rfl, ⟨rfl, ⟨rfl, ⟨rfl, ⟨rfl, ⟨(fun v hv => by cases hv; rfl), ⟨(fun v hv => by cases hv), ⟨(fun v hv => by cases hv), ⟨(fun v hv => by cases hv), trivial⟩⟩⟩⟩⟩⟩⟩⟩⟩⟩⟩⟩⟩⟩) ?_
          exact hrc51 x5 x6 x7 x8 (x9 + (1 : Int32)) A20 _ _ hf
    · have hf := a_be hb hf
      refine v_ie hb ?_
      refine v_blk 5 (i' := 68) (L' := [some (.ref 22), none, none, none, none, some (.int x5), some (.int x6), some (.int x7), some (.int x8), some (.int x9), some (.int y4), none, none, none]) (st' := [(.int (y4 - y4 / (8 : Int32) * (8 : Int32))), (.ref 26)]) (h' := (hM c A R)) (fun _ => rfl) ?_
      obtain ⟨y21, hy, hf⟩ := m_li_ok hf
      rw [hy]
      obtain ⟨hg, hf⟩ := a_bif hf
      refine v_grd 1 (i' := 69) (L' := [some (.ref 22), none, none, none, none, some (.int x5), some (.int x6), some (.int x7), some (.int x8), some (.int x9), some (.int y4), none, none, none]) (st' := [(.int ((A 3) (y21).toNatClampNeg))]) (h' := (hM c A R)) (fun _ => rfl) hg ?_
      obtain ⟨y22, hy, hf⟩ := m_li_ok hf
      rw [hy]
      refine v_blk 4 (i' := 73) (L' := [some (.ref 22), none, none, none, none, some (.int x5), some (.int x6), some (.int x7), some (.int x8), some (.int x9), some (.int y4), some (.int y22), none, none]) (st' := [(.int (y4 / (8 : Int32)))]) (h' := (hM c A R)) (fun _ => rfl) ?_
      obtain ⟨y23, hy, hf⟩ := m_li_ok hf
      rw [hy]
      refine v_blk 2 (i' := 75) (L' := [some (.ref 22), none, none, none, none, some (.int x5), some (.int x6), some (.int x7), some (.int x8), some (.int x9), some (.int y4), some (.int y22), none, none]) (st' := [(.int (y23 - y23 / (4 : Int32) * (4 : Int32)))]) (h' := (hM c A R)) (fun _ => rfl) ?_
      obtain ⟨y24, hy, hf⟩ := m_li_ok hf
      rw [hy]
      refine v_blk 4 (i' := 79) (L' := [some (.ref 22), none, none, none, none, some (.int x5), some (.int x6), some (.int x7), some (.int x8), some (.int x9), some (.int y4), some (.int y22), some (.int y24), none]) (st' := [(.int (y4 / (32 : Int32)))]) (h' := (hM c A R)) (fun _ => rfl) ?_
      obtain ⟨y25, hy, hf⟩ := m_li_ok hf
      rw [hy]
      refine v_blk 6 (i' := (bif (a_ic .ne y24 (0 : Int32)) then 92 else 85)) (L' := [some (.ref 22), none, none, none, none, some (.int x5), some (.int x6), some (.int x7), some (.int x8), some (.int x9), some (.int y4), some (.int y22), some (.int y24), some (.int y25)]) (st' := [(.int x8), (.ref 27)]) (h' := (hM c A R)) (fun _ => rfl) ?_
      rcases Bool.eq_false_or_eq_true (a_ic .ne y24 (0 : Int32)) with hb | hb
      · have hf := a_bt hb hf
        refine v_it hb ?_
        refine v_blk 3 (i' := (bif (a_ic .ne y24 (1 : Int32)) then 102 else 95)) (L' := [some (.ref 22), none, none, none, none, some (.int x5), some (.int x6), some (.int x7), some (.int x8), some (.int x9), some (.int y4), some (.int y22), some (.int y24), some (.int y25)]) (st' := [(.int x8), (.ref 27)]) (h' := (hM c A R)) (fun _ => rfl) ?_
        rcases Bool.eq_false_or_eq_true (a_ic .ne y24 (1 : Int32)) with hb | hb
        · have hf := a_bt hb hf
          refine v_it hb ?_
          refine v_blk 3 (i' := (bif (a_ic .le y22 y25) then 107 else 105)) (L' := [some (.ref 22), none, none, none, none, some (.int x5), some (.int x6), some (.int x7), some (.int x8), some (.int x9), some (.int y4), some (.int y22), some (.int y24), some (.int y25)]) (st' := [(.int x8), (.ref 27)]) (h' := (hM c A R)) (fun _ => rfl) ?_
          rcases Bool.eq_false_or_eq_true (a_ic .le y22 y25) with hb | hb
          · have hf := a_bt hb hf
            refine v_it hb ?_
            obtain ⟨hg, hf⟩ := a_bif hf
            refine v_grd 2 (i' := 109) (L' := [some (.ref 22), none, none, none, none, some (.int x5), some (.int x6), some (.int x7), some (.int x8), some (.int x9), some (.int y4), some (.int y22), some (.int y24), some (.int y25)]) (st' := []) (h' := (hM c (va_up A 4 (upd (A 4) (x8).toNatClampNeg (0 : Int32))) R)) (fun _ => rfl) hg ?_
            obtain ⟨A26, hA, hf⟩ := m_st_ok hf
            rw [hA]
            refine v_blk 4 (i' := 51) (L' := [some (.ref 22), none, none, none, none, some (.int x5), some (.int x6), some (.int x7), some (.int (x8 + (1 : Int32))), some (.int (x9 + (1 : Int32))), some (.int y4), some (.int y22), some (.int y24), some (.int y25)]) (st' := []) (h' := (hM c A26 R)) (fun _ => rfl) ?_
            refine v_weak (L' := [some (.ref 22), none, none, none, none, some (.int x5), some (.int x6), some (.int x7), some (.int (x8 + (1 : Int32))), some (.int (x9 + (1 : Int32))), none, none, none, none]) (show a_wk [some (.ref 22), none, none, none, none, some (.int x5), some (.int x6), some (.int x7), some (.int (x8 + (1 : Int32))), some (.int (x9 + (1 : Int32))), none, none, none, none] [some (.ref 22), none, none, none, none, some (.int x5), some (.int x6), some (.int x7), some (.int (x8 + (1 : Int32))), some (.int (x9 + (1 : Int32))), some (.int y4), some (.int y22), some (.int y24), some (.int y25)] from ⟨rfl, ⟨(fun v hv => by cases hv), ⟨(fun v hv => by cases hv), ⟨(fun v hv => by cases hv), ⟨(fun v hv => by cases hv), ⟨rfl, ⟨rfl, ⟨rfl, ⟨rfl, ⟨rfl, ⟨(fun v hv => by cases hv; rfl), ⟨(fun v hv => by cases hv; rfl), ⟨(fun v hv => by cases hv; rfl), ⟨(fun v hv => by cases hv; rfl), trivial⟩⟩⟩⟩⟩⟩⟩⟩⟩⟩⟩⟩⟩⟩) ?_
            exact hrc51 x5 x6 x7 (x8 + (1 : Int32)) (x9 + (1 : Int32)) A26 _ _ hf
          · have hf := a_be hb hf
            refine v_ie hb ?_
            obtain ⟨hg, hf⟩ := a_bif hf
            refine v_grd 3 (i' := 109) (L' := [some (.ref 22), none, none, none, none, some (.int x5), some (.int x6), some (.int x7), some (.int x8), some (.int x9), some (.int y4), some (.int y22), some (.int y24), some (.int y25)]) (st' := []) (h' := (hM c (va_up A 4 (upd (A 4) (x8).toNatClampNeg (1 : Int32))) R)) (fun _ => rfl) hg ?_
            obtain ⟨A27, hA, hf⟩ := m_st_ok hf
            rw [hA]
            refine v_blk 4 (i' := 51) (L' := [some (.ref 22), none, none, none, none, some (.int x5), some (.int x6), some (.int x7), some (.int (x8 + (1 : Int32))), some (.int (x9 + (1 : Int32))), some (.int y4), some (.int y22), some (.int y24), some (.int y25)]) (st' := []) (h' := (hM c A27 R)) (fun _ => rfl) ?_
            refine v_weak (L' := [some (.ref 22), none, none, none, none, some (.int x5), some (.int x6), some (.int x7), some (.int (x8 + (1 : Int32))), some (.int (x9 + (1 : Int32))), none, none, none, none]) (show a_wk [some (.ref 22), none, none, none, none, some (.int x5), some (.int x6), some (.int x7), some (.int (x8 + (1 : Int32))), some (.int (x9 + (1 : Int32))), none, none, none, none] [some (.ref 22), none, none, none, none, some (.int x5), some (.int x6), some (.int x7), some (.int (x8 + (1 : Int32))), some (.int (x9 + (1 : Int32))), some (.int y4), some (.int y22), some (.int y24), some (.int y25)] from ⟨rfl, ⟨(fun v hv => by cases hv), ⟨(fun v hv => by cases hv), ⟨(fun v hv => by cases hv), ⟨(fun v hv => by cases hv), ⟨rfl, ⟨rfl, ⟨rfl, ⟨rfl, ⟨rfl, ⟨(fun v hv => by cases hv; rfl), ⟨(fun v hv => by cases hv; rfl), ⟨(fun v hv => by cases hv; rfl), ⟨(fun v hv => by cases hv; rfl), trivial⟩⟩⟩⟩⟩⟩⟩⟩⟩⟩⟩⟩⟩⟩) ?_
            exact hrc51 x5 x6 x7 (x8 + (1 : Int32)) (x9 + (1 : Int32)) A27 _ _ hf
        · have hf := a_be hb hf
          refine v_ie hb ?_
          refine v_blk 3 (i' := (bif (a_ic .ne y22 y25) then 100 else 98)) (L' := [some (.ref 22), none, none, none, none, some (.int x5), some (.int x6), some (.int x7), some (.int x8), some (.int x9), some (.int y4), some (.int y22), some (.int y24), some (.int y25)]) (st' := [(.int x8), (.ref 27)]) (h' := (hM c A R)) (fun _ => rfl) ?_
          rcases Bool.eq_false_or_eq_true (a_ic .ne y22 y25) with hb | hb
          · have hf := a_bt hb hf
            refine v_it hb ?_
            obtain ⟨hg, hf⟩ := a_bif hf
            refine v_grd 3 (i' := 109) (L' := [some (.ref 22), none, none, none, none, some (.int x5), some (.int x6), some (.int x7), some (.int x8), some (.int x9), some (.int y4), some (.int y22), some (.int y24), some (.int y25)]) (st' := []) (h' := (hM c (va_up A 4 (upd (A 4) (x8).toNatClampNeg (0 : Int32))) R)) (fun _ => rfl) hg ?_
            obtain ⟨A28, hA, hf⟩ := m_st_ok hf
            rw [hA]
            refine v_blk 4 (i' := 51) (L' := [some (.ref 22), none, none, none, none, some (.int x5), some (.int x6), some (.int x7), some (.int (x8 + (1 : Int32))), some (.int (x9 + (1 : Int32))), some (.int y4), some (.int y22), some (.int y24), some (.int y25)]) (st' := []) (h' := (hM c A28 R)) (fun _ => rfl) ?_
            refine v_weak (L' := [some (.ref 22), none, none, none, none, some (.int x5), some (.int x6), some (.int x7), some (.int (x8 + (1 : Int32))), some (.int (x9 + (1 : Int32))), none, none, none, none]) (show a_wk [some (.ref 22), none, none, none, none, some (.int x5), some (.int x6), some (.int x7), some (.int (x8 + (1 : Int32))), some (.int (x9 + (1 : Int32))), none, none, none, none] [some (.ref 22), none, none, none, none, some (.int x5), some (.int x6), some (.int x7), some (.int (x8 + (1 : Int32))), some (.int (x9 + (1 : Int32))), some (.int y4), some (.int y22), some (.int y24), some (.int y25)] from ⟨rfl, ⟨(fun v hv => by cases hv), ⟨(fun v hv => by cases hv), ⟨(fun v hv => by cases hv), ⟨(fun v hv => by cases hv), ⟨rfl, ⟨rfl, ⟨rfl, ⟨rfl, ⟨rfl, ⟨(fun v hv => by cases hv; rfl), ⟨(fun v hv => by cases hv; rfl), ⟨(fun v hv => by cases hv; rfl), ⟨(fun v hv => by cases hv; rfl), trivial⟩⟩⟩⟩⟩⟩⟩⟩⟩⟩⟩⟩⟩⟩) ?_
            exact hrc51 x5 x6 x7 (x8 + (1 : Int32)) (x9 + (1 : Int32)) A28 _ _ hf
          · have hf := a_be hb hf
            refine v_ie hb ?_
            obtain ⟨hg, hf⟩ := a_bif hf
            refine v_grd 3 (i' := 109) (L' := [some (.ref 22), none, none, none, none, some (.int x5), some (.int x6), some (.int x7), some (.int x8), some (.int x9), some (.int y4), some (.int y22), some (.int y24), some (.int y25)]) (st' := []) (h' := (hM c (va_up A 4 (upd (A 4) (x8).toNatClampNeg (1 : Int32))) R)) (fun _ => rfl) hg ?_
            obtain ⟨A29, hA, hf⟩ := m_st_ok hf
            rw [hA]
            refine v_blk 4 (i' := 51) (L' := [some (.ref 22), none, none, none, none, some (.int x5), some (.int x6), some (.int x7), some (.int (x8 + (1 : Int32))), some (.int (x9 + (1 : Int32))), some (.int y4), some (.int y22), some (.int y24), some (.int y25)]) (st' := []) (h' := (hM c A29 R)) (fun _ => rfl) ?_
            refine v_weak (L' := [some (.ref 22), none, none, none, none, some (.int x5), some (.int x6), some (.int x7), some (.int (x8 + (1 : Int32))), some (.int (x9 + (1 : Int32))), none, none, none, none]) (show a_wk [some (.ref 22), none, none, none, none, some (.int x5), some (.int x6), some (.int x7), some (.int (x8 + (1 : Int32))), some (.int (x9 + (1 : Int32))), none, none, none, none] [some (.ref 22), none, none, none, none, some (.int x5), some (.int x6), some (.int x7), some (.int (x8 + (1 : Int32))), some (.int (x9 + (1 : Int32))), some (.int y4), some (.int y22), some (.int y24), some (.int y25)] from ⟨rfl, ⟨(fun v hv => by cases hv), ⟨(fun v hv => by cases hv), ⟨(fun v hv => by cases hv), ⟨(fun v hv => by cases hv), ⟨rfl, ⟨rfl, ⟨rfl, ⟨rfl, ⟨rfl, ⟨(fun v hv => by cases hv; rfl), ⟨(fun v hv => by cases hv; rfl), ⟨(fun v hv => by cases hv; rfl), ⟨(fun v hv => by cases hv; rfl), trivial⟩⟩⟩⟩⟩⟩⟩⟩⟩⟩⟩⟩⟩⟩) ?_
            exact hrc51 x5 x6 x7 (x8 + (1 : Int32)) (x9 + (1 : Int32)) A29 _ _ hf
      · have hf := a_be hb hf
        refine v_ie hb ?_
        refine v_blk 3 (i' := (bif (a_ic .ge y22 y25) then 90 else 88)) (L' := [some (.ref 22), none, none, none, none, some (.int x5), some (.int x6), some (.int x7), some (.int x8), some (.int x9), some (.int y4), some (.int y22), some (.int y24), some (.int y25)]) (st' := [(.int x8), (.ref 27)]) (h' := (hM c A R)) (fun _ => rfl) ?_
        rcases Bool.eq_false_or_eq_true (a_ic .ge y22 y25) with hb | hb
        · have hf := a_bt hb hf
          refine v_it hb ?_
          obtain ⟨hg, hf⟩ := a_bif hf
          refine v_grd 3 (i' := 109) (L' := [some (.ref 22), none, none, none, none, some (.int x5), some (.int x6), some (.int x7), some (.int x8), some (.int x9), some (.int y4), some (.int y22), some (.int y24), some (.int y25)]) (st' := []) (h' := (hM c (va_up A 4 (upd (A 4) (x8).toNatClampNeg (0 : Int32))) R)) (fun _ => rfl) hg ?_
          obtain ⟨A30, hA, hf⟩ := m_st_ok hf
          rw [hA]
          refine v_blk 4 (i' := 51) (L' := [some (.ref 22), none, none, none, none, some (.int x5), some (.int x6), some (.int x7), some (.int (x8 + (1 : Int32))), some (.int (x9 + (1 : Int32))), some (.int y4), some (.int y22), some (.int y24), some (.int y25)]) (st' := []) (h' := (hM c A30 R)) (fun _ => rfl) ?_
          refine v_weak (L' := [some (.ref 22), none, none, none, none, some (.int x5), some (.int x6), some (.int x7), some (.int (x8 + (1 : Int32))), some (.int (x9 + (1 : Int32))), none, none, none, none]) (show a_wk [some (.ref 22), none, none, none, none, some (.int x5), some (.int x6), some (.int x7), some (.int (x8 + (1 : Int32))), some (.int (x9 + (1 : Int32))), none, none, none, none] [some (.ref 22), none, none, none, none, some (.int x5), some (.int x6), some (.int x7), some (.int (x8 + (1 : Int32))), some (.int (x9 + (1 : Int32))), some (.int y4), some (.int y22), some (.int y24), some (.int y25)] from ⟨rfl, ⟨(fun v hv => by cases hv), ⟨(fun v hv => by cases hv), ⟨(fun v hv => by cases hv), ⟨(fun v hv => by cases hv), ⟨rfl, ⟨rfl, ⟨rfl, ⟨rfl, ⟨rfl, ⟨(fun v hv => by cases hv; rfl), ⟨(fun v hv => by cases hv; rfl), ⟨(fun v hv => by cases hv; rfl), ⟨(fun v hv => by cases hv; rfl), trivial⟩⟩⟩⟩⟩⟩⟩⟩⟩⟩⟩⟩⟩⟩) ?_
          exact hrc51 x5 x6 x7 (x8 + (1 : Int32)) (x9 + (1 : Int32)) A30 _ _ hf
        · have hf := a_be hb hf
          refine v_ie hb ?_
          obtain ⟨hg, hf⟩ := a_bif hf
          refine v_grd 3 (i' := 109) (L' := [some (.ref 22), none, none, none, none, some (.int x5), some (.int x6), some (.int x7), some (.int x8), some (.int x9), some (.int y4), some (.int y22), some (.int y24), some (.int y25)]) (st' := []) (h' := (hM c (va_up A 4 (upd (A 4) (x8).toNatClampNeg (1 : Int32))) R)) (fun _ => rfl) hg ?_
          obtain ⟨A31, hA, hf⟩ := m_st_ok hf
          rw [hA]
          refine v_blk 4 (i' := 51) (L' := [some (.ref 22), none, none, none, none, some (.int x5), some (.int x6), some (.int x7), some (.int (x8 + (1 : Int32))), some (.int (x9 + (1 : Int32))), some (.int y4), some (.int y22), some (.int y24), some (.int y25)]) (st' := []) (h' := (hM c A31 R)) (fun _ => rfl) ?_
          refine v_weak (L' := [some (.ref 22), none, none, none, none, some (.int x5), some (.int x6), some (.int x7), some (.int (x8 + (1 : Int32))), some (.int (x9 + (1 : Int32))), none, none, none, none]) (show a_wk [some (.ref 22), none, none, none, none, some (.int x5), some (.int x6), some (.int x7), some (.int (x8 + (1 : Int32))), some (.int (x9 + (1 : Int32))), none, none, none, none] [some (.ref 22), none, none, none, none, some (.int x5), some (.int x6), some (.int x7), some (.int (x8 + (1 : Int32))), some (.int (x9 + (1 : Int32))), some (.int y4), some (.int y22), some (.int y24), some (.int y25)] from ⟨rfl, ⟨(fun v hv => by cases hv), ⟨(fun v hv => by cases hv), ⟨(fun v hv => by cases hv), ⟨(fun v hv => by cases hv), ⟨rfl, ⟨rfl, ⟨rfl, ⟨rfl, ⟨rfl, ⟨(fun v hv => by cases hv; rfl), ⟨(fun v hv => by cases hv; rfl), ⟨(fun v hv => by cases hv; rfl), ⟨(fun v hv => by cases hv; rfl), trivial⟩⟩⟩⟩⟩⟩⟩⟩⟩⟩⟩⟩⟩⟩) ?_
          exact hrc51 x5 x6 x7 (x8 + (1 : Int32)) (x9 + (1 : Int32)) A31 _ _ hf
theorem gt_133_51 {fz : Value} {sc : Nat × (Nat → Int32)} (hfz : fz = .null ∨ fz = .retAddr 60) (N : Nat) (c : Nat → aC) (R : List aC) (d : Nat) (hd : 1 ≤ d) : ∀ (n : Nat) (x5 : Int32) (x6 : Int32) (x7 : Int32) (x8 : Int32) (x9 : Int32) (A : mS) (r : Int32) (A' : mS) (hf : g_133_51 N n x5 x6 x7 x8 x9 A = some (r, A')), v_V fz sc d 133 51 [some (.ref 22), none, none, none, none, some (.int x5), some (.int x6), some (.int x7), some (.int x8), some (.int x9), none, none, none, none] [] (hM c A R) (fun rv h' => rv = some (.int r) ∧ h' = hM c A' R) := by
  intro n
  induction n with
  | zero => intro x5 x6 x7 x8 x9 A r A' hf; cases hf
  | succ n ih =>
    intro x5 x6 x7 x8 x9 A r A' hf
    exact gt_133_51b hfz N c R d hd (g_133_51 N n) ih x5 x6 x7 x8 x9 A r A' hf
set_option maxRecDepth 100000 in
set_option maxHeartbeats 4000000 in
theorem gt_133 {fz : Value} {sc : Nat × (Nat → Int32)} (hfz : fz = .null ∨ fz = .retAddr 60) (N : Nat) (c : Nat → aC) (R : List aC) (d : Nat) (hd : 1 ≤ d) (x1 : Int32) (x2 : Int32) (x3 : Int32) (x4 : Int32) (A : mS) (r : Int32) (A' : mS) (hf : g_133 N x1 x2 x3 x4 A = some (r, A')) : v_V fz sc d 133 0 [some (.ref 22), some (.int x1), some (.int x2), some (.int x3), some (.int x4), none, none, none, none, none, none, none, none, none] [] (hM c A R) (fun rv h' => rv = some (.int r) ∧ h' = hM c A' R) := by
  unfold g_133 at hf
  obtain ⟨d, rfl⟩ : ∃ z, d = z + 1 := ⟨d - 1, by omega⟩
  refine v_blk 16 (i' := 16) (L' := [some (.ref 22), some (.int x1), some (.int x2), some (.int x3), some (.int x4), none, none, none, none, none, none, none, none, none]) (st' := [(.int (x4 - x4 / (7 : Int32) * (7 : Int32))), (.int (2 : Int32)), (.ref 26)]) (h' := (hM c (va_up A 3 (upd (upd (A 3) 0 x2) 1 x3)) R)) (fun _ => rfl) ?_
  obtain ⟨y1, hy, hf⟩ := m_li_ok hf
  rw [hy]
  obtain ⟨hg, hf⟩ := a_bif hf
  refine v_grd 15 (i' := 31) (L' := [some (.ref 22), some (.int x1), some (.int x2), some (.int x3), some (.int x4), none, none, none, none, none, none, none, none, none]) (st' := [(.int ((A 0) (((140 : Int32) + x1)).toNatClampNeg)), (.int (4 : Int32)), (.ref 26)]) (h' := (hM c (va_up A 3 (upd (upd (upd (upd (A 3) 0 x2) 1 x3) 2 y1) 3 x1)) R)) (fun _ => rfl) hg ?_
  obtain ⟨A2, hA, hf⟩ := m_st_ok hf
  rw [hA]
  obtain ⟨r3, A3, hc, hf⟩ := m_bd_ok hf
  refine v_call 6 (k' := 132) (i' := 37) (E := [some (.ref 22), some (.int (242 : Int32))]) (L' := [some (.ref 22), some (.int x1), some (.int x2), some (.int x3), some (.int x4), some (.int (0 : Int32)), none, none, none, none, none, none, none, none]) (rest := []) (h1 := (hM c (va_up A2 3 (upd (A2 3) 4 ((A 0) (((140 : Int32) + x1)).toNatClampNeg))) R)) (fun _ => rfl) ?_
  refine v_post (gt_132 hfz N c R d (by omega) (242 : Int32) (va_up A2 3 (upd (A2 3) 4 ((A 0) (((140 : Int32) + x1)).toNatClampNeg))) _ _ hc) ?_
  rintro rv h' ⟨rfl, rfl⟩
  refine v_blk 14 (i' := 51) (L' := [some (.ref 22), some (.int x1), some (.int x2), some (.int x3), some (.int x4), some (.int (0 : Int32)), some (.int r3), some (.int ((247 : Int32) + ((140 : Int32) * ((A3 0) 17)))), some (.int (0 : Int32)), some (.int ((247 : Int32) + ((140 : Int32) * ((A3 0) 17)))), none, none, none, none]) (st' := []) (h' := (hM c A3 R)) (fun _ => rfl) ?_
  refine v_weak (L' := [some (.ref 22), none, none, none, none, some (.int (0 : Int32)), some (.int r3), some (.int ((247 : Int32) + ((140 : Int32) * ((A3 0) 17)))), some (.int (0 : Int32)), some (.int ((247 : Int32) + ((140 : Int32) * ((A3 0) 17)))), none, none, none, none]) (show a_wk [some (.ref 22), none, none, none, none, some (.int (0 : Int32)), some (.int r3), some (.int ((247 : Int32) + ((140 : Int32) * ((A3 0) 17)))), some (.int (0 : Int32)), some (.int ((247 : Int32) + ((140 : Int32) * ((A3 0) 17)))), none, none, none, none] [some (.ref 22), some (.int x1), some (.int x2), some (.int x3), some (.int x4), some (.int (0 : Int32)), some (.int r3), some (.int ((247 : Int32) + ((140 : Int32) * ((A3 0) 17)))), some (.int (0 : Int32)), some (.int ((247 : Int32) + ((140 : Int32) * ((A3 0) 17)))), none, none, none, none] from ⟨rfl, ⟨(fun v hv => by cases hv; rfl), ⟨(fun v hv => by cases hv; rfl), ⟨(fun v hv => by cases hv; rfl), ⟨(fun v hv => by cases hv; rfl), ⟨rfl, ⟨rfl, ⟨rfl, ⟨rfl, ⟨rfl, ⟨(fun v hv => by cases hv), ⟨(fun v hv => by cases hv), ⟨(fun v hv => by cases hv), ⟨(fun v hv => by cases hv), trivial⟩⟩⟩⟩⟩⟩⟩⟩⟩⟩⟩⟩⟩⟩) ?_
  exact gt_133_51 hfz N c R (d + 1) hd N (0 : Int32) r3 ((247 : Int32) + ((140 : Int32) * ((A3 0) 17))) (0 : Int32) ((247 : Int32) + ((140 : Int32) * ((A3 0) 17))) A3 _ _ hf
set_option maxRecDepth 100000 in
set_option maxHeartbeats 4000000 in
theorem gt_134 {fz : Value} {sc : Nat × (Nat → Int32)} (hfz : fz = .null ∨ fz = .retAddr 60) (N : Nat) (c : Nat → aC) (R : List aC) (d : Nat) (hd : 2 ≤ d) (x1 : Int32) (x2 : Int32) (A : mS) (r : Int32) (A' : mS) (hf : g_134 N x1 x2 A = some (r, A')) : v_V fz sc d 134 0 [some (.ref 22), some (.int x1), some (.int x2)] [] (hM c A R) (fun rv h' => rv = some (.int r) ∧ h' = hM c A' R) := by
  unfold g_134 at hf
  obtain ⟨d, rfl⟩ : ∃ z, d = z + 1 := ⟨d - 1, by omega⟩
  obtain ⟨r1, A1, hc, hf⟩ := m_bd_ok hf
  refine v_call 12 (k' := 133) (i' := 12) (E := [some (.ref 22), some (.int x1), some (.int x2), some (.int ((A 0) 1)), some (.int ((A 0) 0)), none, none, none, none, none, none, none, none, none]) (L' := [some (.ref 22), some (.int x1), some (.int x2)]) (rest := []) (h1 := (hM c A R)) (fun _ => rfl) ?_
  refine v_post (gt_133 hfz N c R d (by omega) x1 x2 ((A 0) 1) ((A 0) 0) A _ _ hc) ?_
  rintro rv h' ⟨rfl, rfl⟩
  obtain ⟨rfl, rfl⟩ := m_rt hf
  exact v_ret 1 (fun _ => rfl) ⟨rfl, rfl⟩
set_option maxRecDepth 100000 in
set_option maxHeartbeats 4000000 in
theorem gt_135_4b {fz : Value} {sc : Nat × (Nat → Int32)} (hfz : fz = .null ∨ fz = .retAddr 60) (N : Nat) (c : Nat → aC) (R : List aC) (d : Nat) (hd : 2 ≤ d) (rc4 : Int32 → Int32 → Int32 → Int32 → Int32 → mS → Option (Int32 × mS)) (hrc4 : ∀ (x1 : Int32) (x2 : Int32) (x3 : Int32) (x4 : Int32) (x5 : Int32) (A : mS) (r : Int32) (A' : mS), rc4 x1 x2 x3 x4 x5 A = some (r, A') → v_V fz sc d 135 4 [some (.ref 22), some (.int x1), some (.int x2), some (.int x3), some (.int x4), some (.int x5)] [] (hM c A R) (fun rv h' => rv = some (.int r) ∧ h' = hM c A' R)) (x1 : Int32) (x2 : Int32) (x3 : Int32) (x4 : Int32) (x5 : Int32) (A : mS) (r : Int32) (A' : mS) (hf : g_135_4b N rc4 x1 x2 x3 x4 x5 A = some (r, A')) : v_V fz sc d 135 4 [some (.ref 22), some (.int x1), some (.int x2), some (.int x3), some (.int x4), some (.int x5)] [] (hM c A R) (fun rv h' => rv = some (.int r) ∧ h' = hM c A' R) := by
  unfold g_135_4b at hf
  obtain ⟨d, rfl⟩ : ∃ z, d = z + 1 := ⟨d - 1, by omega⟩
  refine v_blk 6 (i' := (bif (a_ic .ge x5 ((A 0) 11)) then 21 else 10)) (L' := [some (.ref 22), some (.int x1), some (.int x2), some (.int x3), some (.int x4), some (.int x5)]) (st' := []) (h' := (hM c A R)) (fun _ => rfl) ?_
  rcases Bool.eq_false_or_eq_true (a_ic .ge x5 ((A 0) 11)) with hb | hb
  · have hf := a_bt hb hf
    refine v_it hb ?_
    obtain ⟨rfl, rfl⟩ := m_rt hf
    exact v_ret 2 (fun _ => rfl) ⟨rfl, rfl⟩
  · have hf := a_be hb hf
    refine v_ie hb ?_
    obtain ⟨r1, A1, hc, hf⟩ := m_bd_ok hf
    refine v_call 7 (k' := 133) (i' := 17) (E := [some (.ref 22), some (.int x5), some (.int x1), some (.int x2), some (.int x3), none, none, none, none, none, none, none, none, none]) (L' := [some (.ref 22), some (.int x1), some (.int x2), some (.int x3), some (.int x4), some (.int x5)]) (rest := [(.int x4)]) (h1 := (hM c A R)) (fun _ => rfl) ?_
    refine v_post (gt_133 hfz N c R d (by omega) x5 x1 x2 x3 A _ _ hc) ?_
    rintro rv h' ⟨rfl, rfl⟩
    refine v_blk 4 (i' := 4) (L' := [some (.ref 22), some (.int x1), some (.int x2), some (.int x3), some (.int (x4 + r1)), some (.int (x5 + (1 : Int32)))]) (st' := []) (h' := (hM c A1 R)) (fun _ => rfl) ?_
    exact hrc4 x1 x2 x3 (x4 + r1) (x5 + (1 : Int32)) A1 _ _ hf
theorem gt_135_4 {fz : Value} {sc : Nat × (Nat → Int32)} (hfz : fz = .null ∨ fz = .retAddr 60) (N : Nat) (c : Nat → aC) (R : List aC) (d : Nat) (hd : 2 ≤ d) : ∀ (n : Nat) (x1 : Int32) (x2 : Int32) (x3 : Int32) (x4 : Int32) (x5 : Int32) (A : mS) (r : Int32) (A' : mS) (hf : g_135_4 N n x1 x2 x3 x4 x5 A = some (r, A')), v_V fz sc d 135 4 [some (.ref 22), some (.int x1), some (.int x2), some (.int x3), some (.int x4), some (.int x5)] [] (hM c A R) (fun rv h' => rv = some (.int r) ∧ h' = hM c A' R) := by
  intro n
  induction n with
  | zero => intro x1 x2 x3 x4 x5 A r A' hf; cases hf
  | succ n ih =>
    intro x1 x2 x3 x4 x5 A r A' hf
    exact gt_135_4b hfz N c R d hd (g_135_4 N n) ih x1 x2 x3 x4 x5 A r A' hf
set_option maxRecDepth 100000 in
set_option maxHeartbeats 4000000 in
theorem gt_135 {fz : Value} {sc : Nat × (Nat → Int32)} (hfz : fz = .null ∨ fz = .retAddr 60) (N : Nat) (c : Nat → aC) (R : List aC) (d : Nat) (hd : 2 ≤ d) (x1 : Int32) (x2 : Int32) (x3 : Int32) (A : mS) (r : Int32) (A' : mS) (hf : g_135 N x1 x2 x3 A = some (r, A')) : v_V fz sc d 135 0 [some (.ref 22), some (.int x1), some (.int x2), some (.int x3), none, none] [] (hM c A R) (fun rv h' => rv = some (.int r) ∧ h' = hM c A' R) := by
  unfold g_135 at hf
  obtain ⟨d, rfl⟩ : ∃ z, d = z + 1 := ⟨d - 1, by omega⟩
  refine v_blk 4 (i' := 4) (L' := [some (.ref 22), some (.int x1), some (.int x2), some (.int x3), some (.int (0 : Int32)), some (.int (0 : Int32))]) (st' := []) (h' := (hM c A R)) (fun _ => rfl) ?_
  exact gt_135_4 hfz N c R (d + 1) hd N x1 x2 x3 (0 : Int32) (0 : Int32) A _ _ hf
