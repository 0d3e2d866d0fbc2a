/-! 32.mthm, piece 2: runs of the model's methods are their mirrored functions (by program) -/
set_option maxRecDepth 100000 in
set_option maxHeartbeats 4000000 in
theorem gt_136 {fz : Value} {sc : Nat × (Nat → Int32)} (hfz : fz = .null ∨ fz = .retAddr 60) (N : Nat) (c : Nat → aC) (R : List aC) (d : Nat) (hd : 0 ≤ d) (A : mS) (r : Int32) (A' : mS) (hf : g_136 N  A = some (r, A')) : v_V fz sc d 136 0 [some (.ref 22)] [] (hM c A R) (fun rv h' => rv = some (.int r) ∧ h' = hM c A' R) := by
  unfold g_136 at hf
  refine v_blk 5 (i' := (bif (a_ic .ne ((A 0) 13) (0 : Int32)) then 7 else 5)) (L' := [some (.ref 22)]) (st' := []) (h' := (hM c A R)) (fun _ => rfl) ?_
  rcases Bool.eq_false_or_eq_true (a_ic .ne ((A 0) 13) (0 : Int32)) with hb | hb
  · have hf := a_bt hb hf
    refine v_it hb ?_
    obtain ⟨hg, hf⟩ := a_bif hf
    refine v_grd 12 (i' := 19) (L' := [some (.ref 22)]) (st' := [(.int (((A 0) 2) - ((A 0) 2) / ((A 0) 13) * ((A 0) 13))), (.int (188 : Int32)), (.ref 23)]) (h' := (hM c A R)) (fun _ => rfl) hg ?_
    obtain ⟨y1, hy, hf⟩ := m_li_ok hf
    rw [hy]
    obtain ⟨hg, hf⟩ := a_bif hf
    refine v_grd 2 (i' := 21) (L' := [some (.ref 22)]) (st' := [(.int ((A 0) (((188 : Int32) + y1)).toNatClampNeg))]) (h' := (hM c A R)) (fun _ => rfl) hg ?_
    obtain ⟨y2, hy, hf⟩ := m_li_ok hf
    rw [hy]
    obtain ⟨rfl, rfl⟩ := m_rt hf
    exact v_ret 1 (fun _ => rfl) ⟨rfl, rfl⟩
  · have hf := a_be hb hf
    refine v_ie hb ?_
    obtain ⟨rfl, rfl⟩ := m_rt hf
    exact v_ret 3 (fun _ => rfl) ⟨rfl, rfl⟩
set_option maxRecDepth 100000 in
set_option maxHeartbeats 4000000 in
theorem gt_137 {fz : Value} {sc : Nat × (Nat → Int32)} (hfz : fz = .null ∨ fz = .retAddr 60) (N : Nat) (c : Nat → aC) (R : List aC) (d : Nat) (hd : 1 ≤ d) (x1 : Int32) (A : mS) (r : Int32) (A' : mS) (hf : g_137 N x1 A = some (r, A')) : v_V fz sc d 137 0 [some (.ref 22), some (.int x1)] [] (hM c A R) (fun rv h' => rv = some (.int r) ∧ h' = hM c A' R) := by
  unfold g_137 at hf
  obtain ⟨d, rfl⟩ : ∃ z, d = z + 1 := ⟨d - 1, by omega⟩
  refine v_blk 2 (i' := (a_tsw 0 4 23 [2, 6, 10, 15, 20] x1)) (L' := [some (.ref 22), some (.int x1)]) (st' := []) (h' := (hM c A R)) (fun _ => rfl) ?_
  by_cases hb : (a_tsw 0 4 23 [2, 6, 10, 15, 20] x1) = 2
  · rw [if_pos hb] at hf
    rw [hb]
    obtain ⟨r1, A1, hc, hf⟩ := m_bd_ok hf
    refine v_call 3 (k' := 132) (i' := 5) (E := [some (.ref 22), some (.int (232 : Int32))]) (L' := [some (.ref 22), some (.int x1)]) (rest := []) (h1 := (hM c A R)) (fun _ => rfl) ?_
    refine v_post (gt_132 hfz N c R d (by omega) (232 : Int32) A _ _ hc) ?_
    rintro rv h' ⟨rfl, rfl⟩
    obtain ⟨rfl, rfl⟩ := m_rt hf
    exact v_ret 1 (fun _ => rfl) ⟨rfl, rfl⟩
  rw [if_neg hb] at hf
  by_cases hb : (a_tsw 0 4 23 [2, 6, 10, 15, 20] x1) = 6
  · rw [if_pos hb] at hf
    rw [hb]
    obtain ⟨r2, A2, hc, hf⟩ := m_bd_ok hf
    refine v_call 3 (k' := 132) (i' := 9) (E := [some (.ref 22), some (.int (237 : Int32))]) (L' := [some (.ref 22), some (.int x1)]) (rest := []) (h1 := (hM c A R)) (fun _ => rfl) ?_
    refine v_post (gt_132 hfz N c R d (by omega) (237 : Int32) A _ _ hc) ?_
    rintro rv h' ⟨rfl, rfl⟩
    obtain ⟨rfl, rfl⟩ := m_rt hf
    exact v_ret 1 (fun _ => rfl) ⟨rfl, rfl⟩
  rw [if_neg hb] at hf
  by_cases hb : (a_tsw 0 4 23 [2, 6, 10, 15, 20] x1) = 10
  · rw [if_pos hb] at hf
    rw [hb]
    obtain ⟨rfl, rfl⟩ := m_rt hf
    exact v_ret 5 (fun _ => rfl) ⟨rfl, rfl⟩
  rw [if_neg hb] at hf
  by_cases hb : (a_tsw 0 4 23 [2, 6, 10, 15, 20] x1) = 15
  · rw [if_pos hb] at hf
    rw [hb]
    obtain ⟨rfl, rfl⟩ := m_rt hf
    exact v_ret 5 (fun _ => rfl) ⟨rfl, rfl⟩
  rw [if_neg hb] at hf
  by_cases hb : (a_tsw 0 4 23 [2, 6, 10, 15, 20] x1) = 20
  · rw [if_pos hb] at hf
    rw [hb]
    obtain ⟨r3, A3, hc, hf⟩ := m_bd_ok hf
    refine v_call 2 (k' := 136) (i' := 22) (E := [some (.ref 22)]) (L' := [some (.ref 22), some (.int x1)]) (rest := []) (h1 := (hM c A R)) (fun _ => rfl) ?_
    refine v_post (gt_136 hfz N c R d (by omega)  A _ _ hc) ?_
    rintro rv h' ⟨rfl, rfl⟩
    obtain ⟨rfl, rfl⟩ := m_rt hf
    exact v_ret 1 (fun _ => rfl) ⟨rfl, rfl⟩
  rw [if_neg hb] at hf
  by_cases hb : (a_tsw 0 4 23 [2, 6, 10, 15, 20] x1) = 23
  · rw [if_pos hb] at hf
    rw [hb]
    obtain ⟨rfl, rfl⟩ := m_rt hf
    exact v_ret 2 (fun _ => rfl) ⟨rfl, rfl⟩
  rw [if_neg hb] at hf
  cases hf
set_option maxRecDepth 100000 in
set_option maxHeartbeats 4000000 in
theorem gt_138 {fz : Value} {sc : Nat × (Nat → Int32)} (hfz : fz = .null ∨ fz = .retAddr 60) (N : Nat) (c : Nat → aC) (R : List aC) (d : Nat) (hd : 2 ≤ d) (x1 : Int32) (A : mS) (r : Int32) (A' : mS) (hf : g_138 N x1 A = some (r, A')) : v_V fz sc d 138 0 [some (.ref 22), some (.int x1)] [] (hM c A R) (fun rv h' => rv = some (.int r) ∧ h' = hM c A' R) := by
  unfold g_138 at hf
  obtain ⟨d, rfl⟩ : ∃ z, d = z + 1 := ⟨d - 1, by omega⟩
  refine v_blk 3 (i' := (bif (a_ic .ne x1 (-1 : Int32)) then 15 else 3)) (L' := [some (.ref 22), some (.int x1)]) (st' := []) (h' := (hM c A R)) (fun _ => rfl) ?_
  rcases Bool.eq_false_or_eq_true (a_ic .ne x1 (-1 : Int32)) with hb | hb
  · have hf := a_bt hb hf
    refine v_it hb ?_
    obtain ⟨r1, A1, hc, hf⟩ := m_bd_ok hf
    refine v_call 2 (k' := 113) (i' := 17) (E := [some (.int x1)]) (L' := [some (.ref 22), some (.int x1)]) (rest := []) (h1 := (hM c A R)) (fun _ => rfl) ?_
    refine v_post (gt_113 hfz N c R d (by omega) x1 A _ _ hc) ?_
    rintro rv h' ⟨rfl, rfl⟩
    refine v_blk 1 (i' := (bif (a_ic .ne r1 (0 : Int32)) then 20 else 18)) (L' := [some (.ref 22), some (.int x1)]) (st' := []) (h' := (hM c A1 R)) (fun _ => rfl) ?_
    rcases Bool.eq_false_or_eq_true (a_ic .ne r1 (0 : Int32)) with hb | hb
    · have hf := a_bt hb hf
      refine v_it hb ?_
      refine v_blk 6 (i' := (bif (a_ic .ne ((A1 0) 13) (12 : Int32)) then 28 else 26)) (L' := [some (.ref 22), some (.int x1)]) (st' := []) (h' := (hM c A1 R)) (fun _ => rfl) ?_
      rcases Bool.eq_false_or_eq_true (a_ic .ne ((A1 0) 13) (12 : Int32)) with hb | hb
      · have hf := a_bt hb hf
        refine v_it hb ?_
        obtain ⟨hg, hf⟩ := a_bif hf
        refine v_grd 10 (i' := 38) (L' := [some (.ref 22), some (.int x1)]) (st' := []) (h' := (hM c (va_up A1 0 (upd (A1 0) (((188 : Int32) + ((A1 0) 13))).toNatClampNeg x1)) R)) (fun _ => rfl) hg ?_
        obtain ⟨A2, hA, hf⟩ := m_st_ok hf
        rw [hA]
        obtain ⟨rfl, rfl⟩ := m_rt hf
        exact v_ret 18 (fun _ => rfl) ⟨rfl, rfl⟩
      · have hf := a_be hb hf
        refine v_ie hb ?_
        obtain ⟨rfl, rfl⟩ := m_rt hf
        exact v_ret 2 (fun _ => rfl) ⟨rfl, rfl⟩
    · have hf := a_be hb hf
      refine v_ie hb ?_
      obtain ⟨rfl, rfl⟩ := m_rt hf
      exact v_ret 2 (fun _ => rfl) ⟨rfl, rfl⟩
  · have hf := a_be hb hf
    refine v_ie hb ?_
    obtain ⟨rfl, rfl⟩ := m_rt hf
    exact v_ret 12 (fun _ => rfl) ⟨rfl, rfl⟩
set_option maxRecDepth 100000 in
set_option maxHeartbeats 4000000 in
theorem gt_139_55b {fz : Value} {sc : Nat × (Nat → Int32)} (hfz : fz = .null ∨ fz = .retAddr 60) (N : Nat) (c : Nat → aC) (R : List aC) (d : Nat) (hd : 1 ≤ d) (rc55 : Int32 → Int32 → mS → Option (Int32 × mS)) (hrc55 : ∀ (x4 : Int32) (x5 : Int32) (A : mS) (r : Int32) (A' : mS), rc55 x4 x5 A = some (r, A') → v_V fz sc d 139 55 [some (.ref 22), none, none, none, some (.int x4), some (.int x5)] [] (hM c A R) (fun rv h' => rv = some (.int r) ∧ h' = hM c A' R)) (x4 : Int32) (x5 : Int32) (A : mS) (r : Int32) (A' : mS) (hf : g_139_55b N rc55 x4 x5 A = some (r, A')) : v_V fz sc d 139 55 [some (.ref 22), none, none, none, some (.int x4), some (.int x5)] [] (hM c A R) (fun rv h' => rv = some (.int r) ∧ h' = hM c A' R) := by
  unfold g_139_55b at hf
  obtain ⟨d, rfl⟩ : ∃ z, d = z + 1 := ⟨d - 1, by omega⟩
  refine v_blk 3 (i' := (bif (a_ic .ge x5 (4 : Int32)) then 71 else 58)) (L' := [some (.ref 22), none, none, none, some (.int x4), some (.int x5)]) (st' := []) (h' := (hM c A R)) (fun _ => rfl) ?_
  rcases Bool.eq_false_or_eq_true (a_ic .ge x5 (4 : Int32)) with hb | hb
  · have hf := a_bt hb hf
    refine v_it hb ?_
    obtain ⟨rfl, rfl⟩ := m_rt hf
    exact v_ret 10 (fun _ => rfl) ⟨rfl, rfl⟩
  · have hf := a_be hb hf
    refine v_ie hb ?_
    obtain ⟨hg, hf⟩ := a_bif hf
    refine v_grd 11 (i' := 69) (L' := [some (.ref 22), none, none, none, some (.int x4), some (.int x5)]) (st' := []) (h' := (hM c (va_up A 0 (upd (A 0) ((((156 : Int32) + ((4 : Int32) * x4)) + x5)).toNatClampNeg (0 : Int32))) R)) (fun _ => rfl) hg ?_
    obtain ⟨A7, hA, hf⟩ := m_st_ok hf
    rw [hA]
    refine v_blk 2 (i' := 55) (L' := [some (.ref 22), none, none, none, some (.int x4), some (.int (x5 + (1 : Int32)))]) (st' := []) (h' := (hM c A7 R)) (fun _ => rfl) ?_
    exact hrc55 x4 (x5 + (1 : Int32)) A7 _ _ hf
theorem gt_139_55 {fz : Value} {sc : Nat × (Nat → Int32)} (hfz : fz = .null ∨ fz = .retAddr 60) (N : Nat) (c : Nat → aC) (R : List aC) (d : Nat) (hd : 1 ≤ d) : ∀ (n : Nat) (x4 : Int32) (x5 : Int32) (A : mS) (r : Int32) (A' : mS) (hf : g_139_55 N n x4 x5 A = some (r, A')), v_V fz sc d 139 55 [some (.ref 22), none, none, none, some (.int x4), some (.int x5)] [] (hM c A R) (fun rv h' => rv = some (.int r) ∧ h' = hM c A' R) := by
  intro n
  induction n with
  | zero => intro x4 x5 A r A' hf; cases hf
  | succ n ih =>
    intro x4 x5 A r A' hf
    exact gt_139_55b hfz N c R d hd (g_139_55 N n) ih x4 x5 A r A' hf
set_option maxRecDepth 100000 in
set_option maxHeartbeats 4000000 in
theorem gt_139 {fz : Value} {sc : Nat × (Nat → Int32)} (hfz : fz = .null ∨ fz = .retAddr 60) (N : Nat) (c : Nat → aC) (R : List aC) (d : Nat) (hd : 1 ≤ d) (x1 : Int32) (x2 : Int32) (x3 : Int32) (A : mS) (r : Int32) (A' : mS) (hf : g_139 N x1 x2 x3 A = some (r, A')) : v_V fz sc d 139 0 [some (.ref 22), some (.int x1), some (.int x2), some (.int x3), none, none] [] (hM c A R) (fun rv h' => rv = some (.int r) ∧ h' = hM c A' R) := by
  unfold g_139 at hf
  obtain ⟨d, rfl⟩ : ∃ z, d = z + 1 := ⟨d - 1, by omega⟩
  obtain ⟨r1, A1, hc, hf⟩ := m_bd_ok hf
  refine v_call 4 (k' := 112) (i' := 4) (E := [some (.int x1), some (.int (0 : Int32)), some (.int (6 : Int32))]) (L' := [some (.ref 22), some (.int x1), some (.int x2), some (.int x3), none, none]) (rest := []) (h1 := (hM c A R)) (fun _ => rfl) ?_
  refine v_post (gt_112 hfz N c R d (by omega) x1 (0 : Int32) (6 : Int32) A _ _ hc) ?_
  rintro rv h' ⟨rfl, rfl⟩
  refine v_blk 1 (i' := (bif (a_ic .ne r1 (0 : Int32)) then 7 else 5)) (L' := [some (.ref 22), some (.int x1), some (.int x2), some (.int x3), none, none]) (st' := []) (h' := (hM c A1 R)) (fun _ => rfl) ?_
  rcases Bool.eq_false_or_eq_true (a_ic .ne r1 (0 : Int32)) with hb | hb
  · have hf := a_bt hb hf
    refine v_it hb ?_
    obtain ⟨r2, A2, hc, hf⟩ := m_bd_ok hf
    refine v_call 4 (k' := 112) (i' := 11) (E := [some (.int x2), some (.int (0 : Int32)), some (.int (9 : Int32))]) (L' := [some (.ref 22), some (.int x1), some (.int x2), some (.int x3), none, none]) (rest := []) (h1 := (hM c A1 R)) (fun _ => rfl) ?_
    refine v_post (gt_112 hfz N c R d (by omega) x2 (0 : Int32) (9 : Int32) A1 _ _ hc) ?_
    rintro rv h' ⟨rfl, rfl⟩
    refine v_blk 1 (i' := (bif (a_ic .eq r2 (0 : Int32)) then 17 else 12)) (L' := [some (.ref 22), some (.int x1), some (.int x2), some (.int x3), none, none]) (st' := []) (h' := (hM c A2 R)) (fun _ => rfl) ?_
    rcases Bool.eq_false_or_eq_true (a_ic .eq r2 (0 : Int32)) with hb | hb
    · have hf := a_bt hb hf
      refine v_it hb ?_
      obtain ⟨rfl, rfl⟩ := m_rt hf
      exact v_ret 2 (fun _ => rfl) ⟨rfl, rfl⟩
    · have hf := a_be hb hf
      refine v_ie hb ?_
      obtain ⟨r3, A3, hc, hf⟩ := m_bd_ok hf
      refine v_call 4 (k' := 112) (i' := 16) (E := [some (.int x3), some (.int (0 : Int32)), some (.int (999 : Int32))]) (L' := [some (.ref 22), some (.int x1), some (.int x2), some (.int x3), none, none]) (rest := []) (h1 := (hM c A2 R)) (fun _ => rfl) ?_
      refine v_post (gt_112 hfz N c R d (by omega) x3 (0 : Int32) (999 : Int32) A2 _ _ hc) ?_
      rintro rv h' ⟨rfl, rfl⟩
      refine v_blk 1 (i' := (bif (a_ic .ne r3 (0 : Int32)) then 19 else 17)) (L' := [some (.ref 22), some (.int x1), some (.int x2), some (.int x3), none, none]) (st' := []) (h' := (hM c A3 R)) (fun _ => rfl) ?_
      rcases Bool.eq_false_or_eq_true (a_ic .ne r3 (0 : Int32)) with hb | hb
      · have hf := a_bt hb hf
        refine v_it hb ?_
        refine v_blk 6 (i' := (bif (a_ic .ne ((A3 0) 11) (8 : Int32)) then 27 else 25)) (L' := [some (.ref 22), some (.int x1), some (.int x2), some (.int x3), none, none]) (st' := []) (h' := (hM c A3 R)) (fun _ => rfl) ?_
        rcases Bool.eq_false_or_eq_true (a_ic .ne ((A3 0) 11) (8 : Int32)) with hb | hb
        · have hf := a_bt hb hf
          refine v_it hb ?_
          obtain ⟨hg, hf⟩ := a_bif hf
          refine v_grd 12 (i' := 39) (L' := [some (.ref 22), some (.int x1), some (.int x2), some (.int x3), some (.int ((A3 0) 11)), none]) (st' := []) (h' := (hM c (va_up A3 0 (upd (A3 0) (((140 : Int32) + ((A3 0) 11))).toNatClampNeg x1)) R)) (fun _ => rfl) hg ?_
          obtain ⟨A4, hA, hf⟩ := m_st_ok hf
          rw [hA]
          obtain ⟨hg, hf⟩ := a_bif hf
          refine v_grd 7 (i' := 46) (L' := [some (.ref 22), some (.int x1), some (.int x2), some (.int x3), some (.int ((A3 0) 11)), none]) (st' := []) (h' := (hM c (va_up A4 0 (upd (A4 0) (((148 : Int32) + ((A3 0) 11))).toNatClampNeg x2)) R)) (fun _ => rfl) hg ?_
          obtain ⟨A5, hA, hf⟩ := m_st_ok hf
          rw [hA]
          obtain ⟨hg, hf⟩ := a_bif hf
          refine v_grd 7 (i' := 53) (L' := [some (.ref 22), some (.int x1), some (.int x2), some (.int x3), some (.int ((A3 0) 11)), none]) (st' := []) (h' := (hM c (va_up A5 0 (upd (A5 0) (((3 : Int32) + ((A3 0) 11))).toNatClampNeg x3)) R)) (fun _ => rfl) hg ?_
          obtain ⟨A6, hA, hf⟩ := m_st_ok hf
          rw [hA]
          refine v_blk 2 (i' := 55) (L' := [some (.ref 22), some (.int x1), some (.int x2), some (.int x3), some (.int ((A3 0) 11)), some (.int (0 : Int32))]) (st' := []) (h' := (hM c A6 R)) (fun _ => rfl) ?_
          refine v_weak (L' := [some (.ref 22), none, none, none, some (.int ((A3 0) 11)), some (.int (0 : Int32))]) (show a_wk [some (.ref 22), none, none, none, some (.int ((A3 0) 11)), some (.int (0 : Int32))] [some (.ref 22), some (.int x1), some (.int x2), some (.int x3), some (.int ((A3 0) 11)), some (.int (0 : Int32))] from ⟨rfl, ⟨(fun v hv => by cases hv; rfl), ⟨(fun v hv => by cases hv; rfl), ⟨(fun v hv => by cases hv; rfl), ⟨rfl, ⟨rfl, trivial⟩⟩⟩⟩⟩⟩) ?_
          exact gt_139_55 hfz N c R (d + 1) hd N ((A3 0) 11) (0 : Int32) A6 _ _ hf
        · have hf := a_be hb hf
          refine v_ie hb ?_
          obtain ⟨rfl, rfl⟩ := m_rt hf
          exact v_ret 2 (fun _ => rfl) ⟨rfl, rfl⟩
      · have hf := a_be hb hf
        refine v_ie hb ?_
        obtain ⟨rfl, rfl⟩ := m_rt hf
        exact v_ret 2 (fun _ => rfl) ⟨rfl, rfl⟩
  · have hf := a_be hb hf
    refine v_ie hb ?_
    obtain ⟨rfl, rfl⟩ := m_rt hf
    exact v_ret 2 (fun _ => rfl) ⟨rfl, rfl⟩
set_option maxRecDepth 100000 in
set_option maxHeartbeats 4000000 in
theorem gt_140 {fz : Value} {sc : Nat × (Nat → Int32)} (hfz : fz = .null ∨ fz = .retAddr 60) (N : Nat) (c : Nat → aC) (R : List aC) (d : Nat) (hd : 2 ≤ d) (x1 : Int32) (x2 : Int32) (x3 : Int32) (A : mS) (r : Int32) (A' : mS) (hf : g_140 N x1 x2 x3 A = some (r, A')) : v_V fz sc d 140 0 [some (.ref 22), some (.int x1), some (.int x2), some (.int x3), none] [] (hM c A R) (fun rv h' => rv = some (.int r) ∧ h' = hM c A' R) := by
  unfold g_140 at hf
  obtain ⟨d, rfl⟩ : ∃ z, d = z + 1 := ⟨d - 1, by omega⟩
  obtain ⟨r1, A1, hc, hf⟩ := m_bd_ok hf
  refine v_call 3 (k' := 114) (i' := 3) (E := [some (.ref 22), some (.int x1)]) (L' := [some (.ref 22), some (.int x1), some (.int x2), some (.int x3), none]) (rest := []) (h1 := (hM c A R)) (fun _ => rfl) ?_
  refine v_post (gt_114 hfz N c R d (by omega) x1 A _ _ hc) ?_
  rintro rv h' ⟨rfl, rfl⟩
  refine v_blk 1 (i' := (bif (a_ic .eq r1 (0 : Int32)) then 7 else 4)) (L' := [some (.ref 22), some (.int x1), some (.int x2), some (.int x3), none]) (st' := []) (h' := (hM c A1 R)) (fun _ => rfl) ?_
  rcases Bool.eq_false_or_eq_true (a_ic .eq r1 (0 : Int32)) with hb | hb
  · have hf := a_bt hb hf
    refine v_it hb ?_
    obtain ⟨rfl, rfl⟩ := m_rt hf
    exact v_ret 2 (fun _ => rfl) ⟨rfl, rfl⟩
  · have hf := a_be hb hf
    refine v_ie hb ?_
    obtain ⟨r2, A2, hc, hf⟩ := m_bd_ok hf
    refine v_call 2 (k' := 113) (i' := 6) (E := [some (.int x2)]) (L' := [some (.ref 22), some (.int x1), some (.int x2), some (.int x3), none]) (rest := []) (h1 := (hM c A1 R)) (fun _ => rfl) ?_
    refine v_post (gt_113 hfz N c R d (by omega) x2 A1 _ _ hc) ?_
    rintro rv h' ⟨rfl, rfl⟩
    refine v_blk 1 (i' := (bif (a_ic .ne r2 (0 : Int32)) then 9 else 7)) (L' := [some (.ref 22), some (.int x1), some (.int x2), some (.int x3), none]) (st' := []) (h' := (hM c A2 R)) (fun _ => rfl) ?_
    rcases Bool.eq_false_or_eq_true (a_ic .ne r2 (0 : Int32)) with hb | hb
    · have hf := a_bt hb hf
      refine v_it hb ?_
      obtain ⟨r3, A3, hc, hf⟩ := m_bd_ok hf
      refine v_call 4 (k' := 112) (i' := 13) (E := [some (.int x3), some (.int (0 : Int32)), some (.int (99 : Int32))]) (L' := [some (.ref 22), some (.int x1), some (.int x2), some (.int x3), none]) (rest := []) (h1 := (hM c A2 R)) (fun _ => rfl) ?_
      refine v_post (gt_112 hfz N c R d (by omega) x3 (0 : Int32) (99 : Int32) A2 _ _ hc) ?_
      rintro rv h' ⟨rfl, rfl⟩
      refine v_blk 1 (i' := (bif (a_ic .ne r3 (0 : Int32)) then 16 else 14)) (L' := [some (.ref 22), some (.int x1), some (.int x2), some (.int x3), none]) (st' := []) (h' := (hM c A3 R)) (fun _ => rfl) ?_
      rcases Bool.eq_false_or_eq_true (a_ic .ne r3 (0 : Int32)) with hb | hb
      · have hf := a_bt hb hf
        refine v_it hb ?_
        obtain ⟨hg, hf⟩ := a_bif hf
        refine v_grd 6 (i' := 22) (L' := [some (.ref 22), some (.int x1), some (.int x2), some (.int x3), none]) (st' := [(.int ((A3 0) (((140 : Int32) + x1)).toNatClampNeg))]) (h' := (hM c A3 R)) (fun _ => rfl) hg ?_
        obtain ⟨y4, hy, hf⟩ := m_li_ok hf
        rw [hy]
        refine v_blk 2 (i' := (bif (a_ic .eq y4 (6 : Int32)) then 26 else 24)) (L' := [some (.ref 22), some (.int x1), some (.int x2), some (.int x3), none]) (st' := []) (h' := (hM c A3 R)) (fun _ => rfl) ?_
        rcases Bool.eq_false_or_eq_true (a_ic .eq y4 (6 : Int32)) with hb | hb
        · have hf := a_bt hb hf
          refine v_it hb ?_
          obtain ⟨hg, hf⟩ := a_bif hf
          refine v_grd 10 (i' := 36) (L' := [some (.ref 22), some (.int x1), some (.int x2), some (.int x3), none]) (st' := [(.int ((A3 0) ((((156 : Int32) + ((4 : Int32) * x1)) + x2)).toNatClampNeg))]) (h' := (hM c A3 R)) (fun _ => rfl) hg ?_
          obtain ⟨y5, hy, hf⟩ := m_li_ok hf
          rw [hy]
          obtain ⟨hg, hf⟩ := a_bif hf
          refine v_grd 12 (i' := 48) (L' := [some (.ref 22), some (.int x1), some (.int x2), some (.int x3), some (.int y5)]) (st' := []) (h' := (hM c (va_up A3 0 (upd (A3 0) ((((156 : Int32) + ((4 : Int32) * x1)) + x2)).toNatClampNeg x3)) R)) (fun _ => rfl) hg ?_
          obtain ⟨A6, hA, hf⟩ := m_st_ok hf
          rw [hA]
          obtain ⟨rfl, rfl⟩ := m_rt hf
          exact v_ret 2 (fun _ => rfl) ⟨rfl, rfl⟩
        · have hf := a_be hb hf
          refine v_ie hb ?_
          obtain ⟨rfl, rfl⟩ := m_rt hf
          exact v_ret 2 (fun _ => rfl) ⟨rfl, rfl⟩
      · have hf := a_be hb hf
        refine v_ie hb ?_
        obtain ⟨rfl, rfl⟩ := m_rt hf
        exact v_ret 2 (fun _ => rfl) ⟨rfl, rfl⟩
    · have hf := a_be hb hf
      refine v_ie hb ?_
      obtain ⟨rfl, rfl⟩ := m_rt hf
      exact v_ret 2 (fun _ => rfl) ⟨rfl, rfl⟩
set_option maxRecDepth 100000 in
set_option maxHeartbeats 4000000 in
theorem gt_141 {fz : Value} {sc : Nat × (Nat → Int32)} (hfz : fz = .null ∨ fz = .retAddr 60) (N : Nat) (c : Nat → aC) (R : List aC) (d : Nat) (hd : 0 ≤ d) (x1 : Int32) (x2 : Int32) (A : mS) (r : Int32) (A' : mS) (hf : g_141 N x1 x2 A = some (r, A')) : v_V fz sc d 141 0 [some (.ref 22), some (.int x1), some (.int x2)] [] (hM c A R) (fun rv h' => rv = some (.int r) ∧ h' = hM c A' R) := by
  unfold g_141 at hf
  refine v_blk 2 (i' := (bif (a_ic .ge x2 (0 : Int32)) then 4 else 2)) (L' := [some (.ref 22), some (.int x1), some (.int x2)]) (st' := []) (h' := (hM c A R)) (fun _ => rfl) ?_
  rcases Bool.eq_false_or_eq_true (a_ic .ge x2 (0 : Int32)) with hb | hb
  · have hf := a_bt hb hf
    refine v_it hb ?_
    obtain ⟨hg, hf⟩ := a_bif hf
    refine v_grd 7 (i' := 11) (L' := [some (.ref 22), some (.int x1), some (.int x2)]) (st' := [(.int ((A 0) (((3 : Int32) + x1)).toNatClampNeg)), (.int x2)]) (h' := (hM c A R)) (fun _ => rfl) hg ?_
    obtain ⟨y1, hy, hf⟩ := m_li_ok hf
    rw [hy]
    refine v_blk 1 (i' := (bif (a_ic .le x2 y1) then 19 else 12)) (L' := [some (.ref 22), some (.int x1), some (.int x2)]) (st' := []) (h' := (hM c A R)) (fun _ => rfl) ?_
    rcases Bool.eq_false_or_eq_true (a_ic .le x2 y1) with hb | hb
    · have hf := a_bt hb hf
      refine v_it hb ?_
      obtain ⟨rfl, rfl⟩ := m_rt hf
      exact v_ret 2 (fun _ => rfl) ⟨rfl, rfl⟩
    · have hf := a_be hb hf
      refine v_ie hb ?_
      obtain ⟨hg, hf⟩ := a_bif hf
      refine v_grd 6 (i' := 18) (L' := [some (.ref 22), some (.int x1), some (.int x2)]) (st' := [(.int ((A 0) (((3 : Int32) + x1)).toNatClampNeg))]) (h' := (hM c A R)) (fun _ => rfl) hg ?_
      obtain ⟨y2, hy, hf⟩ := m_li_ok hf
      rw [hy]
      obtain ⟨rfl, rfl⟩ := m_rt hf
      exact v_ret 2 (fun _ => rfl) ⟨rfl, rfl⟩
  · have hf := a_be hb hf
    refine v_ie hb ?_
    obtain ⟨rfl, rfl⟩ := m_rt hf
    exact v_ret 3 (fun _ => rfl) ⟨rfl, rfl⟩
set_option maxRecDepth 100000 in
set_option maxHeartbeats 4000000 in
theorem gt_142_33 {fz : Value} {sc : Nat × (Nat → Int32)} (hfz : fz = .null ∨ fz = .retAddr 60) (N : Nat) (c : Nat → aC) (R : List aC) (d : Nat) (hd : 3 ≤ d) (x1 : Int32) (x2 : Int32) (x3 : Int32) (t0 : Int32) (A : mS) (r : Int32) (A' : mS) (hf : g_142_33 N x1 x2 x3 t0 A = some (r, A')) : v_V fz sc d 142 33 [some (.ref 22), some (.int x1), some (.int x2), some (.int x3), none] [(.int t0)] (hM c A R) (fun rv h' => rv = some (.int r) ∧ h' = hM c A' R) := by
  unfold g_142_33 at hf
  obtain ⟨d, rfl⟩ : ∃ z, d = z + 1 := ⟨d - 1, by omega⟩
  refine v_blk 3 (i' := (bif (a_ic .eq t0 (0 : Int32)) then 48 else 36)) (L' := [some (.ref 22), some (.int x1), some (.int x2), some (.int x3), some (.int t0)]) (st' := []) (h' := (hM c A R)) (fun _ => rfl) ?_
  rcases Bool.eq_false_or_eq_true (a_ic .eq t0 (0 : Int32)) with hb | hb
  · have hf := a_bt hb hf
    refine v_it hb ?_
    obtain ⟨r5, A5, hc, hf⟩ := m_bd_ok hf
    refine v_call 4 (k' := 134) (i' := 52) (E := [some (.ref 22), some (.int x1), some (.int x2)]) (L' := [some (.ref 22), some (.int x1), some (.int x2), some (.int x3), some (.int t0)]) (rest := []) (h1 := (hM c A R)) (fun _ => rfl) ?_
    refine v_post (gt_134 hfz N c R d (by omega) x1 x2 A _ _ hc) ?_
    rintro rv h' ⟨rfl, rfl⟩
    obtain ⟨rfl, rfl⟩ := m_rt hf
    exact v_ret 1 (fun _ => rfl) ⟨rfl, rfl⟩
  · have hf := a_be hb hf
    refine v_ie hb ?_
    obtain ⟨r6, A6, hc, hf⟩ := m_bd_ok hf
    refine v_call 4 (k' := 134) (i' := 40) (E := [some (.ref 22), some (.int x1), some (.int x2)]) (L' := [some (.ref 22), some (.int x1), some (.int x2), some (.int x3), some (.int t0)]) (rest := []) (h1 := (hM c A R)) (fun _ => rfl) ?_
    refine v_post (gt_134 hfz N c R d (by omega) x1 x2 A _ _ hc) ?_
    rintro rv h' ⟨rfl, rfl⟩
    obtain ⟨r7, A7, hc, hf⟩ := m_bd_ok hf
    refine v_call 4 (k' := 134) (i' := 44) (E := [some (.ref 22), some (.int x3), some (.int x2)]) (L' := [some (.ref 22), some (.int x1), some (.int x2), some (.int x3), some (.int t0)]) (rest := [(.int r6)]) (h1 := (hM c A6 R)) (fun _ => rfl) ?_
    refine v_post (gt_134 hfz N c R d (by omega) x3 x2 A6 _ _ hc) ?_
    rintro rv h' ⟨rfl, rfl⟩
    refine v_blk 3 (i' := 47) (L' := [some (.ref 22), some (.int x1), some (.int x2), some (.int x3), some (.int t0)]) (st' := [(.int ((r6 + r7) / (2 : Int32)))]) (h' := (hM c A7 R)) (fun _ => rfl) ?_
    obtain ⟨y8, hy, hf⟩ := m_li_ok hf
    rw [hy]
    obtain ⟨rfl, rfl⟩ := m_rt hf
    exact v_ret 2 (fun _ => rfl) ⟨rfl, rfl⟩
set_option maxRecDepth 100000 in
set_option maxHeartbeats 4000000 in
theorem gt_142_32 {fz : Value} {sc : Nat × (Nat → Int32)} (hfz : fz = .null ∨ fz = .retAddr 60) (N : Nat) (c : Nat → aC) (R : List aC) (d : Nat) (hd : 3 ≤ d) (x1 : Int32) (x2 : Int32) (x3 : Int32) (A : mS) (r : Int32) (A' : mS) (hf : g_142_32 N x1 x2 x3 A = some (r, A')) : v_V fz sc d 142 32 [some (.ref 22), some (.int x1), some (.int x2), some (.int x3), none] [] (hM c A R) (fun rv h' => rv = some (.int r) ∧ h' = hM c A' R) := by
  unfold g_142_32 at hf
  obtain ⟨d, rfl⟩ : ∃ z, d = z + 1 := ⟨d - 1, by omega⟩
  refine v_blk 1 (i' := 33) (L' := [some (.ref 22), some (.int x1), some (.int x2), some (.int x3), none]) (st' := [(.int (0 : Int32))]) (h' := (hM c A R)) (fun _ => rfl) ?_
  exact gt_142_33 hfz N c R (d + 1) hd x1 x2 x3 (0 : Int32) A _ _ hf
set_option maxRecDepth 100000 in
set_option maxHeartbeats 4000000 in
theorem gt_142_30 {fz : Value} {sc : Nat × (Nat → Int32)} (hfz : fz = .null ∨ fz = .retAddr 60) (N : Nat) (c : Nat → aC) (R : List aC) (d : Nat) (hd : 3 ≤ d) (x1 : Int32) (x2 : Int32) (x3 : Int32) (A : mS) (r : Int32) (A' : mS) (hf : g_142_30 N x1 x2 x3 A = some (r, A')) : v_V fz sc d 142 30 [some (.ref 22), some (.int x1), some (.int x2), some (.int x3), none] [] (hM c A R) (fun rv h' => rv = some (.int r) ∧ h' = hM c A' R) := by
  unfold g_142_30 at hf
  obtain ⟨d, rfl⟩ : ∃ z, d = z + 1 := ⟨d - 1, by omega⟩
  refine v_blk 2 (i' := 33) (L' := [some (.ref 22), some (.int x1), some (.int x2), some (.int x3), none]) (st' := [(.int (1 : Int32))]) (h' := (hM c A R)) (fun _ => rfl) ?_
  exact gt_142_33 hfz N c R (d + 1) hd x1 x2 x3 (1 : Int32) A _ _ hf
set_option maxRecDepth 100000 in
set_option maxHeartbeats 4000000 in
theorem gt_142 {fz : Value} {sc : Nat × (Nat → Int32)} (hfz : fz = .null ∨ fz = .retAddr 60) (N : Nat) (c : Nat → aC) (R : List aC) (d : Nat) (hd : 3 ≤ d) (x1 : Int32) (x2 : Int32) (A : mS) (r : Int32) (A' : mS) (hf : g_142 N x1 x2 A = some (r, A')) : v_V fz sc d 142 0 [some (.ref 22), some (.int x1), some (.int x2), none, none] [] (hM c A R) (fun rv h' => rv = some (.int r) ∧ h' = hM c A' R) := by
  unfold g_142 at hf
  obtain ⟨d, rfl⟩ : ∃ z, d = z + 1 := ⟨d - 1, by omega⟩
  obtain ⟨hg, hf⟩ := a_bif hf
  refine v_grd 6 (i' := 6) (L' := [some (.ref 22), some (.int x1), some (.int x2), none, none]) (st' := [(.int ((A 0) (((148 : Int32) + x1)).toNatClampNeg))]) (h' := (hM c A R)) (fun _ => rfl) hg ?_
  obtain ⟨y1, hy, hf⟩ := m_li_ok hf
  rw [hy]
  obtain ⟨r2, A2, hc, hf⟩ := m_bd_ok hf
  refine v_call 4 (k' := 114) (i' := 10) (E := [some (.ref 22), some (.int y1)]) (L' := [some (.ref 22), some (.int x1), some (.int x2), some (.int y1), none]) (rest := []) (h1 := (hM c A R)) (fun _ => rfl) ?_
  refine v_post (gt_114 hfz N c R d (by omega) y1 A _ _ hc) ?_
  rintro rv h' ⟨rfl, rfl⟩
  refine v_blk 1 (i' := (bif (a_ic .eq r2 (0 : Int32)) then 32 else 11)) (L' := [some (.ref 22), some (.int x1), some (.int x2), some (.int y1), none]) (st' := []) (h' := (hM c A2 R)) (fun _ => rfl) ?_
  rcases Bool.eq_false_or_eq_true (a_ic .eq r2 (0 : Int32)) with hb | hb
  · have hf := a_bt hb hf
    refine v_it hb ?_
    exact gt_142_32 hfz N c R (d + 1) hd x1 x2 y1 A2 _ _ hf
  · have hf := a_be hb hf
    refine v_ie hb ?_
    refine v_blk 3 (i' := (bif (a_ic .eq y1 x1) then 32 else 14)) (L' := [some (.ref 22), some (.int x1), some (.int x2), some (.int y1), none]) (st' := []) (h' := (hM c A2 R)) (fun _ => rfl) ?_
    rcases Bool.eq_false_or_eq_true (a_ic .eq y1 x1) with hb | hb
    · have hf := a_bt hb hf
      refine v_it hb ?_
      exact gt_142_32 hfz N c R (d + 1) hd x1 x2 y1 A2 _ _ hf
    · have hf := a_be hb hf
      refine v_ie hb ?_
      obtain ⟨hg, hf⟩ := a_bif hf
      refine v_grd 6 (i' := 20) (L' := [some (.ref 22), some (.int x1), some (.int x2), some (.int y1), none]) (st' := [(.int ((A2 0) (((140 : Int32) + y1)).toNatClampNeg))]) (h' := (hM c A2 R)) (fun _ => rfl) hg ?_
      obtain ⟨y3, hy, hf⟩ := m_li_ok hf
      rw [hy]
      refine v_blk 2 (i' := (bif (a_ic .eq y3 (2 : Int32)) then 30 else 22)) (L' := [some (.ref 22), some (.int x1), some (.int x2), some (.int y1), none]) (st' := []) (h' := (hM c A2 R)) (fun _ => rfl) ?_
      rcases Bool.eq_false_or_eq_true (a_ic .eq y3 (2 : Int32)) with hb | hb
      · have hf := a_bt hb hf
        refine v_it hb ?_
        exact gt_142_30 hfz N c R (d + 1) hd x1 x2 y1 A2 _ _ hf
      · have hf := a_be hb hf
        refine v_ie hb ?_
        obtain ⟨hg, hf⟩ := a_bif hf
        refine v_grd 6 (i' := 28) (L' := [some (.ref 22), some (.int x1), some (.int x2), some (.int y1), none]) (st' := [(.int ((A2 0) (((140 : Int32) + y1)).toNatClampNeg))]) (h' := (hM c A2 R)) (fun _ => rfl) hg ?_
        obtain ⟨y4, hy, hf⟩ := m_li_ok hf
        rw [hy]
        refine v_blk 2 (i' := (bif (a_ic .lt y4 (5 : Int32)) then 32 else 30)) (L' := [some (.ref 22), some (.int x1), some (.int x2), some (.int y1), none]) (st' := []) (h' := (hM c A2 R)) (fun _ => rfl) ?_
        rcases Bool.eq_false_or_eq_true (a_ic .lt y4 (5 : Int32)) with hb | hb
        · have hf := a_bt hb hf
          refine v_it hb ?_
          exact gt_142_32 hfz N c R (d + 1) hd x1 x2 y1 A2 _ _ hf
        · have hf := a_be hb hf
          refine v_ie hb ?_
          exact gt_142_30 hfz N c R (d + 1) hd x1 x2 y1 A2 _ _ hf
set_option maxRecDepth 100000 in
set_option maxHeartbeats 4000000 in
theorem gt_143_14b {fz : Value} {sc : Nat × (Nat → Int32)} (hfz : fz = .null ∨ fz = .retAddr 60) (N : Nat) (c : Nat → aC) (R : List aC) (d : Nat) (hd : 3 ≤ d) (rc14 : Int32 → Int32 → Int32 → Int32 → mS → Option (Int32 × mS)) (hrc14 : ∀ (x1 : Int32) (x2 : Int32) (x3 : Int32) (x4 : Int32) (A : mS) (r : Int32) (A' : mS), rc14 x1 x2 x3 x4 A = some (r, A') → v_V fz sc d 143 14 [some (.ref 22), some (.int x1), some (.int x2), some (.int x3), some (.int x4), none] [] (hM c A R) (fun rv h' => rv = some (.int r) ∧ h' = hM c A' R)) (x1 : Int32) (x2 : Int32) (x3 : Int32) (x4 : Int32) (A : mS) (r : Int32) (A' : mS) (hf : g_143_14b N rc14 x1 x2 x3 x4 A = some (r, A')) : v_V fz sc d 143 14 [some (.ref 22), some (.int x1), some (.int x2), some (.int x3), some (.int x4), none] [] (hM c A R) (fun rv h' => rv = some (.int r) ∧ h' = hM c A' R) := by
  unfold g_143_14b at hf
  obtain ⟨d, rfl⟩ : ∃ z, d = z + 1 := ⟨d - 1, by omega⟩
  refine v_blk 3 (i' := (bif (a_ic .ge x4 (4 : Int32)) then 38 else 17)) (L' := [some (.ref 22), some (.int x1), some (.int x2), some (.int x3), some (.int x4), none]) (st' := []) (h' := (hM c A R)) (fun _ => rfl) ?_
  rcases Bool.eq_false_or_eq_true (a_ic .ge x4 (4 : Int32)) with hb | hb
  · have hf := a_bt hb hf
    refine v_it hb ?_
    obtain ⟨r2, A2, hc, hf⟩ := m_bd_ok hf
    refine v_call 4 (k' := 134) (i' := 42) (E := [some (.ref 22), some (.int x1), some (.int x2)]) (L' := [some (.ref 22), some (.int x1), some (.int x2), some (.int x3), some (.int x4), none]) (rest := []) (h1 := (hM c A R)) (fun _ => rfl) ?_
    refine v_post (gt_134 hfz N c R d (by omega) x1 x2 A _ _ hc) ?_
    rintro rv h' ⟨rfl, rfl⟩
    obtain ⟨hg, hf⟩ := a_bif hf
    refine v_grd 6 (i' := 48) (L' := [some (.ref 22), some (.int x1), some (.int x2), some (.int x3), some (.int x4), none]) (st' := [(.int ((A2 0) (((148 : Int32) + x1)).toNatClampNeg)), (.int r2)]) (h' := (hM c A2 R)) (fun _ => rfl) hg ?_
    obtain ⟨y3, hy, hf⟩ := m_li_ok hf
    rw [hy]
    refine v_blk 4 (i' := 52) (L' := [some (.ref 22), some (.int x1), some (.int x2), some (.int x3), some (.int x4), none]) (st' := [(.int ((y3 * x3) / (10 : Int32))), (.int r2)]) (h' := (hM c A2 R)) (fun _ => rfl) ?_
    obtain ⟨y4, hy, hf⟩ := m_li_ok hf
    rw [hy]
    obtain ⟨rfl, rfl⟩ := m_rt hf
    exact v_ret 2 (fun _ => rfl) ⟨rfl, rfl⟩
  · have hf := a_be hb hf
    refine v_ie hb ?_
    obtain ⟨r5, A5, hc, hf⟩ := m_bd_ok hf
    refine v_call 11 (k' := 133) (i' := 28) (E := [some (.ref 22), some (.int x1), some (.int x4), some (.int x2), some (.int (((A 0) 0) + (1 : Int32))), none, none, none, none, none, none, none, none, none]) (L' := [some (.ref 22), some (.int x1), some (.int x2), some (.int x3), some (.int x4), none]) (rest := []) (h1 := (hM c A R)) (fun _ => rfl) ?_
    refine v_post (gt_133 hfz N c R d (by omega) x1 x4 x2 (((A 0) 0) + (1 : Int32)) A _ _ hc) ?_
    rintro rv h' ⟨rfl, rfl⟩
    refine v_blk 4 (i' := (bif (a_ic .le r5 x3) then 34 else 32)) (L' := [some (.ref 22), some (.int x1), some (.int x2), some (.int x3), some (.int x4), some (.int r5)]) (st' := []) (h' := (hM c A5 R)) (fun _ => rfl) ?_
    rcases Bool.eq_false_or_eq_true (a_ic .le r5 x3) with hb | hb
    · have hf := a_bt hb hf
      refine v_it hb ?_
      refine v_blk 4 (i' := 14) (L' := [some (.ref 22), some (.int x1), some (.int x2), some (.int x3), some (.int (x4 + (1 : Int32))), some (.int r5)]) (st' := []) (h' := (hM c A5 R)) (fun _ => rfl) ?_
      refine v_weak (L' := [some (.ref 22), some (.int x1), some (.int x2), some (.int x3), some (.int (x4 + (1 : Int32))), none]) (show a_wk [some (.ref 22), some (.int x1), some (.int x2), some (.int x3), some (.int (x4 + (1 : Int32))), none] [some (.ref 22), some (.int x1), some (.int x2), some (.int x3), some (.int (x4 + (1 : Int32))), some (.int r5)] from ⟨rfl, ⟨rfl, ⟨rfl, ⟨rfl, ⟨rfl, ⟨(fun v hv => by cases hv; rfl), trivial⟩⟩⟩⟩⟩⟩) ?_
      exact hrc14 x1 x2 x3 (x4 + (1 : Int32)) A5 _ _ hf
    · have hf := a_be hb hf
      refine v_ie hb ?_
      refine v_blk 5 (i' := 14) (L' := [some (.ref 22), some (.int x1), some (.int x2), some (.int r5), some (.int (x4 + (1 : Int32))), some (.int r5)]) (st' := []) (h' := (hM c A5 R)) (fun _ => rfl) ?_
      refine v_weak (L' := [some (.ref 22), some (.int x1), some (.int x2), some (.int r5), some (.int (x4 + (1 : Int32))), none]) (show a_wk [some (.ref 22), some (.int x1), some (.int x2), some (.int r5), some (.int (x4 + (1 : Int32))), none] [some (.ref 22), some (.int x1), some (.int x2), some (.int r5), some (.int (x4 + (1 : Int32))), some (.int r5)] from ⟨rfl, ⟨rfl, ⟨rfl, ⟨rfl, ⟨rfl, ⟨(fun v hv => by cases hv; rfl), trivial⟩⟩⟩⟩⟩⟩) ?_
      exact hrc14 x1 x2 r5 (x4 + (1 : Int32)) A5 _ _ hf
theorem gt_143_14 {fz : Value} {sc : Nat × (Nat → Int32)} (hfz : fz = .null ∨ fz = .retAddr 60) (N : Nat) (c : Nat → aC) (R : List aC) (d : Nat) (hd : 3 ≤ d) : ∀ (n : Nat) (x1 : Int32) (x2 : Int32) (x3 : Int32) (x4 : Int32) (A : mS) (r : Int32) (A' : mS) (hf : g_143_14 N n x1 x2 x3 x4 A = some (r, A')), v_V fz sc d 143 14 [some (.ref 22), some (.int x1), some (.int x2), some (.int x3), some (.int x4), none] [] (hM c A R) (fun rv h' => rv = some (.int r) ∧ h' = hM c A' R) := by
  intro n
  induction n with
  | zero => intro x1 x2 x3 x4 A r A' hf; cases hf
  | succ n ih =>
    intro x1 x2 x3 x4 A r A' hf
    exact gt_143_14b hfz N c R d hd (g_143_14 N n) ih x1 x2 x3 x4 A r A' hf
set_option maxRecDepth 100000 in
set_option maxHeartbeats 4000000 in
theorem gt_143 {fz : Value} {sc : Nat × (Nat → Int32)} (hfz : fz = .null ∨ fz = .retAddr 60) (N : Nat) (c : Nat → aC) (R : List aC) (d : Nat) (hd : 3 ≤ d) (x1 : Int32) (x2 : Int32) (A : mS) (r : Int32) (A' : mS) (hf : g_143 N x1 x2 A = some (r, A')) : v_V fz sc d 143 0 [some (.ref 22), some (.int x1), some (.int x2), none, none, none] [] (hM c A R) (fun rv h' => rv = some (.int r) ∧ h' = hM c A' R) := by
  unfold g_143 at hf
  obtain ⟨d, rfl⟩ : ∃ z, d = z + 1 := ⟨d - 1, by omega⟩
  obtain ⟨r1, A1, hc, hf⟩ := m_bd_ok hf
  refine v_call 11 (k' := 133) (i' := 11) (E := [some (.ref 22), some (.int x1), some (.int (0 : Int32)), some (.int x2), some (.int (((A 0) 0) + (1 : Int32))), none, none, none, none, none, none, none, none, none]) (L' := [some (.ref 22), some (.int x1), some (.int x2), none, none, none]) (rest := []) (h1 := (hM c A R)) (fun _ => rfl) ?_
  refine v_post (gt_133 hfz N c R d (by omega) x1 (0 : Int32) x2 (((A 0) 0) + (1 : Int32)) A _ _ hc) ?_
  rintro rv h' ⟨rfl, rfl⟩
  refine v_blk 3 (i' := 14) (L' := [some (.ref 22), some (.int x1), some (.int x2), some (.int r1), some (.int (1 : Int32)), none]) (st' := []) (h' := (hM c A1 R)) (fun _ => rfl) ?_
  exact gt_143_14 hfz N c R (d + 1) hd N x1 x2 r1 (1 : Int32) A1 _ _ hf
set_option maxRecDepth 100000 in
set_option maxHeartbeats 4000000 in
theorem gt_144_4b {fz : Value} {sc : Nat × (Nat → Int32)} (hfz : fz = .null ∨ fz = .retAddr 60) (N : Nat) (c : Nat → aC) (R : List aC) (d : Nat) (hd : 4 ≤ d) (rc4 : Int32 → Int32 → Int32 → Int32 → mS → Option (Int32 × mS)) (hrc4 : ∀ (x1 : Int32) (x2 : Int32) (x3 : Int32) (x4 : Int32) (A : mS) (r : Int32) (A' : mS), rc4 x1 x2 x3 x4 A = some (r, A') → v_V fz sc d 144 4 [some (.ref 22), some (.int x1), some (.int x2), some (.int x3), some (.int x4)] [] (hM c A R) (fun rv h' => rv = some (.int r) ∧ h' = hM c A' R)) (x1 : Int32) (x2 : Int32) (x3 : Int32) (x4 : Int32) (A : mS) (r : Int32) (A' : mS) (hf : g_144_4b N rc4 x1 x2 x3 x4 A = some (r, A')) : v_V fz sc d 144 4 [some (.ref 22), some (.int x1), some (.int x2), some (.int x3), some (.int x4)] [] (hM c A R) (fun rv h' => rv = some (.int r) ∧ h' = hM c A' R) := by
  unfold g_144_4b at hf
  obtain ⟨d, rfl⟩ : ∃ z, d = z + 1 := ⟨d - 1, by omega⟩
  refine v_blk 3 (i' := (bif (a_ic .ge x4 (4 : Int32)) then 22 else 7)) (L' := [some (.ref 22), some (.int x1), some (.int x2), some (.int x3), some (.int x4)]) (st' := []) (h' := (hM c A R)) (fun _ => rfl) ?_
  rcases Bool.eq_false_or_eq_true (a_ic .ge x4 (4 : Int32)) with hb | hb
  · have hf := a_bt hb hf
    refine v_it hb ?_
    refine v_blk 3 (i' := (bif (a_ic .ne x3 x2) then 30 else 25)) (L' := [some (.ref 22), some (.int x1), some (.int x2), some (.int x3), some (.int x4)]) (st' := []) (h' := (hM c A R)) (fun _ => rfl) ?_
    rcases Bool.eq_false_or_eq_true (a_ic .ne x3 x2) with hb | hb
    · have hf := a_bt hb hf
      refine v_it hb ?_
      obtain ⟨rfl, rfl⟩ := m_rt hf
      exact v_ret 2 (fun _ => rfl) ⟨rfl, rfl⟩
    · have hf := a_be hb hf
      refine v_ie hb ?_
      obtain ⟨r1, A1, hc, hf⟩ := m_bd_ok hf
      refine v_call 4 (k' := 142) (i' := 29) (E := [some (.ref 22), some (.int x1), some (.int x2), none, none]) (L' := [some (.ref 22), some (.int x1), some (.int x2), some (.int x3), some (.int x4)]) (rest := []) (h1 := (hM c A R)) (fun _ => rfl) ?_
      refine v_post (gt_142 hfz N c R d (by omega) x1 x2 A _ _ hc) ?_
      rintro rv h' ⟨rfl, rfl⟩
      obtain ⟨rfl, rfl⟩ := m_rt hf
      exact v_ret 2 (fun _ => rfl) ⟨rfl, rfl⟩
  · have hf := a_be hb hf
    refine v_ie hb ?_
    obtain ⟨r2, A2, hc, hf⟩ := m_bd_ok hf
    refine v_call 4 (k' := 142) (i' := 11) (E := [some (.ref 22), some (.int x1), some (.int x4), none, none]) (L' := [some (.ref 22), some (.int x1), some (.int x2), some (.int x3), some (.int x4)]) (rest := []) (h1 := (hM c A R)) (fun _ => rfl) ?_
    refine v_post (gt_142 hfz N c R d (by omega) x1 x4 A _ _ hc) ?_
    rintro rv h' ⟨rfl, rfl⟩
    obtain ⟨r3, A3, hc, hf⟩ := m_bd_ok hf
    refine v_call 4 (k' := 142) (i' := 15) (E := [some (.ref 22), some (.int x1), some (.int x3), none, none]) (L' := [some (.ref 22), some (.int x1), some (.int x2), some (.int x3), some (.int x4)]) (rest := [(.int r2)]) (h1 := (hM c A2 R)) (fun _ => rfl) ?_
    refine v_post (gt_142 hfz N c R d (by omega) x1 x3 A2 _ _ hc) ?_
    rintro rv h' ⟨rfl, rfl⟩
    refine v_blk 1 (i' := (bif (a_ic .le r2 r3) then 18 else 16)) (L' := [some (.ref 22), some (.int x1), some (.int x2), some (.int x3), some (.int x4)]) (st' := []) (h' := (hM c A3 R)) (fun _ => rfl) ?_
    rcases Bool.eq_false_or_eq_true (a_ic .le r2 r3) with hb | hb
    · have hf := a_bt hb hf
      refine v_it hb ?_
      refine v_blk 4 (i' := 4) (L' := [some (.ref 22), some (.int x1), some (.int x2), some (.int x3), some (.int (x4 + (1 : Int32)))]) (st' := []) (h' := (hM c A3 R)) (fun _ => rfl) ?_
      exact hrc4 x1 x2 x3 (x4 + (1 : Int32)) A3 _ _ hf
    · have hf := a_be hb hf
      refine v_ie hb ?_
      refine v_blk 5 (i' := 4) (L' := [some (.ref 22), some (.int x1), some (.int x2), some (.int x4), some (.int (x4 + (1 : Int32)))]) (st' := []) (h' := (hM c A3 R)) (fun _ => rfl) ?_
      exact hrc4 x1 x2 x4 (x4 + (1 : Int32)) A3 _ _ hf
theorem gt_144_4 {fz : Value} {sc : Nat × (Nat → Int32)} (hfz : fz = .null ∨ fz = .retAddr 60) (N : Nat) (c : Nat → aC) (R : List aC) (d : Nat) (hd : 4 ≤ d) : ∀ (n : Nat) (x1 : Int32) (x2 : Int32) (x3 : Int32) (x4 : Int32) (A : mS) (r : Int32) (A' : mS) (hf : g_144_4 N n x1 x2 x3 x4 A = some (r, A')), v_V fz sc d 144 4 [some (.ref 22), some (.int x1), some (.int x2), some (.int x3), some (.int x4)] [] (hM c A R) (fun rv h' => rv = some (.int r) ∧ h' = hM c A' R) := by
  intro n
  induction n with
  | zero => intro x1 x2 x3 x4 A r A' hf; cases hf
  | succ n ih =>
    intro x1 x2 x3 x4 A r A' hf
    exact gt_144_4b hfz N c R d hd (g_144_4 N n) ih x1 x2 x3 x4 A r A' hf
set_option maxRecDepth 100000 in
set_option maxHeartbeats 4000000 in
theorem gt_144 {fz : Value} {sc : Nat × (Nat → Int32)} (hfz : fz = .null ∨ fz = .retAddr 60) (N : Nat) (c : Nat → aC) (R : List aC) (d : Nat) (hd : 4 ≤ d) (x1 : Int32) (x2 : Int32) (A : mS) (r : Int32) (A' : mS) (hf : g_144 N x1 x2 A = some (r, A')) : v_V fz sc d 144 0 [some (.ref 22), some (.int x1), some (.int x2), none, none] [] (hM c A R) (fun rv h' => rv = some (.int r) ∧ h' = hM c A' R) := by
  unfold g_144 at hf
  obtain ⟨d, rfl⟩ : ∃ z, d = z + 1 := ⟨d - 1, by omega⟩
  refine v_blk 4 (i' := 4) (L' := [some (.ref 22), some (.int x1), some (.int x2), some (.int (0 : Int32)), some (.int (1 : Int32))]) (st' := []) (h' := (hM c A R)) (fun _ => rfl) ?_
  exact gt_144_4 hfz N c R (d + 1) hd N x1 x2 (0 : Int32) (1 : Int32) A _ _ hf
set_option maxRecDepth 100000 in
set_option maxHeartbeats 4000000 in
theorem gt_145 {fz : Value} {sc : Nat × (Nat → Int32)} (hfz : fz = .null ∨ fz = .retAddr 60) (N : Nat) (c : Nat → aC) (R : List aC) (d : Nat) (hd : 5 ≤ d) (x1 : Int32) (x2 : Int32) (A : mS) (r : Int32) (A' : mS) (hf : g_145 N x1 x2 A = some (r, A')) : v_V fz sc d 145 0 [some (.ref 22), some (.int x1), some (.int x2), none] [] (hM c A R) (fun rv h' => rv = some (.int r) ∧ h' = hM c A' R) := by
  unfold g_145 at hf
  obtain ⟨d, rfl⟩ : ∃ z, d = z + 1 := ⟨d - 1, by omega⟩
  obtain ⟨r1, A1, hc, hf⟩ := m_bd_ok hf
  refine v_call 4 (k' := 134) (i' := 4) (E := [some (.ref 22), some (.int x1), some (.int x2)]) (L' := [some (.ref 22), some (.int x1), some (.int x2), none]) (rest := []) (h1 := (hM c A R)) (fun _ => rfl) ?_
  refine v_post (gt_134 hfz N c R d (by omega) x1 x2 A _ _ hc) ?_
  rintro rv h' ⟨rfl, rfl⟩
  obtain ⟨hg, hf⟩ := a_bif hf
  refine v_grd 6 (i' := 10) (L' := [some (.ref 22), some (.int x1), some (.int x2), none]) (st' := [(.int ((A1 0) (((148 : Int32) + x1)).toNatClampNeg)), (.int r1)]) (h' := (hM c A1 R)) (fun _ => rfl) hg ?_
  obtain ⟨y2, hy, hf⟩ := m_li_ok hf
  rw [hy]
  obtain ⟨hg, hf⟩ := a_bif hf
  refine v_grd 3 (i' := 13) (L' := [some (.ref 22), some (.int x1), some (.int x2), none]) (st' := [(.int (r1 / (y2 + (1 : Int32))))]) (h' := (hM c A1 R)) (fun _ => rfl) hg ?_
  obtain ⟨y3, hy, hf⟩ := m_li_ok hf
  rw [hy]
  obtain ⟨hg, hf⟩ := a_bif hf
  refine v_grd 7 (i' := 20) (L' := [some (.ref 22), some (.int x1), some (.int x2), some (.int y3)]) (st' := [(.int ((A1 0) (((140 : Int32) + x1)).toNatClampNeg))]) (h' := (hM c A1 R)) (fun _ => rfl) hg ?_
  obtain ⟨y4, hy, hf⟩ := m_li_ok hf
  rw [hy]
  refine v_blk 1 (i' := (a_tsw 1 6 86 [21, 26, 34, 42, 64, 72] y4)) (L' := [some (.ref 22), some (.int x1), some (.int x2), some (.int y3)]) (st' := []) (h' := (hM c A1 R)) (fun _ => rfl) ?_
  by_cases hb : (a_tsw 1 6 86 [21, 26, 34, 42, 64, 72] y4) = 21
  · rw [if_pos hb] at hf
    rw [hb]
    obtain ⟨r5, A5, hc, hf⟩ := m_bd_ok hf
    refine v_call 4 (k' := 141) (i' := 25) (E := [some (.ref 22), some (.int x1), some (.int y3)]) (L' := [some (.ref 22), some (.int x1), some (.int x2), some (.int y3)]) (rest := []) (h1 := (hM c A1 R)) (fun _ => rfl) ?_
    refine v_post (gt_141 hfz N c R d (by omega) x1 y3 A1 _ _ hc) ?_
    rintro rv h' ⟨rfl, rfl⟩
    obtain ⟨rfl, rfl⟩ := m_rt hf
    exact v_ret 1 (fun _ => rfl) ⟨rfl, rfl⟩
  rw [if_neg hb] at hf
  by_cases hb : (a_tsw 1 6 86 [21, 26, 34, 42, 64, 72] y4) = 26
  · rw [if_pos hb] at hf
    rw [hb]
    obtain ⟨r6, A6, hc, hf⟩ := m_bd_ok hf
    refine v_call 6 (k' := 142) (i' := 32) (E := [some (.ref 22), some (.int x1), some (.int x2), none, none]) (L' := [some (.ref 22), some (.int x1), some (.int x2), some (.int y3)]) (rest := [(.int x1), (.ref 22)]) (h1 := (hM c A1 R)) (fun _ => rfl) ?_
    refine v_post (gt_142 hfz N c R d (by omega) x1 x2 A1 _ _ hc) ?_
    rintro rv h' ⟨rfl, rfl⟩
    obtain ⟨r7, A7, hc, hf⟩ := m_bd_ok hf
    refine v_call 1 (k' := 141) (i' := 33) (E := [some (.ref 22), some (.int x1), some (.int r6)]) (L' := [some (.ref 22), some (.int x1), some (.int x2), some (.int y3)]) (rest := []) (h1 := (hM c A6 R)) (fun _ => rfl) ?_
    refine v_post (gt_141 hfz N c R d (by omega) x1 r6 A6 _ _ hc) ?_
    rintro rv h' ⟨rfl, rfl⟩
    obtain ⟨rfl, rfl⟩ := m_rt hf
    exact v_ret 1 (fun _ => rfl) ⟨rfl, rfl⟩
  rw [if_neg hb] at hf
  by_cases hb : (a_tsw 1 6 86 [21, 26, 34, 42, 64, 72] y4) = 34
  · rw [if_pos hb] at hf
    rw [hb]
    obtain ⟨r8, A8, hc, hf⟩ := m_bd_ok hf
    refine v_call 6 (k' := 143) (i' := 40) (E := [some (.ref 22), some (.int x1), some (.int x2), none, none, none]) (L' := [some (.ref 22), some (.int x1), some (.int x2), some (.int y3)]) (rest := [(.int x1), (.ref 22)]) (h1 := (hM c A1 R)) (fun _ => rfl) ?_
    refine v_post (gt_143 hfz N c R d (by omega) x1 x2 A1 _ _ hc) ?_
    rintro rv h' ⟨rfl, rfl⟩
    obtain ⟨r9, A9, hc, hf⟩ := m_bd_ok hf
    refine v_call 1 (k' := 141) (i' := 41) (E := [some (.ref 22), some (.int x1), some (.int r8)]) (L' := [some (.ref 22), some (.int x1), some (.int x2), some (.int y3)]) (rest := []) (h1 := (hM c A8 R)) (fun _ => rfl) ?_
    refine v_post (gt_141 hfz N c R d (by omega) x1 r8 A8 _ _ hc) ?_
    rintro rv h' ⟨rfl, rfl⟩
    obtain ⟨rfl, rfl⟩ := m_rt hf
    exact v_ret 1 (fun _ => rfl) ⟨rfl, rfl⟩
  rw [if_neg hb] at hf
  by_cases hb : (a_tsw 1 6 86 [21, 26, 34, 42, 64, 72] y4) = 42
  · rw [if_pos hb] at hf
    rw [hb]
    obtain ⟨hg, hf⟩ := a_bif hf
    refine v_grd 6 (i' := 48) (L' := [some (.ref 22), some (.int x1), some (.int x2), some (.int y3)]) (st' := [(.int ((A1 0) (((3 : Int32) + x1)).toNatClampNeg))]) (h' := (hM c A1 R)) (fun _ => rfl) hg ?_
    obtain ⟨y10, hy, hf⟩ := m_li_ok hf
    rw [hy]
    obtain ⟨hg, hf⟩ := a_bif hf
    refine v_grd 7 (i' := 55) (L' := [some (.ref 22), some (.int x1), some (.int x2), some (.int y3)]) (st' := [(.int ((A1 0) (((148 : Int32) + x1)).toNatClampNeg)), (.int (10 : Int32)), (.int y10)]) (h' := (hM c A1 R)) (fun _ => rfl) hg ?_
    obtain ⟨y11, hy, hf⟩ := m_li_ok hf
    rw [hy]
    refine v_blk 2 (i' := (bif (a_ic .ge y10 ((10 : Int32) * y11)) then 59 else 57)) (L' := [some (.ref 22), some (.int x1), some (.int x2), some (.int y3)]) (st' := []) (h' := (hM c A1 R)) (fun _ => rfl) ?_
    rcases Bool.eq_false_or_eq_true (a_ic .ge y10 ((10 : Int32) * y11)) with hb | hb
    · have hf := a_bt hb hf
      refine v_it hb ?_
      obtain ⟨r12, A12, hc, hf⟩ := m_bd_ok hf
      refine v_call 4 (k' := 141) (i' := 63) (E := [some (.ref 22), some (.int x1), some (.int y3)]) (L' := [some (.ref 22), some (.int x1), some (.int x2), some (.int y3)]) (rest := []) (h1 := (hM c A1 R)) (fun _ => rfl) ?_
      refine v_post (gt_141 hfz N c R d (by omega) x1 y3 A1 _ _ hc) ?_
      rintro rv h' ⟨rfl, rfl⟩
      obtain ⟨rfl, rfl⟩ := m_rt hf
      exact v_ret 1 (fun _ => rfl) ⟨rfl, rfl⟩
    · have hf := a_be hb hf
      refine v_ie hb ?_
      obtain ⟨rfl, rfl⟩ := m_rt hf
      exact v_ret 3 (fun _ => rfl) ⟨rfl, rfl⟩
  rw [if_neg hb] at hf
  by_cases hb : (a_tsw 1 6 86 [21, 26, 34, 42, 64, 72] y4) = 64
  · rw [if_pos hb] at hf
    rw [hb]
    obtain ⟨r13, A13, hc, hf⟩ := m_bd_ok hf
    refine v_call 6 (k' := 144) (i' := 70) (E := [some (.ref 22), some (.int x1), some (.int x2), none, none]) (L' := [some (.ref 22), some (.int x1), some (.int x2), some (.int y3)]) (rest := [(.int x1), (.ref 22)]) (h1 := (hM c A1 R)) (fun _ => rfl) ?_
    refine v_post (gt_144 hfz N c R d (by omega) x1 x2 A1 _ _ hc) ?_
    rintro rv h' ⟨rfl, rfl⟩
    obtain ⟨r14, A14, hc, hf⟩ := m_bd_ok hf
    refine v_call 1 (k' := 141) (i' := 71) (E := [some (.ref 22), some (.int x1), some (.int r13)]) (L' := [some (.ref 22), some (.int x1), some (.int x2), some (.int y3)]) (rest := []) (h1 := (hM c A13 R)) (fun _ => rfl) ?_
    refine v_post (gt_141 hfz N c R d (by omega) x1 r13 A13 _ _ hc) ?_
    rintro rv h' ⟨rfl, rfl⟩
    obtain ⟨rfl, rfl⟩ := m_rt hf
    exact v_ret 1 (fun _ => rfl) ⟨rfl, rfl⟩
  rw [if_neg hb] at hf
  by_cases hb : (a_tsw 1 6 86 [21, 26, 34, 42, 64, 72] y4) = 72
  · rw [if_pos hb] at hf
    rw [hb]
    obtain ⟨hg, hf⟩ := a_bif hf
    refine v_grd 12 (i' := 84) (L' := [some (.ref 22), some (.int x1), some (.int x2), some (.int y3)]) (st' := [(.int ((A1 0) ((((156 : Int32) + ((4 : Int32) * x1)) + x2)).toNatClampNeg)), (.int x1), (.ref 22)]) (h' := (hM c A1 R)) (fun _ => rfl) hg ?_
    obtain ⟨y15, hy, hf⟩ := m_li_ok hf
    rw [hy]
    obtain ⟨r16, A16, hc, hf⟩ := m_bd_ok hf
    refine v_call 1 (k' := 141) (i' := 85) (E := [some (.ref 22), some (.int x1), some (.int y15)]) (L' := [some (.ref 22), some (.int x1), some (.int x2), some (.int y3)]) (rest := []) (h1 := (hM c A1 R)) (fun _ => rfl) ?_
    refine v_post (gt_141 hfz N c R d (by omega) x1 y15 A1 _ _ hc) ?_
    rintro rv h' ⟨rfl, rfl⟩
    obtain ⟨rfl, rfl⟩ := m_rt hf
    exact v_ret 1 (fun _ => rfl) ⟨rfl, rfl⟩
  rw [if_neg hb] at hf
  by_cases hb : (a_tsw 1 6 86 [21, 26, 34, 42, 64, 72] y4) = 86
  · rw [if_pos hb] at hf
    rw [hb]
    obtain ⟨r17, A17, hc, hf⟩ := m_bd_ok hf
    refine v_call 6 (k' := 134) (i' := 92) (E := [some (.ref 22), some (.int x1), some (.int x2)]) (L' := [some (.ref 22), some (.int x1), some (.int x2), some (.int y3)]) (rest := [(.int x1), (.ref 22)]) (h1 := (hM c A1 R)) (fun _ => rfl) ?_
    refine v_post (gt_134 hfz N c R d (by omega) x1 x2 A1 _ _ hc) ?_
    rintro rv h' ⟨rfl, rfl⟩
    obtain ⟨r18, A18, hc, hf⟩ := m_bd_ok hf
    refine v_call 1 (k' := 141) (i' := 93) (E := [some (.ref 22), some (.int x1), some (.int r17)]) (L' := [some (.ref 22), some (.int x1), some (.int x2), some (.int y3)]) (rest := []) (h1 := (hM c A17 R)) (fun _ => rfl) ?_
    refine v_post (gt_141 hfz N c R d (by omega) x1 r17 A17 _ _ hc) ?_
    rintro rv h' ⟨rfl, rfl⟩
    obtain ⟨rfl, rfl⟩ := m_rt hf
    exact v_ret 1 (fun _ => rfl) ⟨rfl, rfl⟩
  rw [if_neg hb] at hf
  cases hf
set_option maxRecDepth 100000 in
set_option maxHeartbeats 4000000 in
theorem gt_146 {fz : Value} {sc : Nat × (Nat → Int32)} (hfz : fz = .null ∨ fz = .retAddr 60) (N : Nat) (c : Nat → aC) (R : List aC) (d : Nat) (hd : 6 ≤ d) (x1 : Int32) (x2 : Int32) (A : mS) (r : Int32) (A' : mS) (hf : g_146 N x1 x2 A = some (r, A')) : v_V fz sc d 146 0 [some (.ref 22), some (.int x1), some (.int x2)] [] (hM c A R) (fun rv h' => rv = some (.int r) ∧ h' = hM c A' R) := by
  unfold g_146 at hf
  obtain ⟨d, rfl⟩ : ∃ z, d = z + 1 := ⟨d - 1, by omega⟩
  obtain ⟨r1, A1, hc, hf⟩ := m_bd_ok hf
  refine v_call 3 (k' := 114) (i' := 3) (E := [some (.ref 22), some (.int x1)]) (L' := [some (.ref 22), some (.int x1), some (.int x2)]) (rest := []) (h1 := (hM c A R)) (fun _ => rfl) ?_
  refine v_post (gt_114 hfz N c R d (by omega) x1 A _ _ hc) ?_
  rintro rv h' ⟨rfl, rfl⟩
  refine v_blk 1 (i' := (bif (a_ic .ne r1 (0 : Int32)) then 6 else 4)) (L' := [some (.ref 22), some (.int x1), some (.int x2)]) (st' := []) (h' := (hM c A1 R)) (fun _ => rfl) ?_
  rcases Bool.eq_false_or_eq_true (a_ic .ne r1 (0 : Int32)) with hb | hb
  · have hf := a_bt hb hf
    refine v_it hb ?_
    obtain ⟨r2, A2, hc, hf⟩ := m_bd_ok hf
    refine v_call 4 (k' := 112) (i' := 10) (E := [some (.int x2), some (.int (10 : Int32)), some (.int (13 : Int32))]) (L' := [some (.ref 22), some (.int x1), some (.int x2)]) (rest := []) (h1 := (hM c A1 R)) (fun _ => rfl) ?_
    refine v_post (gt_112 hfz N c R d (by omega) x2 (10 : Int32) (13 : Int32) A1 _ _ hc) ?_
    rintro rv h' ⟨rfl, rfl⟩
    refine v_blk 1 (i' := (bif (a_ic .eq r2 (0 : Int32)) then 18 else 11)) (L' := [some (.ref 22), some (.int x1), some (.int x2)]) (st' := []) (h' := (hM c A2 R)) (fun _ => rfl) ?_
    rcases Bool.eq_false_or_eq_true (a_ic .eq r2 (0 : Int32)) with hb | hb
    · have hf := a_bt hb hf
      refine v_it hb ?_
      obtain ⟨r3, A3, hc, hf⟩ := m_bd_ok hf
      refine v_call 4 (k' := 112) (i' := 22) (E := [some (.int x2), some (.int (20 : Int32)), some (.int (23 : Int32))]) (L' := [some (.ref 22), some (.int x1), some (.int x2)]) (rest := []) (h1 := (hM c A2 R)) (fun _ => rfl) ?_
      refine v_post (gt_112 hfz N c R d (by omega) x2 (20 : Int32) (23 : Int32) A2 _ _ hc) ?_
      rintro rv h' ⟨rfl, rfl⟩
      refine v_blk 1 (i' := (bif (a_ic .eq r3 (0 : Int32)) then 30 else 23)) (L' := [some (.ref 22), some (.int x1), some (.int x2)]) (st' := []) (h' := (hM c A3 R)) (fun _ => rfl) ?_
      rcases Bool.eq_false_or_eq_true (a_ic .eq r3 (0 : Int32)) with hb | hb
      · have hf := a_bt hb hf
        refine v_it hb ?_
        refine v_blk 2 (i' := (bif (a_ic .ne x2 (0 : Int32)) then 39 else 32)) (L' := [some (.ref 22), some (.int x1), some (.int x2)]) (st' := []) (h' := (hM c A3 R)) (fun _ => rfl) ?_
        rcases Bool.eq_false_or_eq_true (a_ic .ne x2 (0 : Int32)) with hb | hb
        · have hf := a_bt hb hf
          refine v_it hb ?_
          refine v_blk 3 (i' := (bif (a_ic .ne x2 (1 : Int32)) then 49 else 42)) (L' := [some (.ref 22), some (.int x1), some (.int x2)]) (st' := []) (h' := (hM c A3 R)) (fun _ => rfl) ?_
          rcases Bool.eq_false_or_eq_true (a_ic .ne x2 (1 : Int32)) with hb | hb
          · have hf := a_bt hb hf
            refine v_it hb ?_
            refine v_blk 3 (i' := (bif (a_ic .ne x2 (2 : Int32)) then 59 else 52)) (L' := [some (.ref 22), some (.int x1), some (.int x2)]) (st' := []) (h' := (hM c A3 R)) (fun _ => rfl) ?_
            rcases Bool.eq_false_or_eq_true (a_ic .ne x2 (2 : Int32)) with hb | hb
            · have hf := a_bt hb hf
              refine v_it hb ?_
              obtain ⟨rfl, rfl⟩ := m_rt hf
              exact v_ret 2 (fun _ => rfl) ⟨rfl, rfl⟩
            · have hf := a_be hb hf
              refine v_ie hb ?_
              obtain ⟨hg, hf⟩ := a_bif hf
              refine v_grd 6 (i' := 58) (L' := [some (.ref 22), some (.int x1), some (.int x2)]) (st' := [(.int ((A3 0) (((3 : Int32) + x1)).toNatClampNeg))]) (h' := (hM c A3 R)) (fun _ => rfl) hg ?_
              obtain ⟨y4, hy, hf⟩ := m_li_ok hf
              rw [hy]
              obtain ⟨rfl, rfl⟩ := m_rt hf
              exact v_ret 2 (fun _ => rfl) ⟨rfl, rfl⟩
          · have hf := a_be hb hf
            refine v_ie hb ?_
            obtain ⟨hg, hf⟩ := a_bif hf
            refine v_grd 6 (i' := 48) (L' := [some (.ref 22), some (.int x1), some (.int x2)]) (st' := [(.int ((A3 0) (((148 : Int32) + x1)).toNatClampNeg))]) (h' := (hM c A3 R)) (fun _ => rfl) hg ?_
            obtain ⟨y5, hy, hf⟩ := m_li_ok hf
            rw [hy]
            obtain ⟨rfl, rfl⟩ := m_rt hf
            exact v_ret 2 (fun _ => rfl) ⟨rfl, rfl⟩
        · have hf := a_be hb hf
          refine v_ie hb ?_
          obtain ⟨hg, hf⟩ := a_bif hf
          refine v_grd 6 (i' := 38) (L' := [some (.ref 22), some (.int x1), some (.int x2)]) (st' := [(.int ((A3 0) (((140 : Int32) + x1)).toNatClampNeg))]) (h' := (hM c A3 R)) (fun _ => rfl) hg ?_
          obtain ⟨y6, hy, hf⟩ := m_li_ok hf
          rw [hy]
          obtain ⟨rfl, rfl⟩ := m_rt hf
          exact v_ret 2 (fun _ => rfl) ⟨rfl, rfl⟩
      · have hf := a_be hb hf
        refine v_ie hb ?_
        obtain ⟨r7, A7, hc, hf⟩ := m_bd_ok hf
        refine v_call 6 (k' := 134) (i' := 29) (E := [some (.ref 22), some (.int x1), some (.int (x2 - (20 : Int32)))]) (L' := [some (.ref 22), some (.int x1), some (.int x2)]) (rest := []) (h1 := (hM c A3 R)) (fun _ => rfl) ?_
        refine v_post (gt_134 hfz N c R d (by omega) x1 (x2 - (20 : Int32)) A3 _ _ hc) ?_
        rintro rv h' ⟨rfl, rfl⟩
        obtain ⟨rfl, rfl⟩ := m_rt hf
        exact v_ret 1 (fun _ => rfl) ⟨rfl, rfl⟩
    · have hf := a_be hb hf
      refine v_ie hb ?_
      obtain ⟨r8, A8, hc, hf⟩ := m_bd_ok hf
      refine v_call 6 (k' := 145) (i' := 17) (E := [some (.ref 22), some (.int x1), some (.int (x2 - (10 : Int32))), none]) (L' := [some (.ref 22), some (.int x1), some (.int x2)]) (rest := []) (h1 := (hM c A2 R)) (fun _ => rfl) ?_
      refine v_post (gt_145 hfz N c R d (by omega) x1 (x2 - (10 : Int32)) A2 _ _ hc) ?_
      rintro rv h' ⟨rfl, rfl⟩
      obtain ⟨rfl, rfl⟩ := m_rt hf
      exact v_ret 1 (fun _ => rfl) ⟨rfl, rfl⟩
  · have hf := a_be hb hf
    refine v_ie hb ?_
    obtain ⟨rfl, rfl⟩ := m_rt hf
    exact v_ret 2 (fun _ => rfl) ⟨rfl, rfl⟩
set_option maxRecDepth 100000 in
set_option maxHeartbeats 4000000 in
theorem gt_147_10b {fz : Value} {sc : Nat × (Nat → Int32)} (hfz : fz = .null ∨ fz = .retAddr 60) (N : Nat) (c : Nat → aC) (R : List aC) (d : Nat) (hd : 6 ≤ d) (rc2 : Int32 → mS → Option (Int32 × mS)) (hrc2 : ∀ (x1 : Int32) (A : mS) (r : Int32) (A' : mS), rc2 x1 A = some (r, A') → v_V fz sc d 147 2 [some (.ref 22), some (.int x1), none] [] (hM c A R) (fun rv h' => rv = none ∧ h' = hM c A' R)) (rc10 : Int32 → Int32 → mS → Option (Int32 × mS)) (hrc10 : ∀ (x1 : Int32) (x2 : Int32) (A : mS) (r : Int32) (A' : mS), rc10 x1 x2 A = some (r, A') → v_V fz sc d 147 10 [some (.ref 22), some (.int x1), some (.int x2)] [] (hM c A R) (fun rv h' => rv = none ∧ h' = hM c A' R)) (x1 : Int32) (x2 : Int32) (A : mS) (r : Int32) (A' : mS) (hf : g_147_10b N rc2 rc10 x1 x2 A = some (r, A')) : v_V fz sc d 147 10 [some (.ref 22), some (.int x1), some (.int x2)] [] (hM c A R) (fun rv h' => rv = none ∧ h' = hM c A' R) := by
  unfold g_147_10b at hf
  obtain ⟨d, rfl⟩ : ∃ z, d = z + 1 := ⟨d - 1, by omega⟩
  refine v_blk 3 (i' := (bif (a_ic .ge x2 (4 : Int32)) then 27 else 13)) (L' := [some (.ref 22), some (.int x1), some (.int x2)]) (st' := []) (h' := (hM c A R)) (fun _ => rfl) ?_
  rcases Bool.eq_false_or_eq_true (a_ic .ge x2 (4 : Int32)) with hb | hb
  · have hf := a_bt hb hf
    refine v_it hb ?_
    refine v_blk 2 (i' := 2) (L' := [some (.ref 22), some (.int (x1 + (1 : Int32))), some (.int x2)]) (st' := []) (h' := (hM c A R)) (fun _ => rfl) ?_
    refine v_weak (L' := [some (.ref 22), some (.int (x1 + (1 : Int32))), none]) (show a_wk [some (.ref 22), some (.int (x1 + (1 : Int32))), none] [some (.ref 22), some (.int (x1 + (1 : Int32))), some (.int x2)] from ⟨rfl, ⟨rfl, ⟨(fun v hv => by cases hv; rfl), trivial⟩⟩⟩) ?_
    exact hrc2 (x1 + (1 : Int32)) A _ _ hf
  · have hf := a_be hb hf
    refine v_ie hb ?_
    obtain ⟨r1, A1, hc, hf⟩ := m_bd_ok hf
    refine v_call 11 (k' := 145) (i' := 24) (E := [some (.ref 22), some (.int x1), some (.int x2), none]) (L' := [some (.ref 22), some (.int x1), some (.int x2)]) (rest := [(.int (((4 : Int32) * x1) + x2)), (.ref 28)]) (h1 := (hM c A R)) (fun _ => rfl) ?_
    refine v_post (gt_145 hfz N c R d (by omega) x1 x2 A _ _ hc) ?_
    rintro rv h' ⟨rfl, rfl⟩
    obtain ⟨hg, hf⟩ := a_bif hf
    refine v_grd 1 (i' := 25) (L' := [some (.ref 22), some (.int x1), some (.int x2)]) (st' := []) (h' := (hM c (va_up A1 5 (upd (A1 5) ((((4 : Int32) * x1) + x2)).toNatClampNeg r1)) R)) (fun _ => rfl) hg ?_
    obtain ⟨A2, hA, hf⟩ := m_st_ok hf
    rw [hA]
    refine v_blk 2 (i' := 10) (L' := [some (.ref 22), some (.int x1), some (.int (x2 + (1 : Int32)))]) (st' := []) (h' := (hM c A2 R)) (fun _ => rfl) ?_
    exact hrc10 x1 (x2 + (1 : Int32)) A2 _ _ hf
theorem gt_147_10 {fz : Value} {sc : Nat × (Nat → Int32)} (hfz : fz = .null ∨ fz = .retAddr 60) (N : Nat) (c : Nat → aC) (R : List aC) (d : Nat) (hd : 6 ≤ d) (rc2 : Int32 → mS → Option (Int32 × mS)) (hrc2 : ∀ (x1 : Int32) (A : mS) (r : Int32) (A' : mS), rc2 x1 A = some (r, A') → v_V fz sc d 147 2 [some (.ref 22), some (.int x1), none] [] (hM c A R) (fun rv h' => rv = none ∧ h' = hM c A' R)) : ∀ (n : Nat) (x1 : Int32) (x2 : Int32) (A : mS) (r : Int32) (A' : mS) (hf : g_147_10 N rc2 n x1 x2 A = some (r, A')), v_V fz sc d 147 10 [some (.ref 22), some (.int x1), some (.int x2)] [] (hM c A R) (fun rv h' => rv = none ∧ h' = hM c A' R) := by
  intro n
  induction n with
  | zero => intro x1 x2 A r A' hf; cases hf
  | succ n ih =>
    intro x1 x2 A r A' hf
    exact gt_147_10b hfz N c R d hd rc2 hrc2 (g_147_10 N rc2 n) ih x1 x2 A r A' hf
set_option maxRecDepth 100000 in
set_option maxHeartbeats 4000000 in
theorem gt_147_2b {fz : Value} {sc : Nat × (Nat → Int32)} (hfz : fz = .null ∨ fz = .retAddr 60) (N : Nat) (c : Nat → aC) (R : List aC) (d : Nat) (hd : 6 ≤ d) (rc2 : Int32 → mS → Option (Int32 × mS)) (hrc2 : ∀ (x1 : Int32) (A : mS) (r : Int32) (A' : mS), rc2 x1 A = some (r, A') → v_V fz sc d 147 2 [some (.ref 22), some (.int x1), none] [] (hM c A R) (fun rv h' => rv = none ∧ h' = hM c A' R)) (x1 : Int32) (A : mS) (r : Int32) (A' : mS) (hf : g_147_2b N rc2 x1 A = some (r, A')) : v_V fz sc d 147 2 [some (.ref 22), some (.int x1), none] [] (hM c A R) (fun rv h' => rv = none ∧ h' = hM c A' R) := by
  unfold g_147_2b at hf
  obtain ⟨d, rfl⟩ : ∃ z, d = z + 1 := ⟨d - 1, by omega⟩
  refine v_blk 6 (i' := (bif (a_ic .ge x1 ((A 0) 11)) then 29 else 8)) (L' := [some (.ref 22), some (.int x1), none]) (st' := []) (h' := (hM c A R)) (fun _ => rfl) ?_
  rcases Bool.eq_false_or_eq_true (a_ic .ge x1 ((A 0) 11)) with hb | hb
  · have hf := a_bt hb hf
    refine v_it hb ?_
    obtain ⟨rfl, rfl⟩ := m_rt hf
    exact v_ret 1 (fun _ => rfl) ⟨rfl, rfl⟩
  · have hf := a_be hb hf
    refine v_ie hb ?_
    refine v_blk 2 (i' := 10) (L' := [some (.ref 22), some (.int x1), some (.int (0 : Int32))]) (st' := []) (h' := (hM c A R)) (fun _ => rfl) ?_
    exact gt_147_10 hfz N c R (d + 1) hd rc2 hrc2 N x1 (0 : Int32) A _ _ hf
theorem gt_147_2 {fz : Value} {sc : Nat × (Nat → Int32)} (hfz : fz = .null ∨ fz = .retAddr 60) (N : Nat) (c : Nat → aC) (R : List aC) (d : Nat) (hd : 6 ≤ d) : ∀ (n : Nat) (x1 : Int32) (A : mS) (r : Int32) (A' : mS) (hf : g_147_2 N n x1 A = some (r, A')), v_V fz sc d 147 2 [some (.ref 22), some (.int x1), none] [] (hM c A R) (fun rv h' => rv = none ∧ h' = hM c A' R) := by
  intro n
  induction n with
  | zero => intro x1 A r A' hf; cases hf
  | succ n ih =>
    intro x1 A r A' hf
    exact gt_147_2b hfz N c R d hd (g_147_2 N n) ih x1 A r A' hf
set_option maxRecDepth 100000 in
set_option maxHeartbeats 4000000 in
theorem gt_147 {fz : Value} {sc : Nat × (Nat → Int32)} (hfz : fz = .null ∨ fz = .retAddr 60) (N : Nat) (c : Nat → aC) (R : List aC) (d : Nat) (hd : 6 ≤ d) (A : mS) (r : Int32) (A' : mS) (hf : g_147 N  A = some (r, A')) : v_V fz sc d 147 0 [some (.ref 22), none, none] [] (hM c A R) (fun rv h' => rv = none ∧ h' = hM c A' R) := by
  unfold g_147 at hf
  obtain ⟨d, rfl⟩ : ∃ z, d = z + 1 := ⟨d - 1, by omega⟩
  refine v_blk 2 (i' := 2) (L' := [some (.ref 22), some (.int (0 : Int32)), none]) (st' := []) (h' := (hM c A R)) (fun _ => rfl) ?_
  exact gt_147_2 hfz N c R (d + 1) hd N (0 : Int32) A _ _ hf
set_option maxRecDepth 100000 in
set_option maxHeartbeats 4000000 in
theorem gt_148_73 {fz : Value} {sc : Nat × (Nat → Int32)} (hfz : fz = .null ∨ fz = .retAddr 60) (N : Nat) (c : Nat → aC) (R : List aC) (d : Nat) (hd : 1 ≤ d) (t1 : Int32) (A : mS) (r : Int32) (A' : mS) (hf : g_148_73 N t1 A = some (r, A')) : v_V fz sc d 148 73 [some (.ref 22), none, none] [(.int t1), (.ref 22)] (hM c A R) (fun rv h' => rv = none ∧ h' = hM c A' R) := by
  unfold g_148_73 at hf
  obtain ⟨d, rfl⟩ : ∃ z, d = z + 1 := ⟨d - 1, by omega⟩
  obtain ⟨hg, hf⟩ := a_bif hf
  refine v_grd 1 (i' := 74) (L' := [some (.ref 22), none, none]) (st' := []) (h' := (hM c (va_up A 99 (upd (A 99) 15 t1)) R)) (fun _ => rfl) hg ?_
  obtain ⟨A8, hA, hf⟩ := m_st_ok hf
  rw [hA]
  refine v_blk 4 (i' := (bif (a_ic .eq (A8 99 15) (0 : Int32)) then 81 else 78)) (L' := [some (.ref 22), none, none]) (st' := [(.ref 22)]) (h' := (hM c A8 R)) (fun _ => rfl) ?_
  rcases Bool.eq_false_or_eq_true (a_ic .eq (A8 99 15) (0 : Int32)) with hb | hb
  · have hf := a_bt hb hf
    refine v_it hb ?_
    obtain ⟨rfl, rfl⟩ := m_rt hf
    exact v_ret 4 (fun _ => rfl) ⟨rfl, rfl⟩
  · have hf := a_be hb hf
    refine v_ie hb ?_
    obtain ⟨r9, A9, hc, hf⟩ := m_bd_ok hf
    refine v_call 2 (k' := 136) (i' := 80) (E := [some (.ref 22)]) (L' := [some (.ref 22), none, none]) (rest := [(.ref 22)]) (h1 := (hM c A8 R)) (fun _ => rfl) ?_
    refine v_post (gt_136 hfz N c R d (by omega)  A8 _ _ hc) ?_
    rintro rv h' ⟨rfl, rfl⟩
    obtain ⟨rfl, rfl⟩ := m_rt hf
    exact v_ret 3 (fun _ => rfl) ⟨rfl, rfl⟩
set_option maxRecDepth 100000 in
set_option maxHeartbeats 4000000 in
theorem gt_148_42b {fz : Value} {sc : Nat × (Nat → Int32)} (hfz : fz = .null ∨ fz = .retAddr 60) (N : Nat) (c : Nat → aC) (R : List aC) (d : Nat) (hd : 1 ≤ d) (rc42 : Int32 → mS → Option (Int32 × mS)) (hrc42 : ∀ (x1 : Int32) (A : mS) (r : Int32) (A' : mS), rc42 x1 A = some (r, A') → v_V fz sc d 148 42 [some (.ref 22), some (.int x1), none] [] (hM c A R) (fun rv h' => rv = none ∧ h' = hM c A' R)) (x1 : Int32) (A : mS) (r : Int32) (A' : mS) (hf : g_148_42b N rc42 x1 A = some (r, A')) : v_V fz sc d 148 42 [some (.ref 22), some (.int x1), none] [] (hM c A R) (fun rv h' => rv = none ∧ h' = hM c A' R) := by
  unfold g_148_42b at hf
  obtain ⟨d, rfl⟩ : ∃ z, d = z + 1 := ⟨d - 1, by omega⟩
  refine v_blk 3 (i' := (bif (a_ic .ge x1 (4 : Int32)) then 63 else 45)) (L' := [some (.ref 22), some (.int x1), none]) (st' := []) (h' := (hM c A R)) (fun _ => rfl) ?_
  rcases Bool.eq_false_or_eq_true (a_ic .ge x1 (4 : Int32)) with hb | hb
  · have hf := a_bt hb hf
    refine v_it hb ?_
    obtain ⟨hg, hf⟩ := a_bif hf
    refine v_grd 6 (i' := 69) (L' := [some (.ref 22), some (.int x1), none]) (st' := [(.int ((A 6) ((A 99 14)).toNatClampNeg)), (.ref 22)]) (h' := (hM c A R)) (fun _ => rfl) hg ?_
    obtain ⟨y2, hy, hf⟩ := m_li_ok hf
    rw [hy]
    refine v_blk 1 (i' := (bif (a_ic .ne y2 (0 : Int32)) then 72 else 70)) (L' := [some (.ref 22), some (.int x1), none]) (st' := [(.ref 22)]) (h' := (hM c A R)) (fun _ => rfl) ?_
    rcases Bool.eq_false_or_eq_true (a_ic .ne y2 (0 : Int32)) with hb | hb
    · have hf := a_bt hb hf
      refine v_it hb ?_
      refine v_blk 1 (i' := 73) (L' := [some (.ref 22), some (.int x1), none]) (st' := [(.int (0 : Int32)), (.ref 22)]) (h' := (hM c A R)) (fun _ => rfl) ?_
      refine v_weak (L' := [some (.ref 22), none, none]) (show a_wk [some (.ref 22), none, none] [some (.ref 22), some (.int x1), none] from ⟨rfl, ⟨(fun v hv => by cases hv; rfl), ⟨(fun v hv => by cases hv), trivial⟩⟩⟩) ?_
      exact gt_148_73 hfz N c R (d + 1) hd (0 : Int32) A _ _ hf
    · have hf := a_be hb hf
      refine v_ie hb ?_
      refine v_blk 2 (i' := 73) (L' := [some (.ref 22), some (.int x1), none]) (st' := [(.int (1 : Int32)), (.ref 22)]) (h' := (hM c A R)) (fun _ => rfl) ?_
      refine v_weak (L' := [some (.ref 22), none, none]) (show a_wk [some (.ref 22), none, none] [some (.ref 22), some (.int x1), none] from ⟨rfl, ⟨(fun v hv => by cases hv; rfl), ⟨(fun v hv => by cases hv), trivial⟩⟩⟩) ?_
      exact gt_148_73 hfz N c R (d + 1) hd (1 : Int32) A _ _ hf
  · have hf := a_be hb hf
    refine v_ie hb ?_
    obtain ⟨hg, hf⟩ := a_bif hf
    refine v_grd 5 (i' := 50) (L' := [some (.ref 22), some (.int x1), none]) (st' := [(.int ((A 6) (x1).toNatClampNeg)), (.ref 22)]) (h' := (hM c A R)) (fun _ => rfl) hg ?_
    obtain ⟨y3, hy, hf⟩ := m_li_ok hf
    rw [hy]
    obtain ⟨hg, hf⟩ := a_bif hf
    refine v_grd 5 (i' := 55) (L' := [some (.ref 22), some (.int x1), none]) (st' := [(.int ((A 6) ((A 99 14)).toNatClampNeg)), (.int y3), (.ref 22)]) (h' := (hM c A R)) (fun _ => rfl) hg ?_
    obtain ⟨y4, hy, hf⟩ := m_li_ok hf
    rw [hy]
    refine v_blk 1 (i' := (bif (a_ic .le y3 y4) then 58 else 56)) (L' := [some (.ref 22), some (.int x1), none]) (st' := [(.ref 22)]) (h' := (hM c A R)) (fun _ => rfl) ?_
    rcases Bool.eq_false_or_eq_true (a_ic .le y3 y4) with hb | hb
    · have hf := a_bt hb hf
      refine v_it hb ?_
      refine v_blk 5 (i' := 42) (L' := [some (.ref 22), some (.int (x1 + (1 : Int32))), none]) (st' := []) (h' := (hM c (va_up A 99 (upd (A 99) 14 (A 99 14))) R)) (fun _ => rfl) ?_
      exact hrc42 (x1 + (1 : Int32)) (va_up A 99 (upd (A 99) 14 (A 99 14))) _ _ hf
    · have hf := a_be hb hf
      refine v_ie hb ?_
      refine v_blk 5 (i' := 42) (L' := [some (.ref 22), some (.int (x1 + (1 : Int32))), none]) (st' := []) (h' := (hM c (va_up A 99 (upd (A 99) 14 x1)) R)) (fun _ => rfl) ?_
      exact hrc42 (x1 + (1 : Int32)) (va_up A 99 (upd (A 99) 14 x1)) _ _ hf
theorem gt_148_42 {fz : Value} {sc : Nat × (Nat → Int32)} (hfz : fz = .null ∨ fz = .retAddr 60) (N : Nat) (c : Nat → aC) (R : List aC) (d : Nat) (hd : 1 ≤ d) : ∀ (n : Nat) (x1 : Int32) (A : mS) (r : Int32) (A' : mS) (hf : g_148_42 N n x1 A = some (r, A')), v_V fz sc d 148 42 [some (.ref 22), some (.int x1), none] [] (hM c A R) (fun rv h' => rv = none ∧ h' = hM c A' R) := by
  intro n
  induction n with
  | zero => intro x1 A r A' hf; cases hf
  | succ n ih =>
    intro x1 A r A' hf
    exact gt_148_42b hfz N c R d hd (g_148_42 N n) ih x1 A r A' hf
set_option maxRecDepth 100000 in
set_option maxHeartbeats 4000000 in
theorem gt_148_12b {fz : Value} {sc : Nat × (Nat → Int32)} (hfz : fz = .null ∨ fz = .retAddr 60) (N : Nat) (c : Nat → aC) (R : List aC) (d : Nat) (hd : 1 ≤ d) (rc2 : Int32 → mS → Option (Int32 × mS)) (hrc2 : ∀ (x1 : Int32) (A : mS) (r : Int32) (A' : mS), rc2 x1 A = some (r, A') → v_V fz sc d 148 2 [some (.ref 22), some (.int x1), none] [] (hM c A R) (fun rv h' => rv = none ∧ h' = hM c A' R)) (rc12 : Int32 → Int32 → mS → Option (Int32 × mS)) (hrc12 : ∀ (x1 : Int32) (x2 : Int32) (A : mS) (r : Int32) (A' : mS), rc12 x1 x2 A = some (r, A') → v_V fz sc d 148 12 [some (.ref 22), some (.int x1), some (.int x2)] [] (hM c A R) (fun rv h' => rv = none ∧ h' = hM c A' R)) (x1 : Int32) (x2 : Int32) (A : mS) (r : Int32) (A' : mS) (hf : g_148_12b N rc2 rc12 x1 x2 A = some (r, A')) : v_V fz sc d 148 12 [some (.ref 22), some (.int x1), some (.int x2)] [] (hM c A R) (fun rv h' => rv = none ∧ h' = hM c A' R) := by
  unfold g_148_12b at hf
  obtain ⟨d, rfl⟩ : ∃ z, d = z + 1 := ⟨d - 1, by omega⟩
  refine v_blk 6 (i' := (bif (a_ic .ge x2 ((A 0) 11)) then 35 else 18)) (L' := [some (.ref 22), some (.int x1), some (.int x2)]) (st' := []) (h' := (hM c A R)) (fun _ => rfl) ?_
  rcases Bool.eq_false_or_eq_true (a_ic .ge x2 ((A 0) 11)) with hb | hb
  · have hf := a_bt hb hf
    refine v_it hb ?_
    refine v_blk 2 (i' := 2) (L' := [some (.ref 22), some (.int (x1 + (1 : Int32))), some (.int x2)]) (st' := []) (h' := (hM c A R)) (fun _ => rfl) ?_
    refine v_weak (L' := [some (.ref 22), some (.int (x1 + (1 : Int32))), none]) (show a_wk [some (.ref 22), some (.int (x1 + (1 : Int32))), none] [some (.ref 22), some (.int (x1 + (1 : Int32))), some (.int x2)] from ⟨rfl, ⟨rfl, ⟨(fun v hv => by cases hv; rfl), trivial⟩⟩⟩) ?_
    exact hrc2 (x1 + (1 : Int32)) A _ _ hf
  · have hf := a_be hb hf
    refine v_ie hb ?_
    obtain ⟨hg, hf⟩ := a_bif hf
    refine v_grd 5 (i' := 23) (L' := [some (.ref 22), some (.int x1), some (.int x2)]) (st' := [(.int ((A 6) (x1).toNatClampNeg)), (.int x1), (.ref 29)]) (h' := (hM c A R)) (fun _ => rfl) hg ?_
    obtain ⟨y5, hy, hf⟩ := m_li_ok hf
    rw [hy]
    obtain ⟨hg, hf⟩ := a_bif hf
    refine v_grd 8 (i' := 31) (L' := [some (.ref 22), some (.int x1), some (.int x2)]) (st' := [(.int ((A 5) ((((4 : Int32) * x2) + x1)).toNatClampNeg)), (.int y5), (.int x1), (.ref 29)]) (h' := (hM c A R)) (fun _ => rfl) hg ?_
    obtain ⟨y6, hy, hf⟩ := m_li_ok hf
    rw [hy]
    obtain ⟨hg, hf⟩ := a_bif hf
    refine v_grd 2 (i' := 33) (L' := [some (.ref 22), some (.int x1), some (.int x2)]) (st' := []) (h' := (hM c (va_up A 6 (upd (A 6) (x1).toNatClampNeg (y5 + y6))) R)) (fun _ => rfl) hg ?_
    obtain ⟨A7, hA, hf⟩ := m_st_ok hf
    rw [hA]
    refine v_blk 2 (i' := 12) (L' := [some (.ref 22), some (.int x1), some (.int (x2 + (1 : Int32)))]) (st' := []) (h' := (hM c A7 R)) (fun _ => rfl) ?_
    exact hrc12 x1 (x2 + (1 : Int32)) A7 _ _ hf
theorem gt_148_12 {fz : Value} {sc : Nat × (Nat → Int32)} (hfz : fz = .null ∨ fz = .retAddr 60) (N : Nat) (c : Nat → aC) (R : List aC) (d : Nat) (hd : 1 ≤ d) (rc2 : Int32 → mS → Option (Int32 × mS)) (hrc2 : ∀ (x1 : Int32) (A : mS) (r : Int32) (A' : mS), rc2 x1 A = some (r, A') → v_V fz sc d 148 2 [some (.ref 22), some (.int x1), none] [] (hM c A R) (fun rv h' => rv = none ∧ h' = hM c A' R)) : ∀ (n : Nat) (x1 : Int32) (x2 : Int32) (A : mS) (r : Int32) (A' : mS) (hf : g_148_12 N rc2 n x1 x2 A = some (r, A')), v_V fz sc d 148 12 [some (.ref 22), some (.int x1), some (.int x2)] [] (hM c A R) (fun rv h' => rv = none ∧ h' = hM c A' R) := by
  intro n
  induction n with
  | zero => intro x1 x2 A r A' hf; cases hf
  | succ n ih =>
    intro x1 x2 A r A' hf
    exact gt_148_12b hfz N c R d hd rc2 hrc2 (g_148_12 N rc2 n) ih x1 x2 A r A' hf
set_option maxRecDepth 100000 in
set_option maxHeartbeats 4000000 in
theorem gt_148_2b {fz : Value} {sc : Nat × (Nat → Int32)} (hfz : fz = .null ∨ fz = .retAddr 60) (N : Nat) (c : Nat → aC) (R : List aC) (d : Nat) (hd : 1 ≤ d) (rc2 : Int32 → mS → Option (Int32 × mS)) (hrc2 : ∀ (x1 : Int32) (A : mS) (r : Int32) (A' : mS), rc2 x1 A = some (r, A') → v_V fz sc d 148 2 [some (.ref 22), some (.int x1), none] [] (hM c A R) (fun rv h' => rv = none ∧ h' = hM c A' R)) (x1 : Int32) (A : mS) (r : Int32) (A' : mS) (hf : g_148_2b N rc2 x1 A = some (r, A')) : v_V fz sc d 148 2 [some (.ref 22), some (.int x1), none] [] (hM c A R) (fun rv h' => rv = none ∧ h' = hM c A' R) := by
  unfold g_148_2b at hf
  obtain ⟨d, rfl⟩ : ∃ z, d = z + 1 := ⟨d - 1, by omega⟩
  refine v_blk 3 (i' := (bif (a_ic .ge x1 (4 : Int32)) then 37 else 5)) (L' := [some (.ref 22), some (.int x1), none]) (st' := []) (h' := (hM c A R)) (fun _ => rfl) ?_
  rcases Bool.eq_false_or_eq_true (a_ic .ge x1 (4 : Int32)) with hb | hb
  · have hf := a_bt hb hf
    refine v_it hb ?_
    refine v_blk 5 (i' := 42) (L' := [some (.ref 22), some (.int (1 : Int32)), none]) (st' := []) (h' := (hM c (va_up A 99 (upd (A 99) 14 (0 : Int32))) R)) (fun _ => rfl) ?_
    exact gt_148_42 hfz N c R (d + 1) hd N (1 : Int32) (va_up A 99 (upd (A 99) 14 (0 : Int32))) _ _ hf
  · have hf := a_be hb hf
    refine v_ie hb ?_
    obtain ⟨hg, hf⟩ := a_bif hf
    refine v_grd 5 (i' := 10) (L' := [some (.ref 22), some (.int x1), none]) (st' := []) (h' := (hM c (va_up A 6 (upd (A 6) (x1).toNatClampNeg (0 : Int32))) R)) (fun _ => rfl) hg ?_
    obtain ⟨A1, hA, hf⟩ := m_st_ok hf
    rw [hA]
    refine v_blk 2 (i' := 12) (L' := [some (.ref 22), some (.int x1), some (.int (0 : Int32))]) (st' := []) (h' := (hM c A1 R)) (fun _ => rfl) ?_
    exact gt_148_12 hfz N c R (d + 1) hd rc2 hrc2 N x1 (0 : Int32) A1 _ _ hf
theorem gt_148_2 {fz : Value} {sc : Nat × (Nat → Int32)} (hfz : fz = .null ∨ fz = .retAddr 60) (N : Nat) (c : Nat → aC) (R : List aC) (d : Nat) (hd : 1 ≤ d) : ∀ (n : Nat) (x1 : Int32) (A : mS) (r : Int32) (A' : mS) (hf : g_148_2 N n x1 A = some (r, A')), v_V fz sc d 148 2 [some (.ref 22), some (.int x1), none] [] (hM c A R) (fun rv h' => rv = none ∧ h' = hM c A' R) := by
  intro n
  induction n with
  | zero => intro x1 A r A' hf; cases hf
  | succ n ih =>
    intro x1 A r A' hf
    exact gt_148_2b hfz N c R d hd (g_148_2 N n) ih x1 A r A' hf
set_option maxRecDepth 100000 in
set_option maxHeartbeats 4000000 in
theorem gt_148 {fz : Value} {sc : Nat × (Nat → Int32)} (hfz : fz = .null ∨ fz = .retAddr 60) (N : Nat) (c : Nat → aC) (R : List aC) (d : Nat) (hd : 1 ≤ d) (A : mS) (r : Int32) (A' : mS) (hf : g_148 N  A = some (r, A')) : v_V fz sc d 148 0 [some (.ref 22), none, none] [] (hM c A R) (fun rv h' => rv = none ∧ h' = hM c A' R) := by
  unfold g_148 at hf
  obtain ⟨d, rfl⟩ : ∃ z, d = z + 1 := ⟨d - 1, by omega⟩
  refine v_blk 2 (i' := 2) (L' := [some (.ref 22), some (.int (0 : Int32)), none]) (st' := []) (h' := (hM c A R)) (fun _ => rfl) ?_
  exact gt_148_2 hfz N c R (d + 1) hd N (0 : Int32) A _ _ hf
