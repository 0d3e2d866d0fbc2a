/-! 32.mthm, piece 5: runs of the model's methods are their mirrored functions (by program) -/
set_option maxRecDepth 100000 in
set_option maxHeartbeats 4000000 in
theorem gt_164 {fz : Value} {sc : Nat × (Nat → Int32)} (hfz : fz = .null ∨ fz = .retAddr 60) (N : Nat) (c : Nat → aC) (R : List aC) (d : Nat) (hd : 8 ≤ d) (x1 : Int32) (A : mS) (r : Int64) (A' : mS) (hf : g_164 N x1 A = some (r, A')) : v_V fz sc d 164 0 [some (.ref 22), some (.int x1), none, none, none, none, none, none] [] (hM c A R) (fun rv h' => rv = some (.long r) ∧ h' = hM c A' R) := by
  unfold g_164 at hf
  obtain ⟨d, rfl⟩ : ∃ z, d = z + 1 := ⟨d - 1, by omega⟩
  obtain ⟨r1, A1, hc, hf⟩ := m_bd_ok hf
  refine v_call 4 (k' := 112) (i' := 4) (E := [some (.int x1), some (.int (1 : Int32)), some (.int (40 : Int32))]) (L' := [some (.ref 22), some (.int x1), none, none, none, none, none, none]) (rest := []) (h1 := (hM c A R)) (fun _ => rfl) ?_
  refine v_post (gt_112 hfz N c R d (by omega) x1 (1 : Int32) (40 : Int32) A _ _ hc) ?_
  rintro rv h' ⟨rfl, rfl⟩
  refine v_blk 1 (i' := (bif (a_ic .ne r1 (0 : Int32)) then 7 else 5)) (L' := [some (.ref 22), some (.int x1), none, none, none, none, none, none]) (st' := []) (h' := (hM c A1 R)) (fun _ => rfl) ?_
  rcases Bool.eq_false_or_eq_true (a_ic .ne r1 (0 : Int32)) with hb | hb
  · have hf := a_bt hb hf
    refine v_it hb ?_
    obtain ⟨r2, A2, hc, hf⟩ := m_bd_ok hf
    refine v_call 4 (k' := 115) (i' := 11) (E := [some (.ref 22), none]) (L' := [some (.ref 22), some (.int x1), some (.long (0 : Int64)), none, none, none, none, none]) (rest := []) (h1 := (hM c A1 R)) (fun _ => rfl) ?_
    refine v_post (gt_115 hfz N c R d (by omega)  A1 _ _ hc) ?_
    rintro rv h' ⟨rfl, rfl⟩
    refine v_blk 2 (i' := 13) (L' := [some (.ref 22), some (.int x1), some (.long (0 : Int64)), none, some (.int (0 : Int32)), none, none, none]) (st' := []) (h' := (hM c A2 R)) (fun _ => rfl) ?_
    exact gt_164_13 hfz N c R (d + 1) hd N x1 (0 : Int64) (0 : Int32) A2 _ _ hf
  · have hf := a_be hb hf
    refine v_ie hb ?_
    obtain ⟨rfl, rfl⟩ := m_rt hf
    exact v_ret 2 (fun _ => rfl) ⟨rfl, rfl⟩
set_option maxRecDepth 100000 in
set_option maxHeartbeats 4000000 in
theorem gt_165 {fz : Value} {sc : Nat × (Nat → Int32)} (hfz : fz = .null ∨ fz = .retAddr 60) (N : Nat) (c : Nat → aC) (R : List aC) (d : Nat) (hd : 2 ≤ d) (x1 : Int32) (A : mS) (r : Int32) (A' : mS) (hf : g_165 N x1 A = some (r, A')) : v_V fz sc d 165 0 [some (.ref 22), some (.int x1)] [] (hM c A R) (fun rv h' => rv = some (.int r) ∧ h' = hM c A' R) := by
  unfold g_165 at hf
  obtain ⟨d, rfl⟩ : ∃ z, d = z + 1 := ⟨d - 1, by omega⟩
  refine v_blk 3 (i' := (bif (a_ic .ne x1 (-1 : Int32)) then 10 else 3)) (L' := [some (.ref 22), some (.int x1)]) (st' := []) (h' := (hM c A R)) (fun _ => rfl) ?_
  rcases Bool.eq_false_or_eq_true (a_ic .ne x1 (-1 : Int32)) with hb | hb
  · have hf := a_bt hb hf
    refine v_it hb ?_
    obtain ⟨r1, A1, hc, hf⟩ := m_bd_ok hf
    refine v_call 2 (k' := 113) (i' := 12) (E := [some (.int x1)]) (L' := [some (.ref 22), some (.int x1)]) (rest := []) (h1 := (hM c A R)) (fun _ => rfl) ?_
    refine v_post (gt_113 hfz N c R d (by omega) x1 A _ _ hc) ?_
    rintro rv h' ⟨rfl, rfl⟩
    refine v_blk 1 (i' := (bif (a_ic .ne r1 (0 : Int32)) then 15 else 13)) (L' := [some (.ref 22), some (.int x1)]) (st' := []) (h' := (hM c A1 R)) (fun _ => rfl) ?_
    rcases Bool.eq_false_or_eq_true (a_ic .ne r1 (0 : Int32)) with hb | hb
    · have hf := a_bt hb hf
      refine v_it hb ?_
      refine v_blk 6 (i' := (bif (a_ic .ne ((A1 0) 15) (12 : Int32)) then 23 else 21)) (L' := [some (.ref 22), some (.int x1)]) (st' := []) (h' := (hM c A1 R)) (fun _ => rfl) ?_
      rcases Bool.eq_false_or_eq_true (a_ic .ne ((A1 0) 15) (12 : Int32)) with hb | hb
      · have hf := a_bt hb hf
        refine v_it hb ?_
        obtain ⟨hg, hf⟩ := a_bif hf
        refine v_grd 10 (i' := 33) (L' := [some (.ref 22), some (.int x1)]) (st' := []) (h' := (hM c (va_up A1 0 (upd (A1 0) (((220 : Int32) + ((A1 0) 15))).toNatClampNeg x1)) R)) (fun _ => rfl) hg ?_
        obtain ⟨A2, hA, hf⟩ := m_st_ok hf
        rw [hA]
        obtain ⟨rfl, rfl⟩ := m_rt hf
        exact v_ret 13 (fun _ => rfl) ⟨rfl, rfl⟩
      · have hf := a_be hb hf
        refine v_ie hb ?_
        obtain ⟨rfl, rfl⟩ := m_rt hf
        exact v_ret 2 (fun _ => rfl) ⟨rfl, rfl⟩
    · have hf := a_be hb hf
      refine v_ie hb ?_
      obtain ⟨rfl, rfl⟩ := m_rt hf
      exact v_ret 2 (fun _ => rfl) ⟨rfl, rfl⟩
  · have hf := a_be hb hf
    refine v_ie hb ?_
    obtain ⟨rfl, rfl⟩ := m_rt hf
    exact v_ret 7 (fun _ => rfl) ⟨rfl, rfl⟩
set_option maxRecDepth 100000 in
set_option maxHeartbeats 4000000 in
theorem gt_166_32 {fz : Value} {sc : Nat × (Nat → Int32)} (hfz : fz = .null ∨ fz = .retAddr 60) (N : Nat) (c : Nat → aC) (R : List aC) (d : Nat) (hd : 8 ≤ d) (x1 : Int32) (A : mS) (r : Int32) (A' : mS) (hf : g_166_32 N x1 A = some (r, A')) : v_V fz sc d 166 32 [some (.ref 22), some (.int x1), none] [] (hM c A R) (fun rv h' => rv = some (.int r) ∧ h' = hM c A' R) := by
  unfold g_166_32 at hf
  obtain ⟨d, rfl⟩ : ∃ z, d = z + 1 := ⟨d - 1, by omega⟩
  obtain ⟨r4, A4, hc, hf⟩ := m_bd_ok hf
  refine v_call 2 (k' := 116) (i' := 34) (E := [some (.ref 22), none]) (L' := [some (.ref 22), some (.int x1), none]) (rest := []) (h1 := (hM c A R)) (fun _ => rfl) ?_
  refine v_post (gt_116 hfz N c R d (by omega)  A _ _ hc) ?_
  rintro rv h' ⟨rfl, rfl⟩
  obtain ⟨rfl, rfl⟩ := m_rt hf
  exact v_ret 2 (fun _ => rfl) ⟨rfl, rfl⟩
set_option maxRecDepth 100000 in
set_option maxHeartbeats 4000000 in
theorem gt_166_6b {fz : Value} {sc : Nat × (Nat → Int32)} (hfz : fz = .null ∨ fz = .retAddr 60) (N : Nat) (c : Nat → aC) (R : List aC) (d : Nat) (hd : 8 ≤ d) (rc6 : Int32 → Int32 → mS → Option (Int32 × mS)) (hrc6 : ∀ (x1 : Int32) (x2 : Int32) (A : mS) (r : Int32) (A' : mS), rc6 x1 x2 A = some (r, A') → v_V fz sc d 166 6 [some (.ref 22), some (.int x1), some (.int x2)] [] (hM c A R) (fun rv h' => rv = some (.int r) ∧ h' = hM c A' R)) (x1 : Int32) (x2 : Int32) (A : mS) (r : Int32) (A' : mS) (hf : g_166_6b N rc6 x1 x2 A = some (r, A')) : v_V fz sc d 166 6 [some (.ref 22), some (.int x1), some (.int x2)] [] (hM c A R) (fun rv h' => rv = some (.int r) ∧ h' = hM c A' R) := by
  unfold g_166_6b at hf
  obtain ⟨d, rfl⟩ : ∃ z, d = z + 1 := ⟨d - 1, by omega⟩
  refine v_blk 6 (i' := (bif (a_ic .ge x2 ((A 0) 15)) then 32 else 12)) (L' := [some (.ref 22), some (.int x1), some (.int x2)]) (st' := []) (h' := (hM c A R)) (fun _ => rfl) ?_
  rcases Bool.eq_false_or_eq_true (a_ic .ge x2 ((A 0) 15)) with hb | hb
  · have hf := a_bt hb hf
    refine v_it hb ?_
    refine v_weak (L' := [some (.ref 22), some (.int x1), none]) (show a_wk [some (.ref 22), some (.int x1), none] [some (.ref 22), some (.int x1), some (.int x2)] from ⟨rfl, ⟨rfl, ⟨(fun v hv => by cases hv; rfl), trivial⟩⟩⟩) ?_
    exact gt_166_32 hfz N c R (d + 1) hd x1 A _ _ hf
  · have hf := a_be hb hf
    refine v_ie hb ?_
    refine v_blk 3 (i' := (bif (a_ic .ne x1 (-5 : Int32)) then 32 else 15)) (L' := [some (.ref 22), some (.int x1), some (.int x2)]) (st' := []) (h' := (hM c A R)) (fun _ => rfl) ?_
    rcases Bool.eq_false_or_eq_true (a_ic .ne x1 (-5 : Int32)) with hb | hb
    · have hf := a_bt hb hf
      refine v_it hb ?_
      refine v_weak (L' := [some (.ref 22), some (.int x1), none]) (show a_wk [some (.ref 22), some (.int x1), none] [some (.ref 22), some (.int x1), some (.int x2)] from ⟨rfl, ⟨rfl, ⟨(fun v hv => by cases hv; rfl), trivial⟩⟩⟩) ?_
      exact gt_166_32 hfz N c R (d + 1) hd x1 A _ _ hf
    · have hf := a_be hb hf
      refine v_ie hb ?_
      obtain ⟨r2, A2, hc, hf⟩ := m_bd_ok hf
      refine v_call 2 (k' := 152) (i' := 17) (E := [some (.ref 22), none, none, none]) (L' := [some (.ref 22), some (.int x1), some (.int x2)]) (rest := []) (h1 := (hM c A R)) (fun _ => rfl) ?_
      refine v_post (gt_152 hfz N c R d (by omega)  A _ _ hc) ?_
      rintro rv h' ⟨rfl, rfl⟩
      obtain ⟨hg, hf⟩ := a_bif hf
      refine v_grd 8 (i' := 25) (L' := [some (.ref 22), some (.int x1), some (.int x2)]) (st' := [(.int ((A2 0) (((220 : Int32) + x2)).toNatClampNeg)), (.int (A2 99 14))]) (h' := (hM c A2 R)) (fun _ => rfl) hg ?_
      obtain ⟨y3, hy, hf⟩ := m_li_ok hf
      rw [hy]
      refine v_blk 1 (i' := (bif (a_ic .eq (A2 99 14) y3) then 28 else 26)) (L' := [some (.ref 22), some (.int x1), some (.int x2)]) (st' := []) (h' := (hM c A2 R)) (fun _ => rfl) ?_
      rcases Bool.eq_false_or_eq_true (a_ic .eq (A2 99 14) y3) with hb | hb
      · have hf := a_bt hb hf
        refine v_it hb ?_
        refine v_blk 4 (i' := 6) (L' := [some (.ref 22), some (.int x1), some (.int (x2 + (1 : Int32)))]) (st' := []) (h' := (hM c A2 R)) (fun _ => rfl) ?_
        exact hrc6 x1 (x2 + (1 : Int32)) A2 _ _ hf
      · have hf := a_be hb hf
        refine v_ie hb ?_
        refine v_blk 5 (i' := 6) (L' := [some (.ref 22), some (.int x2), some (.int (x2 + (1 : Int32)))]) (st' := []) (h' := (hM c A2 R)) (fun _ => rfl) ?_
        exact hrc6 x2 (x2 + (1 : Int32)) A2 _ _ hf
theorem gt_166_6 {fz : Value} {sc : Nat × (Nat → Int32)} (hfz : fz = .null ∨ fz = .retAddr 60) (N : Nat) (c : Nat → aC) (R : List aC) (d : Nat) (hd : 8 ≤ d) : ∀ (n : Nat) (x1 : Int32) (x2 : Int32) (A : mS) (r : Int32) (A' : mS) (hf : g_166_6 N n x1 x2 A = some (r, A')), v_V fz sc d 166 6 [some (.ref 22), some (.int x1), some (.int x2)] [] (hM c A R) (fun rv h' => rv = some (.int r) ∧ h' = hM c A' R) := by
  intro n
  induction n with
  | zero => intro x1 x2 A r A' hf; cases hf
  | succ n ih =>
    intro x1 x2 A r A' hf
    exact gt_166_6b hfz N c R d hd (g_166_6 N n) ih x1 x2 A r A' hf
set_option maxRecDepth 100000 in
set_option maxHeartbeats 4000000 in
theorem gt_166 {fz : Value} {sc : Nat × (Nat → Int32)} (hfz : fz = .null ∨ fz = .retAddr 60) (N : Nat) (c : Nat → aC) (R : List aC) (d : Nat) (hd : 8 ≤ d) (A : mS) (r : Int32) (A' : mS) (hf : g_166 N  A = some (r, A')) : v_V fz sc d 166 0 [some (.ref 22), none, none] [] (hM c A R) (fun rv h' => rv = some (.int r) ∧ h' = hM c A' R) := by
  unfold g_166 at hf
  obtain ⟨d, rfl⟩ : ∃ z, d = z + 1 := ⟨d - 1, by omega⟩
  obtain ⟨r1, A1, hc, hf⟩ := m_bd_ok hf
  refine v_call 4 (k' := 115) (i' := 4) (E := [some (.ref 22), none]) (L' := [some (.ref 22), some (.int (-5 : Int32)), none]) (rest := []) (h1 := (hM c A R)) (fun _ => rfl) ?_
  refine v_post (gt_115 hfz N c R d (by omega)  A _ _ hc) ?_
  rintro rv h' ⟨rfl, rfl⟩
  refine v_blk 2 (i' := 6) (L' := [some (.ref 22), some (.int (-5 : Int32)), some (.int (0 : Int32))]) (st' := []) (h' := (hM c A1 R)) (fun _ => rfl) ?_
  exact gt_166_6 hfz N c R (d + 1) hd N (-5 : Int32) (0 : Int32) A1 _ _ hf
set_option maxRecDepth 100000 in
set_option maxHeartbeats 4000000 in
theorem gt_167 {fz : Value} {sc : Nat × (Nat → Int32)} (hfz : fz = .null ∨ fz = .retAddr 60) (N : Nat) (c : Nat → aC) (R : List aC) (d : Nat) (hd : 0 ≤ d) (x1 : Int32) (A : mS) (r : Int32) (A' : mS) (hf : g_167 N x1 A = some (r, A')) : v_V fz sc d 167 0 [some (.ref 22), some (.int x1)] [] (hM c A R) (fun rv h' => rv = none ∧ h' = hM c A' R) := by
  unfold g_167 at hf
  refine v_blk 4 (i' := (bif (a_ic .ge (A 99 21) (20 : Int32)) then 10 else 4)) (L' := [some (.ref 22), some (.int x1)]) (st' := []) (h' := (hM c A R)) (fun _ => rfl) ?_
  rcases Bool.eq_false_or_eq_true (a_ic .ge (A 99 21) (20 : Int32)) with hb | hb
  · have hf := a_bt hb hf
    refine v_it hb ?_
    obtain ⟨rfl, rfl⟩ := m_rt hf
    exact v_ret 7 (fun _ => rfl) ⟨rfl, rfl⟩
  · have hf := a_be hb hf
    refine v_ie hb ?_
    obtain ⟨hg, hf⟩ := a_bif hf
    refine v_grd 6 (i' := 10) (L' := [some (.ref 22), some (.int x1)]) (st' := []) (h' := (hM c (va_up A 9 (upd (A 9) ((A 99 21)).toNatClampNeg x1)) R)) (fun _ => rfl) hg ?_
    obtain ⟨A1, hA, hf⟩ := m_st_ok hf
    rw [hA]
    obtain ⟨rfl, rfl⟩ := m_rt hf
    exact v_ret 7 (fun _ => rfl) ⟨rfl, rfl⟩
set_option maxRecDepth 100000 in
set_option maxHeartbeats 4000000 in
theorem gt_168_11 {fz : Value} {sc : Nat × (Nat → Int32)} (hfz : fz = .null ∨ fz = .retAddr 60) (N : Nat) (c : Nat → aC) (R : List aC) (d : Nat) (hd : 0 ≤ d) (x0 : Int32) (x1 : Int32) (A : mS) (r : Int32) (A' : mS) (hf : g_168_11 N x0 x1 A = some (r, A')) : v_V fz sc d 168 11 [some (.int x0), some (.int x1)] [] (hM c A R) (fun rv h' => rv = some (.int r) ∧ h' = hM c A' R) := by
  unfold g_168_11 at hf
  refine v_blk 3 (i' := (bif (a_ic .ne x1 (2 : Int32)) then 22 else 14)) (L' := [some (.int x0), some (.int x1)]) (st' := []) (h' := (hM c A R)) (fun _ => rfl) ?_
  rcases Bool.eq_false_or_eq_true (a_ic .ne x1 (2 : Int32)) with hb | hb
  · have hf := a_bt hb hf
    refine v_it hb ?_
    obtain ⟨rfl, rfl⟩ := m_rt hf
    exact v_ret 2 (fun _ => rfl) ⟨rfl, rfl⟩
  · have hf := a_be hb hf
    refine v_ie hb ?_
    refine v_blk 3 (i' := (bif (a_ic .eq x0 (5 : Int32)) then 20 else 17)) (L' := [some (.int x0), some (.int x1)]) (st' := []) (h' := (hM c A R)) (fun _ => rfl) ?_
    rcases Bool.eq_false_or_eq_true (a_ic .eq x0 (5 : Int32)) with hb | hb
    · have hf := a_bt hb hf
      refine v_it hb ?_
      obtain ⟨rfl, rfl⟩ := m_rt hf
      exact v_ret 3 (fun _ => rfl) ⟨rfl, rfl⟩
    · have hf := a_be hb hf
      refine v_ie hb ?_
      refine v_blk 3 (i' := (bif (a_ic .ne x0 (6 : Int32)) then 22 else 20)) (L' := [some (.int x0), some (.int x1)]) (st' := []) (h' := (hM c A R)) (fun _ => rfl) ?_
      rcases Bool.eq_false_or_eq_true (a_ic .ne x0 (6 : Int32)) with hb | hb
      · have hf := a_bt hb hf
        refine v_it hb ?_
        obtain ⟨rfl, rfl⟩ := m_rt hf
        exact v_ret 2 (fun _ => rfl) ⟨rfl, rfl⟩
      · have hf := a_be hb hf
        refine v_ie hb ?_
        obtain ⟨rfl, rfl⟩ := m_rt hf
        exact v_ret 3 (fun _ => rfl) ⟨rfl, rfl⟩
set_option maxRecDepth 100000 in
set_option maxHeartbeats 4000000 in
theorem gt_168 {fz : Value} {sc : Nat × (Nat → Int32)} (hfz : fz = .null ∨ fz = .retAddr 60) (N : Nat) (c : Nat → aC) (R : List aC) (d : Nat) (hd : 0 ≤ d) (x0 : Int32) (x1 : Int32) (A : mS) (r : Int32) (A' : mS) (hf : g_168 N x0 x1 A = some (r, A')) : v_V fz sc d 168 0 [some (.int x0), some (.int x1)] [] (hM c A R) (fun rv h' => rv = some (.int r) ∧ h' = hM c A' R) := by
  unfold g_168 at hf
  refine v_blk 2 (i' := (bif (a_ic .eq x1 (0 : Int32)) then 20 else 2)) (L' := [some (.int x0), some (.int x1)]) (st' := []) (h' := (hM c A R)) (fun _ => rfl) ?_
  rcases Bool.eq_false_or_eq_true (a_ic .eq x1 (0 : Int32)) with hb | hb
  · have hf := a_bt hb hf
    refine v_it hb ?_
    obtain ⟨rfl, rfl⟩ := m_rt hf
    exact v_ret 3 (fun _ => rfl) ⟨rfl, rfl⟩
  · have hf := a_be hb hf
    refine v_ie hb ?_
    refine v_blk 3 (i' := (bif (a_ic .eq x1 x0) then 20 else 5)) (L' := [some (.int x0), some (.int x1)]) (st' := []) (h' := (hM c A R)) (fun _ => rfl) ?_
    rcases Bool.eq_false_or_eq_true (a_ic .eq x1 x0) with hb | hb
    · have hf := a_bt hb hf
      refine v_it hb ?_
      obtain ⟨rfl, rfl⟩ := m_rt hf
      exact v_ret 3 (fun _ => rfl) ⟨rfl, rfl⟩
    · have hf := a_be hb hf
      refine v_ie hb ?_
      refine v_blk 3 (i' := (bif (a_ic .ne x1 (1 : Int32)) then 11 else 8)) (L' := [some (.int x0), some (.int x1)]) (st' := []) (h' := (hM c A R)) (fun _ => rfl) ?_
      rcases Bool.eq_false_or_eq_true (a_ic .ne x1 (1 : Int32)) with hb | hb
      · have hf := a_bt hb hf
        refine v_it hb ?_
        exact gt_168_11 hfz N c R d hd x0 x1 A _ _ hf
      · have hf := a_be hb hf
        refine v_ie hb ?_
        refine v_blk 3 (i' := (bif (a_ic .eq x0 (4 : Int32)) then 20 else 11)) (L' := [some (.int x0), some (.int x1)]) (st' := []) (h' := (hM c A R)) (fun _ => rfl) ?_
        rcases Bool.eq_false_or_eq_true (a_ic .eq x0 (4 : Int32)) with hb | hb
        · have hf := a_bt hb hf
          refine v_it hb ?_
          obtain ⟨rfl, rfl⟩ := m_rt hf
          exact v_ret 3 (fun _ => rfl) ⟨rfl, rfl⟩
        · have hf := a_be hb hf
          refine v_ie hb ?_
          exact gt_168_11 hfz N c R d hd x0 x1 A _ _ hf
set_option maxRecDepth 100000 in
set_option maxHeartbeats 4000000 in
theorem gt_169 {fz : Value} {sc : Nat × (Nat → Int32)} (hfz : fz = .null ∨ fz = .retAddr 60) (N : Nat) (c : Nat → aC) (R : List aC) (d : Nat) (hd : 1 ≤ d) (x1 : Int32) (A : mS) (r : Int32) (A' : mS) (hf : g_169 N x1 A = some (r, A')) : v_V fz sc d 169 0 [some (.ref 22), some (.int x1)] [] (hM c A R) (fun rv h' => rv = some (.int r) ∧ h' = hM c A' R) := by
  unfold g_169 at hf
  obtain ⟨d, rfl⟩ : ∃ z, d = z + 1 := ⟨d - 1, by omega⟩
  obtain ⟨r1, A1, hc, hf⟩ := m_bd_ok hf
  refine v_call 3 (k' := 167) (i' := 3) (E := [some (.ref 22), some (.int (1 : Int32))]) (L' := [some (.ref 22), some (.int x1)]) (rest := []) (h1 := (hM c A R)) (fun _ => rfl) ?_
  refine v_post (gt_167 hfz N c R d (by omega) (1 : Int32) A _ _ hc) ?_
  rintro rv h' ⟨rfl, rfl⟩
  obtain ⟨rfl, rfl⟩ := m_rt hf
  exact v_ret 5 (fun _ => rfl) ⟨rfl, rfl⟩
set_option maxRecDepth 100000 in
set_option maxHeartbeats 4000000 in
theorem gt_170 {fz : Value} {sc : Nat × (Nat → Int32)} (hfz : fz = .null ∨ fz = .retAddr 60) (N : Nat) (c : Nat → aC) (R : List aC) (d : Nat) (hd : 2 ≤ d) (x1 : Int32) (A : mS) (r : Int32) (A' : mS) (hf : g_170 N x1 A = some (r, A')) : v_V fz sc d 170 0 [some (.ref 22), some (.int x1)] [] (hM c A R) (fun rv h' => rv = some (.int r) ∧ h' = hM c A' R) := by
  unfold g_170 at hf
  obtain ⟨d, rfl⟩ : ∃ z, d = z + 1 := ⟨d - 1, by omega⟩
  obtain ⟨r1, A1, hc, hf⟩ := m_bd_ok hf
  refine v_call 4 (k' := 168) (i' := 4) (E := [some (.int (A 99 22)), some (.int (1 : Int32))]) (L' := [some (.ref 22), some (.int x1)]) (rest := []) (h1 := (hM c A R)) (fun _ => rfl) ?_
  refine v_post (gt_168 hfz N c R d (by omega) (A 99 22) (1 : Int32) A _ _ hc) ?_
  rintro rv h' ⟨rfl, rfl⟩
  refine v_blk 1 (i' := (bif (a_ic .eq r1 (0 : Int32)) then 14 else 5)) (L' := [some (.ref 22), some (.int x1)]) (st' := []) (h' := (hM c A1 R)) (fun _ => rfl) ?_
  rcases Bool.eq_false_or_eq_true (a_ic .eq r1 (0 : Int32)) with hb | hb
  · have hf := a_bt hb hf
    refine v_it hb ?_
    refine v_blk 4 (i' := (bif (a_ic .ne (A1 99 22) (5 : Int32)) then 28 else 18)) (L' := [some (.ref 22), some (.int x1)]) (st' := []) (h' := (hM c A1 R)) (fun _ => rfl) ?_
    rcases Bool.eq_false_or_eq_true (a_ic .ne (A1 99 22) (5 : Int32)) with hb | hb
    · have hf := a_bt hb hf
      refine v_it hb ?_
      obtain ⟨r2, A2, hc, hf⟩ := m_bd_ok hf
      refine v_call 3 (k' := 169) (i' := 31) (E := [some (.ref 22), some (.int x1)]) (L' := [some (.ref 22), some (.int x1)]) (rest := []) (h1 := (hM c A1 R)) (fun _ => rfl) ?_
      refine v_post (gt_169 hfz N c R d (by omega) x1 A1 _ _ hc) ?_
      rintro rv h' ⟨rfl, rfl⟩
      obtain ⟨rfl, rfl⟩ := m_rt hf
      exact v_ret 1 (fun _ => rfl) ⟨rfl, rfl⟩
    · have hf := a_be hb hf
      refine v_ie hb ?_
      obtain ⟨r3, A3, hc, hf⟩ := m_bd_ok hf
      refine v_call 3 (k' := 167) (i' := 21) (E := [some (.ref 22), some (.int (51 : Int32))]) (L' := [some (.ref 22), some (.int x1)]) (rest := []) (h1 := (hM c A1 R)) (fun _ => rfl) ?_
      refine v_post (gt_167 hfz N c R d (by omega) (51 : Int32) A1 _ _ hc) ?_
      rintro rv h' ⟨rfl, rfl⟩
      obtain ⟨r4, A4, hc, hf⟩ := m_bd_ok hf
      refine v_call 3 (k' := 169) (i' := 24) (E := [some (.ref 22), some (.int x1)]) (L' := [some (.ref 22), some (.int x1)]) (rest := []) (h1 := (hM c A3 R)) (fun _ => rfl) ?_
      refine v_post (gt_169 hfz N c R d (by omega) x1 A3 _ _ hc) ?_
      rintro rv h' ⟨rfl, rfl⟩
      obtain ⟨rfl, rfl⟩ := m_rt hf
      exact v_ret 4 (fun _ => rfl) ⟨rfl, rfl⟩
  · have hf := a_be hb hf
    refine v_ie hb ?_
    obtain ⟨r5, A5, hc, hf⟩ := m_bd_ok hf
    refine v_call 3 (k' := 167) (i' := 8) (E := [some (.ref 22), some (.int (11 : Int32))]) (L' := [some (.ref 22), some (.int x1)]) (rest := []) (h1 := (hM c A1 R)) (fun _ => rfl) ?_
    refine v_post (gt_167 hfz N c R d (by omega) (11 : Int32) A1 _ _ hc) ?_
    rintro rv h' ⟨rfl, rfl⟩
    obtain ⟨r6, A6, hc, hf⟩ := m_bd_ok hf
    refine v_call 5 (k' := 169) (i' := 13) (E := [some (.ref 22), some (.int (x1 * (3 : Int32)))]) (L' := [some (.ref 22), some (.int x1)]) (rest := []) (h1 := (hM c A5 R)) (fun _ => rfl) ?_
    refine v_post (gt_169 hfz N c R d (by omega) (x1 * (3 : Int32)) A5 _ _ hc) ?_
    rintro rv h' ⟨rfl, rfl⟩
    obtain ⟨rfl, rfl⟩ := m_rt hf
    exact v_ret 1 (fun _ => rfl) ⟨rfl, rfl⟩
set_option maxRecDepth 100000 in
set_option maxHeartbeats 4000000 in
theorem gt_171 {fz : Value} {sc : Nat × (Nat → Int32)} (hfz : fz = .null ∨ fz = .retAddr 60) (N : Nat) (c : Nat → aC) (R : List aC) (d : Nat) (hd : 3 ≤ d) (x1 : Int32) (A : mS) (r : Int32) (A' : mS) (hf : g_171 N x1 A = some (r, A')) : v_V fz sc d 171 0 [some (.ref 22), some (.int x1)] [] (hM c A R) (fun rv h' => rv = some (.int r) ∧ h' = hM c A' R) := by
  unfold g_171 at hf
  obtain ⟨d, rfl⟩ : ∃ z, d = z + 1 := ⟨d - 1, by omega⟩
  obtain ⟨r1, A1, hc, hf⟩ := m_bd_ok hf
  refine v_call 3 (k' := 167) (i' := 3) (E := [some (.ref 22), some (.int (2 : Int32))]) (L' := [some (.ref 22), some (.int x1)]) (rest := []) (h1 := (hM c A R)) (fun _ => rfl) ?_
  refine v_post (gt_167 hfz N c R d (by omega) (2 : Int32) A _ _ hc) ?_
  rintro rv h' ⟨rfl, rfl⟩
  obtain ⟨r2, A2, hc, hf⟩ := m_bd_ok hf
  refine v_call 3 (k' := 170) (i' := 6) (E := [some (.ref 22), some (.int x1)]) (L' := [some (.ref 22), some (.int x1)]) (rest := []) (h1 := (hM c A1 R)) (fun _ => rfl) ?_
  refine v_post (gt_170 hfz N c R d (by omega) x1 A1 _ _ hc) ?_
  rintro rv h' ⟨rfl, rfl⟩
  obtain ⟨rfl, rfl⟩ := m_rt hf
  exact v_ret 4 (fun _ => rfl) ⟨rfl, rfl⟩
set_option maxRecDepth 100000 in
set_option maxHeartbeats 4000000 in
theorem gt_172 {fz : Value} {sc : Nat × (Nat → Int32)} (hfz : fz = .null ∨ fz = .retAddr 60) (N : Nat) (c : Nat → aC) (R : List aC) (d : Nat) (hd : 4 ≤ d) (x1 : Int32) (A : mS) (r : Int32) (A' : mS) (hf : g_172 N x1 A = some (r, A')) : v_V fz sc d 172 0 [some (.ref 22), some (.int x1)] [] (hM c A R) (fun rv h' => rv = some (.int r) ∧ h' = hM c A' R) := by
  unfold g_172 at hf
  obtain ⟨d, rfl⟩ : ∃ z, d = z + 1 := ⟨d - 1, by omega⟩
  obtain ⟨r1, A1, hc, hf⟩ := m_bd_ok hf
  refine v_call 3 (k' := 167) (i' := 3) (E := [some (.ref 22), some (.int (21 : Int32))]) (L' := [some (.ref 22), some (.int x1)]) (rest := []) (h1 := (hM c A R)) (fun _ => rfl) ?_
  refine v_post (gt_167 hfz N c R d (by omega) (21 : Int32) A _ _ hc) ?_
  rintro rv h' ⟨rfl, rfl⟩
  obtain ⟨r2, A2, hc, hf⟩ := m_bd_ok hf
  refine v_call 3 (k' := 171) (i' := 6) (E := [some (.ref 22), some (.int x1)]) (L' := [some (.ref 22), some (.int x1)]) (rest := []) (h1 := (hM c A1 R)) (fun _ => rfl) ?_
  refine v_post (gt_171 hfz N c R d (by omega) x1 A1 _ _ hc) ?_
  rintro rv h' ⟨rfl, rfl⟩
  obtain ⟨rfl, rfl⟩ := m_rt hf
  exact v_ret 2 (fun _ => rfl) ⟨rfl, rfl⟩
set_option maxRecDepth 100000 in
set_option maxHeartbeats 4000000 in
theorem gt_173 {fz : Value} {sc : Nat × (Nat → Int32)} (hfz : fz = .null ∨ fz = .retAddr 60) (N : Nat) (c : Nat → aC) (R : List aC) (d : Nat) (hd : 5 ≤ d) (x1 : Int32) (A : mS) (r : Int32) (A' : mS) (hf : g_173 N x1 A = some (r, A')) : v_V fz sc d 173 0 [some (.ref 22), some (.int x1)] [] (hM c A R) (fun rv h' => rv = some (.int r) ∧ h' = hM c A' R) := by
  unfold g_173 at hf
  obtain ⟨d, rfl⟩ : ∃ z, d = z + 1 := ⟨d - 1, by omega⟩
  refine v_blk 4 (i' := (bif (a_ic .ne (A 99 22) (6 : Int32)) then 14 else 4)) (L' := [some (.ref 22), some (.int x1)]) (st' := []) (h' := (hM c A R)) (fun _ => rfl) ?_
  rcases Bool.eq_false_or_eq_true (a_ic .ne (A 99 22) (6 : Int32)) with hb | hb
  · have hf := a_bt hb hf
    refine v_it hb ?_
    obtain ⟨r1, A1, hc, hf⟩ := m_bd_ok hf
    refine v_call 4 (k' := 168) (i' := 18) (E := [some (.int (A 99 22)), some (.int (2 : Int32))]) (L' := [some (.ref 22), some (.int x1)]) (rest := []) (h1 := (hM c A R)) (fun _ => rfl) ?_
    refine v_post (gt_168 hfz N c R d (by omega) (A 99 22) (2 : Int32) A _ _ hc) ?_
    rintro rv h' ⟨rfl, rfl⟩
    refine v_blk 1 (i' := (bif (a_ic .eq r1 (0 : Int32)) then 23 else 19)) (L' := [some (.ref 22), some (.int x1)]) (st' := []) (h' := (hM c A1 R)) (fun _ => rfl) ?_
    rcases Bool.eq_false_or_eq_true (a_ic .eq r1 (0 : Int32)) with hb | hb
    · have hf := a_bt hb hf
      refine v_it hb ?_
      obtain ⟨r2, A2, hc, hf⟩ := m_bd_ok hf
      refine v_call 3 (k' := 171) (i' := 26) (E := [some (.ref 22), some (.int x1)]) (L' := [some (.ref 22), some (.int x1)]) (rest := []) (h1 := (hM c A1 R)) (fun _ => rfl) ?_
      refine v_post (gt_171 hfz N c R d (by omega) x1 A1 _ _ hc) ?_
      rintro rv h' ⟨rfl, rfl⟩
      obtain ⟨rfl, rfl⟩ := m_rt hf
      exact v_ret 1 (fun _ => rfl) ⟨rfl, rfl⟩
    · have hf := a_be hb hf
      refine v_ie hb ?_
      obtain ⟨r3, A3, hc, hf⟩ := m_bd_ok hf
      refine v_call 3 (k' := 172) (i' := 22) (E := [some (.ref 22), some (.int x1)]) (L' := [some (.ref 22), some (.int x1)]) (rest := []) (h1 := (hM c A1 R)) (fun _ => rfl) ?_
      refine v_post (gt_172 hfz N c R d (by omega) x1 A1 _ _ hc) ?_
      rintro rv h' ⟨rfl, rfl⟩
      obtain ⟨rfl, rfl⟩ := m_rt hf
      exact v_ret 2 (fun _ => rfl) ⟨rfl, rfl⟩
  · have hf := a_be hb hf
    refine v_ie hb ?_
    obtain ⟨r4, A4, hc, hf⟩ := m_bd_ok hf
    refine v_call 3 (k' := 167) (i' := 7) (E := [some (.ref 22), some (.int (61 : Int32))]) (L' := [some (.ref 22), some (.int x1)]) (rest := []) (h1 := (hM c A R)) (fun _ => rfl) ?_
    refine v_post (gt_167 hfz N c R d (by omega) (61 : Int32) A _ _ hc) ?_
    rintro rv h' ⟨rfl, rfl⟩
    obtain ⟨r5, A5, hc, hf⟩ := m_bd_ok hf
    refine v_call 3 (k' := 172) (i' := 10) (E := [some (.ref 22), some (.int x1)]) (L' := [some (.ref 22), some (.int x1)]) (rest := []) (h1 := (hM c A4 R)) (fun _ => rfl) ?_
    refine v_post (gt_172 hfz N c R d (by omega) x1 A4 _ _ hc) ?_
    rintro rv h' ⟨rfl, rfl⟩
    obtain ⟨rfl, rfl⟩ := m_rt hf
    exact v_ret 4 (fun _ => rfl) ⟨rfl, rfl⟩
set_option maxRecDepth 100000 in
set_option maxHeartbeats 4000000 in
theorem gt_174 {fz : Value} {sc : Nat × (Nat → Int32)} (hfz : fz = .null ∨ fz = .retAddr 60) (N : Nat) (c : Nat → aC) (R : List aC) (d : Nat) (hd : 6 ≤ d) (x1 : Int32) (A : mS) (r : Int32) (A' : mS) (hf : g_174 N x1 A = some (r, A')) : v_V fz sc d 174 0 [some (.ref 22), some (.int x1)] [] (hM c A R) (fun rv h' => rv = some (.int r) ∧ h' = hM c A' R) := by
  unfold g_174 at hf
  obtain ⟨d, rfl⟩ : ∃ z, d = z + 1 := ⟨d - 1, by omega⟩
  obtain ⟨r1, A1, hc, hf⟩ := m_bd_ok hf
  refine v_call 3 (k' := 167) (i' := 3) (E := [some (.ref 22), some (.int (3 : Int32))]) (L' := [some (.ref 22), some (.int x1)]) (rest := []) (h1 := (hM c A R)) (fun _ => rfl) ?_
  refine v_post (gt_167 hfz N c R d (by omega) (3 : Int32) A _ _ hc) ?_
  rintro rv h' ⟨rfl, rfl⟩
  obtain ⟨r2, A2, hc, hf⟩ := m_bd_ok hf
  refine v_call 3 (k' := 173) (i' := 6) (E := [some (.ref 22), some (.int x1)]) (L' := [some (.ref 22), some (.int x1)]) (rest := []) (h1 := (hM c A1 R)) (fun _ => rfl) ?_
  refine v_post (gt_173 hfz N c R d (by omega) x1 A1 _ _ hc) ?_
  rintro rv h' ⟨rfl, rfl⟩
  obtain ⟨rfl, rfl⟩ := m_rt hf
  exact v_ret 3 (fun _ => rfl) ⟨rfl, rfl⟩
set_option maxRecDepth 100000 in
set_option maxHeartbeats 4000000 in
theorem gt_175 {fz : Value} {sc : Nat × (Nat → Int32)} (hfz : fz = .null ∨ fz = .retAddr 60) (N : Nat) (c : Nat → aC) (R : List aC) (d : Nat) (hd : 7 ≤ d) (x1 : Int32) (A : mS) (r : Int32) (A' : mS) (hf : g_175 N x1 A = some (r, A')) : v_V fz sc d 175 0 [some (.ref 22), some (.int x1), none] [] (hM c A R) (fun rv h' => rv = some (.int r) ∧ h' = hM c A' R) := by
  unfold g_175 at hf
  obtain ⟨d, rfl⟩ : ∃ z, d = z + 1 := ⟨d - 1, by omega⟩
  refine v_blk 4 (i' := (bif (a_ic .ne (A 99 22) (3 : Int32)) then 13 else 4)) (L' := [some (.ref 22), some (.int x1), none]) (st' := []) (h' := (hM c A R)) (fun _ => rfl) ?_
  rcases Bool.eq_false_or_eq_true (a_ic .ne (A 99 22) (3 : Int32)) with hb | hb
  · have hf := a_bt hb hf
    refine v_it hb ?_
    refine v_blk 4 (i' := (bif (a_ic .ne (A 99 22) (4 : Int32)) then 32 else 17)) (L' := [some (.ref 22), some (.int x1), none]) (st' := []) (h' := (hM c A R)) (fun _ => rfl) ?_
    rcases Bool.eq_false_or_eq_true (a_ic .ne (A 99 22) (4 : Int32)) with hb | hb
    · have hf := a_bt hb hf
      refine v_it hb ?_
      obtain ⟨r1, A1, hc, hf⟩ := m_bd_ok hf
      refine v_call 3 (k' := 174) (i' := 35) (E := [some (.ref 22), some (.int x1)]) (L' := [some (.ref 22), some (.int x1), none]) (rest := []) (h1 := (hM c A R)) (fun _ => rfl) ?_
      refine v_post (gt_174 hfz N c R d (by omega) x1 A _ _ hc) ?_
      rintro rv h' ⟨rfl, rfl⟩
      obtain ⟨rfl, rfl⟩ := m_rt hf
      exact v_ret 1 (fun _ => rfl) ⟨rfl, rfl⟩
    · have hf := a_be hb hf
      refine v_ie hb ?_
      obtain ⟨r2, A2, hc, hf⟩ := m_bd_ok hf
      refine v_call 3 (k' := 167) (i' := 20) (E := [some (.ref 22), some (.int (41 : Int32))]) (L' := [some (.ref 22), some (.int x1), none]) (rest := []) (h1 := (hM c A R)) (fun _ => rfl) ?_
      refine v_post (gt_167 hfz N c R d (by omega) (41 : Int32) A _ _ hc) ?_
      rintro rv h' ⟨rfl, rfl⟩
      obtain ⟨r3, A3, hc, hf⟩ := m_bd_ok hf
      refine v_call 5 (k' := 174) (i' := 25) (E := [some (.ref 22), some (.int (x1 - (1 : Int32)))]) (L' := [some (.ref 22), some (.int x1), none]) (rest := []) (h1 := (hM c A2 R)) (fun _ => rfl) ?_
      refine v_post (gt_174 hfz N c R d (by omega) (x1 - (1 : Int32)) A2 _ _ hc) ?_
      rintro rv h' ⟨rfl, rfl⟩
      obtain ⟨r4, A4, hc, hf⟩ := m_bd_ok hf
      refine v_call 5 (k' := 170) (i' := 30) (E := [some (.ref 22), some (.int (2 : Int32))]) (L' := [some (.ref 22), some (.int x1), some (.int r3)]) (rest := [(.int r3)]) (h1 := (hM c A3 R)) (fun _ => rfl) ?_
      refine v_post (gt_170 hfz N c R d (by omega) (2 : Int32) A3 _ _ hc) ?_
      rintro rv h' ⟨rfl, rfl⟩
      obtain ⟨rfl, rfl⟩ := m_rt hf
      exact v_ret 2 (fun _ => rfl) ⟨rfl, rfl⟩
  · have hf := a_be hb hf
    refine v_ie hb ?_
    obtain ⟨r5, A5, hc, hf⟩ := m_bd_ok hf
    refine v_call 3 (k' := 167) (i' := 7) (E := [some (.ref 22), some (.int (31 : Int32))]) (L' := [some (.ref 22), some (.int x1), none]) (rest := []) (h1 := (hM c A R)) (fun _ => rfl) ?_
    refine v_post (gt_167 hfz N c R d (by omega) (31 : Int32) A _ _ hc) ?_
    rintro rv h' ⟨rfl, rfl⟩
    obtain ⟨r6, A6, hc, hf⟩ := m_bd_ok hf
    refine v_call 3 (k' := 174) (i' := 10) (E := [some (.ref 22), some (.int x1)]) (L' := [some (.ref 22), some (.int x1), none]) (rest := []) (h1 := (hM c A5 R)) (fun _ => rfl) ?_
    refine v_post (gt_174 hfz N c R d (by omega) x1 A5 _ _ hc) ?_
    rintro rv h' ⟨rfl, rfl⟩
    obtain ⟨rfl, rfl⟩ := m_rt hf
    exact v_ret 3 (fun _ => rfl) ⟨rfl, rfl⟩
set_option maxRecDepth 100000 in
set_option maxHeartbeats 4000000 in
theorem gt_176 {fz : Value} {sc : Nat × (Nat → Int32)} (hfz : fz = .null ∨ fz = .retAddr 60) (N : Nat) (c : Nat → aC) (R : List aC) (d : Nat) (hd : 8 ≤ d) (x1 : Int32) (x2 : Int32) (x3 : Int32) (A : mS) (r : Int32) (A' : mS) (hf : g_176 N x1 x2 x3 A = some (r, A')) : v_V fz sc d 176 0 [some (.ref 22), some (.int x1), some (.int x2), some (.int x3)] [] (hM c A R) (fun rv h' => rv = some (.int r) ∧ h' = hM c A' R) := by
  unfold g_176 at hf
  obtain ⟨d, rfl⟩ : ∃ z, d = z + 1 := ⟨d - 1, by omega⟩
  obtain ⟨r1, A1, hc, hf⟩ := m_bd_ok hf
  refine v_call 6 (k' := 114) (i' := 6) (E := [some (.ref 22), some (.int x1)]) (L' := [some (.ref 22), some (.int x1), some (.int x2), some (.int x3)]) (rest := []) (h1 := (hM c (va_up A 99 (upd (A 99) 21 (0 : Int32))) R)) (fun _ => rfl) ?_
  refine v_post (gt_114 hfz N c R d (by omega) x1 (va_up A 99 (upd (A 99) 21 (0 : Int32))) _ _ hc) ?_
  rintro rv h' ⟨rfl, rfl⟩
  refine v_blk 1 (i' := (bif (a_ic .eq r1 (0 : Int32)) then 12 else 7)) (L' := [some (.ref 22), some (.int x1), some (.int x2), some (.int x3)]) (st' := []) (h' := (hM c A1 R)) (fun _ => rfl) ?_
  rcases Bool.eq_false_or_eq_true (a_ic .eq r1 (0 : Int32)) with hb | hb
  · have hf := a_bt hb hf
    refine v_it hb ?_
    obtain ⟨rfl, rfl⟩ := m_rt hf
    exact v_ret 2 (fun _ => rfl) ⟨rfl, rfl⟩
  · have hf := a_be hb hf
    refine v_ie hb ?_
    obtain ⟨r2, A2, hc, hf⟩ := m_bd_ok hf
    refine v_call 4 (k' := 112) (i' := 11) (E := [some (.int x2), some (.int (0 : Int32)), some (.int (2 : Int32))]) (L' := [some (.ref 22), some (.int x1), some (.int x2), some (.int x3)]) (rest := []) (h1 := (hM c A1 R)) (fun _ => rfl) ?_
    refine v_post (gt_112 hfz N c R d (by omega) x2 (0 : Int32) (2 : Int32) A1 _ _ hc) ?_
    rintro rv h' ⟨rfl, rfl⟩
    refine v_blk 1 (i' := (bif (a_ic .ne r2 (0 : Int32)) then 14 else 12)) (L' := [some (.ref 22), some (.int x1), some (.int x2), some (.int x3)]) (st' := []) (h' := (hM c A2 R)) (fun _ => rfl) ?_
    rcases Bool.eq_false_or_eq_true (a_ic .ne r2 (0 : Int32)) with hb | hb
    · have hf := a_bt hb hf
      refine v_it hb ?_
      obtain ⟨hg, hf⟩ := a_bif hf
      refine v_grd 7 (i' := 21) (L' := [some (.ref 22), some (.int x1), some (.int x2), some (.int x3)]) (st' := [(.int ((A2 0) (((140 : Int32) + x1)).toNatClampNeg)), (.ref 22)]) (h' := (hM c A2 R)) (fun _ => rfl) hg ?_
      obtain ⟨y3, hy, hf⟩ := m_li_ok hf
      rw [hy]
      obtain ⟨hg, hf⟩ := a_bif hf
      refine v_grd 11 (i' := 32) (L' := [some (.ref 22), some (.int x1), some (.int x2), some (.int x3)]) (st' := [(.int ((A2 0) (((148 : Int32) + x1)).toNatClampNeg)), (.ref 22)]) (h' := (hM c (va_up A2 99 (upd (upd (A2 99) 22 y3) 23 x1)) R)) (fun _ => rfl) hg ?_
      obtain ⟨A4, hA, hf⟩ := m_st_ok hf
      rw [hA]
      refine v_blk 3 (i' := (bif (a_ic .ne x2 (0 : Int32)) then 39 else 35)) (L' := [some (.ref 22), some (.int x1), some (.int x2), some (.int x3)]) (st' := []) (h' := (hM c (va_up A4 99 (upd (A4 99) 24 ((A2 0) (((148 : Int32) + x1)).toNatClampNeg))) R)) (fun _ => rfl) ?_
      rcases Bool.eq_false_or_eq_true (a_ic .ne x2 (0 : Int32)) with hb | hb
      · have hf := a_bt hb hf
        refine v_it hb ?_
        obtain ⟨A5, hA, hf⟩ := m_st_ok hf
        rw [hA]
        refine v_blk 3 (i' := (bif (a_ic .ne x2 (1 : Int32)) then 46 else 42)) (L' := [some (.ref 22), some (.int x1), some (.int x2), some (.int x3)]) (st' := []) (h' := (hM c A5 R)) (fun _ => rfl) ?_
        rcases Bool.eq_false_or_eq_true (a_ic .ne x2 (1 : Int32)) with hb | hb
        · have hf := a_bt hb hf
          refine v_it hb ?_
          obtain ⟨r6, A6, hc, hf⟩ := m_bd_ok hf
          refine v_call 3 (k' := 175) (i' := 49) (E := [some (.ref 22), some (.int x3), none]) (L' := [some (.ref 22), some (.int x1), some (.int x2), some (.int x3)]) (rest := []) (h1 := (hM c A5 R)) (fun _ => rfl) ?_
          refine v_post (gt_175 hfz N c R d (by omega) x3 A5 _ _ hc) ?_
          rintro rv h' ⟨rfl, rfl⟩
          obtain ⟨rfl, rfl⟩ := m_rt hf
          exact v_ret 1 (fun _ => rfl) ⟨rfl, rfl⟩
        · have hf := a_be hb hf
          refine v_ie hb ?_
          obtain ⟨r7, A7, hc, hf⟩ := m_bd_ok hf
          refine v_call 3 (k' := 173) (i' := 45) (E := [some (.ref 22), some (.int x3)]) (L' := [some (.ref 22), some (.int x1), some (.int x2), some (.int x3)]) (rest := []) (h1 := (hM c A5 R)) (fun _ => rfl) ?_
          refine v_post (gt_173 hfz N c R d (by omega) x3 A5 _ _ hc) ?_
          rintro rv h' ⟨rfl, rfl⟩
          obtain ⟨rfl, rfl⟩ := m_rt hf
          exact v_ret 2 (fun _ => rfl) ⟨rfl, rfl⟩
      · have hf := a_be hb hf
        refine v_ie hb ?_
        obtain ⟨A8, hA, hf⟩ := m_st_ok hf
        rw [hA]
        obtain ⟨r9, A9, hc, hf⟩ := m_bd_ok hf
        refine v_call 3 (k' := 170) (i' := 38) (E := [some (.ref 22), some (.int x3)]) (L' := [some (.ref 22), some (.int x1), some (.int x2), some (.int x3)]) (rest := []) (h1 := (hM c A8 R)) (fun _ => rfl) ?_
        refine v_post (gt_170 hfz N c R d (by omega) x3 A8 _ _ hc) ?_
        rintro rv h' ⟨rfl, rfl⟩
        obtain ⟨rfl, rfl⟩ := m_rt hf
        exact v_ret 2 (fun _ => rfl) ⟨rfl, rfl⟩
    · have hf := a_be hb hf
      refine v_ie hb ?_
      obtain ⟨rfl, rfl⟩ := m_rt hf
      exact v_ret 2 (fun _ => rfl) ⟨rfl, rfl⟩
set_option maxRecDepth 100000 in
set_option maxHeartbeats 4000000 in
theorem gt_177_10 {fz : Value} {sc : Nat × (Nat → Int32)} (hfz : fz = .null ∨ fz = .retAddr 60) (N : Nat) (c : Nat → aC) (R : List aC) (d : Nat) (hd : 1 ≤ d) (x1 : Int32) (t0 : Int32) (t1 : Int32) (t2 : Int32) (A : mS) (r : Int32) (A' : mS) (hf : g_177_10 N x1 t0 t1 t2 A = some (r, A')) : v_V fz sc d 177 10 [some (.ref 22), some (.int x1)] [(.int t2), (.int t1), (.int t0)] (hM c A R) (fun rv h' => rv = some (.int r) ∧ h' = hM c A' R) := by
  unfold g_177_10 at hf
  obtain ⟨d, rfl⟩ : ∃ z, d = z + 1 := ⟨d - 1, by omega⟩
  obtain ⟨r1, A1, hc, hf⟩ := m_bd_ok hf
  refine v_call 3 (k' := 112) (i' := 13) (E := [some (.int t0), some (.int t1), some (.int (t2 - (1 : Int32)))]) (L' := [some (.ref 22), some (.int x1)]) (rest := []) (h1 := (hM c A R)) (fun _ => rfl) ?_
  refine v_post (gt_112 hfz N c R d (by omega) t0 t1 (t2 - (1 : Int32)) A _ _ hc) ?_
  rintro rv h' ⟨rfl, rfl⟩
  refine v_blk 1 (i' := (bif (a_ic .eq r1 (0 : Int32)) then 19 else 14)) (L' := [some (.ref 22), some (.int x1)]) (st' := []) (h' := (hM c A1 R)) (fun _ => rfl) ?_
  rcases Bool.eq_false_or_eq_true (a_ic .eq r1 (0 : Int32)) with hb | hb
  · have hf := a_bt hb hf
    refine v_it hb ?_
    obtain ⟨rfl, rfl⟩ := m_rt hf
    exact v_ret 2 (fun _ => rfl) ⟨rfl, rfl⟩
  · have hf := a_be hb hf
    refine v_ie hb ?_
    obtain ⟨hg, hf⟩ := a_bif hf
    refine v_grd 4 (i' := 18) (L' := [some (.ref 22), some (.int x1)]) (st' := [(.int ((A1 9) (x1).toNatClampNeg))]) (h' := (hM c A1 R)) (fun _ => rfl) hg ?_
    obtain ⟨y2, hy, hf⟩ := m_li_ok hf
    rw [hy]
    obtain ⟨rfl, rfl⟩ := m_rt hf
    exact v_ret 2 (fun _ => rfl) ⟨rfl, rfl⟩
set_option maxRecDepth 100000 in
set_option maxHeartbeats 4000000 in
theorem gt_177 {fz : Value} {sc : Nat × (Nat → Int32)} (hfz : fz = .null ∨ fz = .retAddr 60) (N : Nat) (c : Nat → aC) (R : List aC) (d : Nat) (hd : 1 ≤ d) (x1 : Int32) (A : mS) (r : Int32) (A' : mS) (hf : g_177 N x1 A = some (r, A')) : v_V fz sc d 177 0 [some (.ref 22), some (.int x1)] [] (hM c A R) (fun rv h' => rv = some (.int r) ∧ h' = hM c A' R) := by
  unfold g_177 at hf
  obtain ⟨d, rfl⟩ : ∃ z, d = z + 1 := ⟨d - 1, by omega⟩
  refine v_blk 6 (i' := (bif (a_ic .ge (A 99 21) (20 : Int32)) then 9 else 6)) (L' := [some (.ref 22), some (.int x1)]) (st' := [(.int (0 : Int32)), (.int x1)]) (h' := (hM c A R)) (fun _ => rfl) ?_
  rcases Bool.eq_false_or_eq_true (a_ic .ge (A 99 21) (20 : Int32)) with hb | hb
  · have hf := a_bt hb hf
    refine v_it hb ?_
    refine v_blk 1 (i' := 10) (L' := [some (.ref 22), some (.int x1)]) (st' := [(.int (20 : Int32)), (.int (0 : Int32)), (.int x1)]) (h' := (hM c A R)) (fun _ => rfl) ?_
    exact gt_177_10 hfz N c R (d + 1) hd x1 x1 (0 : Int32) (20 : Int32) A _ _ hf
  · have hf := a_be hb hf
    refine v_ie hb ?_
    refine v_blk 3 (i' := 10) (L' := [some (.ref 22), some (.int x1)]) (st' := [(.int (A 99 21)), (.int (0 : Int32)), (.int x1)]) (h' := (hM c A R)) (fun _ => rfl) ?_
    exact gt_177_10 hfz N c R (d + 1) hd x1 x1 (0 : Int32) (A 99 21) A _ _ hf
set_option maxRecDepth 100000 in
set_option maxHeartbeats 4000000 in
theorem gt_178 {fz : Value} {sc : Nat × (Nat → Int32)} (hfz : fz = .null ∨ fz = .retAddr 60) (N : Nat) (c : Nat → aC) (R : List aC) (d : Nat) (hd : 2 ≤ d) (x1 : Int32) (x2 : Int32) (A : mS) (r : Int32) (A' : mS) (hf : g_178 N x1 x2 A = some (r, A')) : v_V fz sc d 178 0 [some (.ref 22), some (.int x1), some (.int x2)] [] (hM c A R) (fun rv h' => rv = some (.int r) ∧ h' = hM c A' R) := by
  unfold g_178 at hf
  obtain ⟨d, rfl⟩ : ∃ z, d = z + 1 := ⟨d - 1, by omega⟩
  obtain ⟨r1, A1, hc, hf⟩ := m_bd_ok hf
  refine v_call 3 (k' := 114) (i' := 3) (E := [some (.ref 22), some (.int x1)]) (L' := [some (.ref 22), some (.int x1), some (.int x2)]) (rest := []) (h1 := (hM c A R)) (fun _ => rfl) ?_
  refine v_post (gt_114 hfz N c R d (by omega) x1 A _ _ hc) ?_
  rintro rv h' ⟨rfl, rfl⟩
  refine v_blk 1 (i' := (bif (a_ic .eq r1 (0 : Int32)) then 9 else 4)) (L' := [some (.ref 22), some (.int x1), some (.int x2)]) (st' := []) (h' := (hM c A1 R)) (fun _ => rfl) ?_
  rcases Bool.eq_false_or_eq_true (a_ic .eq r1 (0 : Int32)) with hb | hb
  · have hf := a_bt hb hf
    refine v_it hb ?_
    obtain ⟨rfl, rfl⟩ := m_rt hf
    exact v_ret 2 (fun _ => rfl) ⟨rfl, rfl⟩
  · have hf := a_be hb hf
    refine v_ie hb ?_
    obtain ⟨r2, A2, hc, hf⟩ := m_bd_ok hf
    refine v_call 4 (k' := 112) (i' := 8) (E := [some (.int x2), some (.int (0 : Int32)), some (.int (6 : Int32))]) (L' := [some (.ref 22), some (.int x1), some (.int x2)]) (rest := []) (h1 := (hM c A1 R)) (fun _ => rfl) ?_
    refine v_post (gt_112 hfz N c R d (by omega) x2 (0 : Int32) (6 : Int32) A1 _ _ hc) ?_
    rintro rv h' ⟨rfl, rfl⟩
    refine v_blk 1 (i' := (bif (a_ic .ne r2 (0 : Int32)) then 11 else 9)) (L' := [some (.ref 22), some (.int x1), some (.int x2)]) (st' := []) (h' := (hM c A2 R)) (fun _ => rfl) ?_
    rcases Bool.eq_false_or_eq_true (a_ic .ne r2 (0 : Int32)) with hb | hb
    · have hf := a_bt hb hf
      refine v_it hb ?_
      obtain ⟨hg, hf⟩ := a_bif hf
      refine v_grd 6 (i' := 17) (L' := [some (.ref 22), some (.int x1), some (.int x2)]) (st' := [(.int ((A2 0) (((140 : Int32) + x1)).toNatClampNeg))]) (h' := (hM c A2 R)) (fun _ => rfl) hg ?_
      obtain ⟨y3, hy, hf⟩ := m_li_ok hf
      rw [hy]
      obtain ⟨r4, A4, hc, hf⟩ := m_bd_ok hf
      refine v_call 2 (k' := 168) (i' := 19) (E := [some (.int y3), some (.int x2)]) (L' := [some (.ref 22), some (.int x1), some (.int x2)]) (rest := []) (h1 := (hM c A2 R)) (fun _ => rfl) ?_
      refine v_post (gt_168 hfz N c R d (by omega) y3 x2 A2 _ _ hc) ?_
      rintro rv h' ⟨rfl, rfl⟩
      refine v_blk 1 (i' := (bif (a_ic .eq r4 (0 : Int32)) then 27 else 20)) (L' := [some (.ref 22), some (.int x1), some (.int x2)]) (st' := []) (h' := (hM c A4 R)) (fun _ => rfl) ?_
      rcases Bool.eq_false_or_eq_true (a_ic .eq r4 (0 : Int32)) with hb | hb
      · have hf := a_bt hb hf
        refine v_it hb ?_
        obtain ⟨rfl, rfl⟩ := m_rt hf
        exact v_ret 2 (fun _ => rfl) ⟨rfl, rfl⟩
      · have hf := a_be hb hf
        refine v_ie hb ?_
        obtain ⟨hg, hf⟩ := a_bif hf
        refine v_grd 6 (i' := 26) (L' := [some (.ref 22), some (.int x1), some (.int x2)]) (st' := [(.int ((A4 0) (((148 : Int32) + x1)).toNatClampNeg))]) (h' := (hM c A4 R)) (fun _ => rfl) hg ?_
        obtain ⟨y5, hy, hf⟩ := m_li_ok hf
        rw [hy]
        obtain ⟨rfl, rfl⟩ := m_rt hf
        exact v_ret 2 (fun _ => rfl) ⟨rfl, rfl⟩
    · have hf := a_be hb hf
      refine v_ie hb ?_
      obtain ⟨rfl, rfl⟩ := m_rt hf
      exact v_ret 2 (fun _ => rfl) ⟨rfl, rfl⟩
set_option maxRecDepth 100000 in
set_option maxHeartbeats 4000000 in
theorem gt_179_2b {fz : Value} {sc : Nat × (Nat → Int32)} (hfz : fz = .null ∨ fz = .retAddr 60) (N : Nat) (c : Nat → aC) (R : List aC) (d : Nat) (hd : 0 ≤ d) (rc2 : Int32 → mS → Option (Int32 × mS)) (hrc2 : ∀ (x1 : Int32) (A : mS) (r : Int32) (A' : mS), rc2 x1 A = some (r, A') → v_V fz sc d 179 2 [some (.ref 22), some (.int x1)] [] (hM c A R) (fun rv h' => rv = some (.int r) ∧ h' = hM c A' R)) (x1 : Int32) (A : mS) (r : Int32) (A' : mS) (hf : g_179_2b N rc2 x1 A = some (r, A')) : v_V fz sc d 179 2 [some (.ref 22), some (.int x1)] [] (hM c A R) (fun rv h' => rv = some (.int r) ∧ h' = hM c A' R) := by
  unfold g_179_2b at hf
  refine v_blk 3 (i' := (bif (a_ic .ge x1 (947 : Int32)) then 15 else 5)) (L' := [some (.ref 22), some (.int x1)]) (st' := []) (h' := (hM c A R)) (fun _ => rfl) ?_
  rcases Bool.eq_false_or_eq_true (a_ic .ge x1 (947 : Int32)) with hb | hb
  · have hf := a_bt hb hf
    refine v_it hb ?_
    obtain ⟨rfl, rfl⟩ := m_rt hf
    exact v_ret 8 (fun _ => rfl) ⟨rfl, rfl⟩
  · have hf := a_be hb hf
    refine v_ie hb ?_
    obtain ⟨hg, hf⟩ := a_bif hf
    refine v_grd 7 (i' := 12) (L' := [some (.ref 22), some (.int x1)]) (st' := [(.int ((A 0) (x1).toNatClampNeg)), (.int x1), (.ref 24)]) (h' := (hM c A R)) (fun _ => rfl) hg ?_
    obtain ⟨y1, hy, hf⟩ := m_li_ok hf
    rw [hy]
    obtain ⟨hg, hf⟩ := a_bif hf
    refine v_grd 1 (i' := 13) (L' := [some (.ref 22), some (.int x1)]) (st' := []) (h' := (hM c (va_up A 1 (upd (A 1) (x1).toNatClampNeg y1)) R)) (fun _ => rfl) hg ?_
    obtain ⟨A2, hA, hf⟩ := m_st_ok hf
    rw [hA]
    refine v_blk 2 (i' := 2) (L' := [some (.ref 22), some (.int (x1 + (1 : Int32)))]) (st' := []) (h' := (hM c A2 R)) (fun _ => rfl) ?_
    exact hrc2 (x1 + (1 : Int32)) A2 _ _ hf
theorem gt_179_2 {fz : Value} {sc : Nat × (Nat → Int32)} (hfz : fz = .null ∨ fz = .retAddr 60) (N : Nat) (c : Nat → aC) (R : List aC) (d : Nat) (hd : 0 ≤ d) : ∀ (n : Nat) (x1 : Int32) (A : mS) (r : Int32) (A' : mS) (hf : g_179_2 N n x1 A = some (r, A')), v_V fz sc d 179 2 [some (.ref 22), some (.int x1)] [] (hM c A R) (fun rv h' => rv = some (.int r) ∧ h' = hM c A' R) := by
  intro n
  induction n with
  | zero => intro x1 A r A' hf; cases hf
  | succ n ih =>
    intro x1 A r A' hf
    exact gt_179_2b hfz N c R d hd (g_179_2 N n) ih x1 A r A' hf
set_option maxRecDepth 100000 in
set_option maxHeartbeats 4000000 in
theorem gt_179 {fz : Value} {sc : Nat × (Nat → Int32)} (hfz : fz = .null ∨ fz = .retAddr 60) (N : Nat) (c : Nat → aC) (R : List aC) (d : Nat) (hd : 0 ≤ d) (A : mS) (r : Int32) (A' : mS) (hf : g_179 N  A = some (r, A')) : v_V fz sc d 179 0 [some (.ref 22), none] [] (hM c A R) (fun rv h' => rv = some (.int r) ∧ h' = hM c A' R) := by
  unfold g_179 at hf
  refine v_blk 2 (i' := 2) (L' := [some (.ref 22), some (.int (0 : Int32))]) (st' := []) (h' := (hM c A R)) (fun _ => rfl) ?_
  exact gt_179_2 hfz N c R d hd N (0 : Int32) A _ _ hf
set_option maxRecDepth 100000 in
set_option maxHeartbeats 4000000 in
theorem gt_180_7b {fz : Value} {sc : Nat × (Nat → Int32)} (hfz : fz = .null ∨ fz = .retAddr 60) (N : Nat) (c : Nat → aC) (R : List aC) (d : Nat) (hd : 0 ≤ d) (rc7 : Int32 → mS → Option (Int32 × mS)) (hrc7 : ∀ (x1 : Int32) (A : mS) (r : Int32) (A' : mS), rc7 x1 A = some (r, A') → v_V fz sc d 180 7 [some (.ref 22), some (.int x1)] [] (hM c A R) (fun rv h' => rv = some (.int r) ∧ h' = hM c A' R)) (x1 : Int32) (A : mS) (r : Int32) (A' : mS) (hf : g_180_7b N rc7 x1 A = some (r, A')) : v_V fz sc d 180 7 [some (.ref 22), some (.int x1)] [] (hM c A R) (fun rv h' => rv = some (.int r) ∧ h' = hM c A' R) := by
  unfold g_180_7b at hf
  refine v_blk 3 (i' := (bif (a_ic .ge x1 (947 : Int32)) then 20 else 10)) (L' := [some (.ref 22), some (.int x1)]) (st' := []) (h' := (hM c A R)) (fun _ => rfl) ?_
  rcases Bool.eq_false_or_eq_true (a_ic .ge x1 (947 : Int32)) with hb | hb
  · have hf := a_bt hb hf
    refine v_it hb ?_
    obtain ⟨rfl, rfl⟩ := m_rt hf
    exact v_ret 5 (fun _ => rfl) ⟨rfl, rfl⟩
  · have hf := a_be hb hf
    refine v_ie hb ?_
    obtain ⟨hg, hf⟩ := a_bif hf
    refine v_grd 7 (i' := 17) (L' := [some (.ref 22), some (.int x1)]) (st' := [(.int ((A 1) (x1).toNatClampNeg)), (.int x1), (.ref 23)]) (h' := (hM c A R)) (fun _ => rfl) hg ?_
    obtain ⟨y1, hy, hf⟩ := m_li_ok hf
    rw [hy]
    obtain ⟨hg, hf⟩ := a_bif hf
    refine v_grd 1 (i' := 18) (L' := [some (.ref 22), some (.int x1)]) (st' := []) (h' := (hM c (va_up A 0 (upd (A 0) (x1).toNatClampNeg y1)) R)) (fun _ => rfl) hg ?_
    obtain ⟨A2, hA, hf⟩ := m_st_ok hf
    rw [hA]
    refine v_blk 2 (i' := 7) (L' := [some (.ref 22), some (.int (x1 + (1 : Int32)))]) (st' := []) (h' := (hM c A2 R)) (fun _ => rfl) ?_
    exact hrc7 (x1 + (1 : Int32)) A2 _ _ hf
theorem gt_180_7 {fz : Value} {sc : Nat × (Nat → Int32)} (hfz : fz = .null ∨ fz = .retAddr 60) (N : Nat) (c : Nat → aC) (R : List aC) (d : Nat) (hd : 0 ≤ d) : ∀ (n : Nat) (x1 : Int32) (A : mS) (r : Int32) (A' : mS) (hf : g_180_7 N n x1 A = some (r, A')), v_V fz sc d 180 7 [some (.ref 22), some (.int x1)] [] (hM c A R) (fun rv h' => rv = some (.int r) ∧ h' = hM c A' R) := by
  intro n
  induction n with
  | zero => intro x1 A r A' hf; cases hf
  | succ n ih =>
    intro x1 A r A' hf
    exact gt_180_7b hfz N c R d hd (g_180_7 N n) ih x1 A r A' hf
set_option maxRecDepth 100000 in
set_option maxHeartbeats 4000000 in
theorem gt_180 {fz : Value} {sc : Nat × (Nat → Int32)} (hfz : fz = .null ∨ fz = .retAddr 60) (N : Nat) (c : Nat → aC) (R : List aC) (d : Nat) (hd : 0 ≤ d) (A : mS) (r : Int32) (A' : mS) (hf : g_180 N  A = some (r, A')) : v_V fz sc d 180 0 [some (.ref 22), none] [] (hM c A R) (fun rv h' => rv = some (.int r) ∧ h' = hM c A' R) := by
  unfold g_180 at hf
  refine v_blk 3 (i' := (bif (a_ic .ne (A 99 4) (0 : Int32)) then 5 else 3)) (L' := [some (.ref 22), none]) (st' := []) (h' := (hM c A R)) (fun _ => rfl) ?_
  rcases Bool.eq_false_or_eq_true (a_ic .ne (A 99 4) (0 : Int32)) with hb | hb
  · have hf := a_bt hb hf
    refine v_it hb ?_
    refine v_blk 2 (i' := 7) (L' := [some (.ref 22), some (.int (0 : Int32))]) (st' := []) (h' := (hM c A R)) (fun _ => rfl) ?_
    exact gt_180_7 hfz N c R d hd N (0 : Int32) A _ _ hf
  · have hf := a_be hb hf
    refine v_ie hb ?_
    obtain ⟨rfl, rfl⟩ := m_rt hf
    exact v_ret 2 (fun _ => rfl) ⟨rfl, rfl⟩
set_option maxRecDepth 100000 in
set_option maxHeartbeats 4000000 in
theorem gt_181 {fz : Value} {sc : Nat × (Nat → Int32)} (hfz : fz = .null ∨ fz = .retAddr 60) (N : Nat) (c : Nat → aC) (R : List aC) (d : Nat) (hd : 0 ≤ d) (x1 : Int32) (A : mS) (r : Int32) (A' : mS) (hf : g_181 N x1 A = some (r, A')) : v_V fz sc d 181 0 [some (.ref 22), some (.int x1)] [] (hM c A R) (fun rv h' => rv = some (.int r) ∧ h' = hM c A' R) := by
  unfold g_181 at hf
  refine v_blk 2 (i' := (a_tsw 0 6 35 [2, 7, 12, 17, 22, 27, 32] x1)) (L' := [some (.ref 22), some (.int x1)]) (st' := []) (h' := (hM c A R)) (fun _ => rfl) ?_
  by_cases hb : (a_tsw 0 6 35 [2, 7, 12, 17, 22, 27, 32] x1) = 2
  · rw [if_pos hb] at hf
    rw [hb]
    obtain ⟨rfl, rfl⟩ := m_rt hf
    exact v_ret 5 (fun _ => rfl) ⟨rfl, rfl⟩
  rw [if_neg hb] at hf
  by_cases hb : (a_tsw 0 6 35 [2, 7, 12, 17, 22, 27, 32] x1) = 7
  · rw [if_pos hb] at hf
    rw [hb]
    obtain ⟨rfl, rfl⟩ := m_rt hf
    exact v_ret 5 (fun _ => rfl) ⟨rfl, rfl⟩
  rw [if_neg hb] at hf
  by_cases hb : (a_tsw 0 6 35 [2, 7, 12, 17, 22, 27, 32] x1) = 12
  · rw [if_pos hb] at hf
    rw [hb]
    obtain ⟨rfl, rfl⟩ := m_rt hf
    exact v_ret 5 (fun _ => rfl) ⟨rfl, rfl⟩
  rw [if_neg hb] at hf
  by_cases hb : (a_tsw 0 6 35 [2, 7, 12, 17, 22, 27, 32] x1) = 17
  · rw [if_pos hb] at hf
    rw [hb]
    obtain ⟨rfl, rfl⟩ := m_rt hf
    exact v_ret 5 (fun _ => rfl) ⟨rfl, rfl⟩
  rw [if_neg hb] at hf
  by_cases hb : (a_tsw 0 6 35 [2, 7, 12, 17, 22, 27, 32] x1) = 22
  · rw [if_pos hb] at hf
    rw [hb]
    obtain ⟨rfl, rfl⟩ := m_rt hf
    exact v_ret 5 (fun _ => rfl) ⟨rfl, rfl⟩
  rw [if_neg hb] at hf
  by_cases hb : (a_tsw 0 6 35 [2, 7, 12, 17, 22, 27, 32] x1) = 27
  · rw [if_pos hb] at hf
    rw [hb]
    obtain ⟨rfl, rfl⟩ := m_rt hf
    exact v_ret 5 (fun _ => rfl) ⟨rfl, rfl⟩
  rw [if_neg hb] at hf
  by_cases hb : (a_tsw 0 6 35 [2, 7, 12, 17, 22, 27, 32] x1) = 32
  · rw [if_pos hb] at hf
    rw [hb]
    obtain ⟨rfl, rfl⟩ := m_rt hf
    exact v_ret 3 (fun _ => rfl) ⟨rfl, rfl⟩
  rw [if_neg hb] at hf
  by_cases hb : (a_tsw 0 6 35 [2, 7, 12, 17, 22, 27, 32] x1) = 35
  · rw [if_pos hb] at hf
    rw [hb]
    obtain ⟨rfl, rfl⟩ := m_rt hf
    exact v_ret 2 (fun _ => rfl) ⟨rfl, rfl⟩
  rw [if_neg hb] at hf
  cases hf
