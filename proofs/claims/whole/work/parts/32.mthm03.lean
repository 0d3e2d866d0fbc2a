/-! 32.mthm, piece 3: runs of the model's methods are their mirrored functions (by program) -/
set_option maxRecDepth 100000 in
set_option maxHeartbeats 4000000 in
theorem gt_149_4b {fz : Value} {sc : Nat × (Nat → Int32)} (hfz : fz = .null ∨ fz = .retAddr 60) (N : Nat) (c : Nat → aC) (R : List aC) (d : Nat) (hd : 0 ≤ d) (rc4 : Int32 → Int32 → Int32 → mS → Option (Int32 × mS)) (hrc4 : ∀ (x1 : Int32) (x2 : Int32) (x3 : Int32) (A : mS) (r : Int32) (A' : mS), rc4 x1 x2 x3 A = some (r, A') → v_V fz sc d 149 4 [some (.ref 22), some (.int x1), some (.int x2), some (.int x3), none] [] (hM c A R) (fun rv h' => rv = some (.int r) ∧ h' = hM c A' R)) (x1 : Int32) (x2 : Int32) (x3 : Int32) (A : mS) (r : Int32) (A' : mS) (hf : g_149_4b N rc4 x1 x2 x3 A = some (r, A')) : v_V fz sc d 149 4 [some (.ref 22), some (.int x1), some (.int x2), some (.int x3), none] [] (hM c A R) (fun rv h' => rv = some (.int r) ∧ h' = hM c A' R) := by
  unfold g_149_4b at hf
  refine v_blk 3 (i' := (bif (a_ic .ge x3 (4 : Int32)) then 30 else 7)) (L' := [some (.ref 22), some (.int x1), some (.int x2), some (.int x3), none]) (st' := []) (h' := (hM c A R)) (fun _ => rfl) ?_
  rcases Bool.eq_false_or_eq_true (a_ic .ge x3 (4 : Int32)) with hb | hb
  · have hf := a_bt hb hf
    refine v_it hb ?_
    refine v_blk 3 (i' := (bif (a_ic .eq (A 99 15) (0 : Int32)) then 35 else 33)) (L' := [some (.ref 22), some (.int x1), some (.int x2), some (.int x3), none]) (st' := []) (h' := (hM c A R)) (fun _ => rfl) ?_
    rcases Bool.eq_false_or_eq_true (a_ic .eq (A 99 15) (0 : Int32)) with hb | hb
    · have hf := a_bt hb hf
      refine v_it hb ?_
      obtain ⟨hg, hf⟩ := a_bif hf
      refine v_grd 6 (i' := 41) (L' := [some (.ref 22), some (.int x1), some (.int x2), some (.int x3), none]) (st' := [(.int ((A 6) ((A 99 14)).toNatClampNeg)), (.int x2)]) (h' := (hM c A R)) (fun _ => rfl) hg ?_
      obtain ⟨y1, hy, hf⟩ := m_li_ok hf
      rw [hy]
      obtain ⟨hg, hf⟩ := a_bif hf
      refine v_grd 9 (i' := 50) (L' := [some (.ref 22), some (.int x1), some (.int x2), some (.int x3), none]) (st' := [(.int ((A 5) ((((4 : Int32) * x1) + (A 99 14))).toNatClampNeg)), (.int y1), (.int x2)]) (h' := (hM c A R)) (fun _ => rfl) hg ?_
      obtain ⟨y2, hy, hf⟩ := m_li_ok hf
      rw [hy]
      obtain ⟨rfl, rfl⟩ := m_rt hf
      exact v_ret 3 (fun _ => rfl) ⟨rfl, rfl⟩
    · have hf := a_be hb hf
      refine v_ie hb ?_
      obtain ⟨rfl, rfl⟩ := m_rt hf
      exact v_ret 3 (fun _ => rfl) ⟨rfl, rfl⟩
  · have hf := a_be hb hf
    refine v_ie hb ?_
    obtain ⟨hg, hf⟩ := a_bif hf
    refine v_grd 4 (i' := 11) (L' := [some (.ref 22), some (.int x1), some (.int x2), some (.int x3), none]) (st' := [(.int ((A 6) (x3).toNatClampNeg))]) (h' := (hM c A R)) (fun _ => rfl) hg ?_
    obtain ⟨y3, hy, hf⟩ := m_li_ok hf
    rw [hy]
    obtain ⟨hg, hf⟩ := a_bif hf
    refine v_grd 8 (i' := 19) (L' := [some (.ref 22), some (.int x1), some (.int x2), some (.int x3), none]) (st' := [(.int ((A 5) ((((4 : Int32) * x1) + x3)).toNatClampNeg)), (.int y3)]) (h' := (hM c A R)) (fun _ => rfl) hg ?_
    obtain ⟨y4, hy, hf⟩ := m_li_ok hf
    rw [hy]
    refine v_blk 5 (i' := (bif (a_ic .le (y3 - y4) x2) then 26 else 24)) (L' := [some (.ref 22), some (.int x1), some (.int x2), some (.int x3), some (.int (y3 - y4))]) (st' := []) (h' := (hM c A R)) (fun _ => rfl) ?_
    rcases Bool.eq_false_or_eq_true (a_ic .le (y3 - y4) x2) with hb | hb
    · have hf := a_bt hb hf
      refine v_it hb ?_
      refine v_blk 4 (i' := 4) (L' := [some (.ref 22), some (.int x1), some (.int x2), some (.int (x3 + (1 : Int32))), some (.int (y3 - y4))]) (st' := []) (h' := (hM c A R)) (fun _ => rfl) ?_
      refine v_weak (L' := [some (.ref 22), some (.int x1), some (.int x2), some (.int (x3 + (1 : Int32))), none]) (show a_wk [some (.ref 22), some (.int x1), some (.int x2), some (.int (x3 + (1 : Int32))), none] [some (.ref 22), some (.int x1), some (.int x2), some (.int (x3 + (1 : Int32))), some (.int (y3 - y4))] from ⟨rfl, ⟨rfl, ⟨rfl, ⟨rfl, ⟨(fun v hv => by cases hv; rfl), trivial⟩⟩⟩⟩⟩) ?_
      exact hrc4 x1 x2 (x3 + (1 : Int32)) A _ _ hf
    · have hf := a_be hb hf
      refine v_ie hb ?_
      refine v_blk 5 (i' := 4) (L' := [some (.ref 22), some (.int x1), some (.int (y3 - y4)), some (.int (x3 + (1 : Int32))), some (.int (y3 - y4))]) (st' := []) (h' := (hM c A R)) (fun _ => rfl) ?_
      refine v_weak (L' := [some (.ref 22), some (.int x1), some (.int (y3 - y4)), some (.int (x3 + (1 : Int32))), none]) (show a_wk [some (.ref 22), some (.int x1), some (.int (y3 - y4)), some (.int (x3 + (1 : Int32))), none] [some (.ref 22), some (.int x1), some (.int (y3 - y4)), some (.int (x3 + (1 : Int32))), some (.int (y3 - y4))] from ⟨rfl, ⟨rfl, ⟨rfl, ⟨rfl, ⟨(fun v hv => by cases hv; rfl), trivial⟩⟩⟩⟩⟩) ?_
      exact hrc4 x1 (y3 - y4) (x3 + (1 : Int32)) A _ _ hf
theorem gt_149_4 {fz : Value} {sc : Nat × (Nat → Int32)} (hfz : fz = .null ∨ fz = .retAddr 60) (N : Nat) (c : Nat → aC) (R : List aC) (d : Nat) (hd : 0 ≤ d) : ∀ (n : Nat) (x1 : Int32) (x2 : Int32) (x3 : Int32) (A : mS) (r : Int32) (A' : mS) (hf : g_149_4 N n x1 x2 x3 A = some (r, A')), v_V fz sc d 149 4 [some (.ref 22), some (.int x1), some (.int x2), some (.int x3), none] [] (hM c A R) (fun rv h' => rv = some (.int r) ∧ h' = hM c A' R) := by
  intro n
  induction n with
  | zero => intro x1 x2 x3 A r A' hf; cases hf
  | succ n ih =>
    intro x1 x2 x3 A r A' hf
    exact gt_149_4b hfz N c R d hd (g_149_4 N n) ih x1 x2 x3 A r A' hf
set_option maxRecDepth 100000 in
set_option maxHeartbeats 4000000 in
theorem gt_149 {fz : Value} {sc : Nat × (Nat → Int32)} (hfz : fz = .null ∨ fz = .retAddr 60) (N : Nat) (c : Nat → aC) (R : List aC) (d : Nat) (hd : 0 ≤ d) (x1 : Int32) (A : mS) (r : Int32) (A' : mS) (hf : g_149 N x1 A = some (r, A')) : v_V fz sc d 149 0 [some (.ref 22), some (.int x1), none, none, none] [] (hM c A R) (fun rv h' => rv = some (.int r) ∧ h' = hM c A' R) := by
  unfold g_149 at hf
  refine v_blk 4 (i' := 4) (L' := [some (.ref 22), some (.int x1), some (.int (0 : Int32)), some (.int (0 : Int32)), none]) (st' := []) (h' := (hM c A R)) (fun _ => rfl) ?_
  exact gt_149_4 hfz N c R d hd N x1 (0 : Int32) (0 : Int32) A _ _ hf
set_option maxRecDepth 100000 in
set_option maxHeartbeats 4000000 in
theorem gt_150_63b {fz : Value} {sc : Nat × (Nat → Int32)} (hfz : fz = .null ∨ fz = .retAddr 60) (N : Nat) (c : Nat → aC) (R : List aC) (d : Nat) (hd : 1 ≤ d) (rc63 : Int32 → Int32 → Int32 → Int32 → mS → Option (Int32 × mS)) (hrc63 : ∀ (x2 : Int32) (x3 : Int32) (x4 : Int32) (x5 : Int32) (A : mS) (r : Int32) (A' : mS), rc63 x2 x3 x4 x5 A = some (r, A') → v_V fz sc d 150 63 [some (.ref 22), none, some (.int x2), some (.int x3), some (.int x4), some (.int x5)] [] (hM c A R) (fun rv h' => rv = some (.int r) ∧ h' = hM c A' R)) (x2 : Int32) (x3 : Int32) (x4 : Int32) (x5 : Int32) (A : mS) (r : Int32) (A' : mS) (hf : g_150_63b N rc63 x2 x3 x4 x5 A = some (r, A')) : v_V fz sc d 150 63 [some (.ref 22), none, some (.int x2), some (.int x3), some (.int x4), some (.int x5)] [] (hM c A R) (fun rv h' => rv = some (.int r) ∧ h' = hM c A' R) := by
  unfold g_150_63b at hf
  obtain ⟨d, rfl⟩ : ∃ z, d = z + 1 := ⟨d - 1, by omega⟩
  refine v_blk 6 (i' := (bif (a_ic .ge x5 ((A 0) 11)) then 87 else 69)) (L' := [some (.ref 22), none, some (.int x2), some (.int x3), some (.int x4), some (.int x5)]) (st' := []) (h' := (hM c A R)) (fun _ => rfl) ?_
  rcases Bool.eq_false_or_eq_true (a_ic .ge x5 ((A 0) 11)) with hb | hb
  · have hf := a_bt hb hf
    refine v_it hb ?_
    obtain ⟨hg, hf⟩ := a_bif hf
    refine v_grd 6 (i' := 93) (L' := [some (.ref 22), none, some (.int x2), some (.int x3), some (.int x4), some (.int x5)]) (st' := [(.int ((A 6) ((A 99 14)).toNatClampNeg)), (.int x2)]) (h' := (hM c A R)) (fun _ => rfl) hg ?_
    obtain ⟨y7, hy, hf⟩ := m_li_ok hf
    rw [hy]
    obtain ⟨hg, hf⟩ := a_bif hf
    refine v_grd 4 (i' := 97) (L' := [some (.ref 22), none, some (.int x2), some (.int x3), some (.int x4), some (.int x5)]) (st' := [(.int ((y7 - x3) / x4)), (.int x2)]) (h' := (hM c A R)) (fun _ => rfl) hg ?_
    obtain ⟨y8, hy, hf⟩ := m_li_ok hf
    rw [hy]
    refine v_blk 4 (i' := (bif (a_ic .ge (x2 - y8) (0 : Int32)) then 103 else 101)) (L' := [some (.ref 22), none, some (.int x2), some (.int x3), some (.int x4), some (.int (x2 - y8))]) (st' := []) (h' := (hM c A R)) (fun _ => rfl) ?_
    rcases Bool.eq_false_or_eq_true (a_ic .ge (x2 - y8) (0 : Int32)) with hb | hb
    · have hf := a_bt hb hf
      refine v_it hb ?_
      obtain ⟨rfl, rfl⟩ := m_rt hf
      exact v_ret 2 (fun _ => rfl) ⟨rfl, rfl⟩
    · have hf := a_be hb hf
      refine v_ie hb ?_
      obtain ⟨rfl, rfl⟩ := m_rt hf
      exact v_ret 3 (fun _ => rfl) ⟨rfl, rfl⟩
  · have hf := a_be hb hf
    refine v_ie hb ?_
    obtain ⟨hg, hf⟩ := a_bif hf
    refine v_grd 10 (i' := 79) (L' := [some (.ref 22), none, some (.int x2), some (.int x3), some (.int x4), some (.int x5)]) (st' := [(.int ((A 5) ((((4 : Int32) * x5) + (A 99 14))).toNatClampNeg)), (.int x4)]) (h' := (hM c A R)) (fun _ => rfl) hg ?_
    obtain ⟨y9, hy, hf⟩ := m_li_ok hf
    rw [hy]
    refine v_blk 1 (i' := (bif (a_ic .le y9 (0 : Int32)) then 82 else 80)) (L' := [some (.ref 22), none, some (.int x2), some (.int x3), some (.int x4), some (.int x5)]) (st' := [(.int x4)]) (h' := (hM c A R)) (fun _ => rfl) ?_
    rcases Bool.eq_false_or_eq_true (a_ic .le y9 (0 : Int32)) with hb | hb
    · have hf := a_bt hb hf
      refine v_it hb ?_
      refine v_blk 5 (i' := 63) (L' := [some (.ref 22), none, some (.int x2), some (.int x3), some (.int (x4 + (0 : Int32))), some (.int (x5 + (1 : Int32)))]) (st' := []) (h' := (hM c A R)) (fun _ => rfl) ?_
      exact hrc63 x2 x3 (x4 + (0 : Int32)) (x5 + (1 : Int32)) A _ _ hf
    · have hf := a_be hb hf
      refine v_ie hb ?_
      refine v_blk 6 (i' := 63) (L' := [some (.ref 22), none, some (.int x2), some (.int x3), some (.int (x4 + (1 : Int32))), some (.int (x5 + (1 : Int32)))]) (st' := []) (h' := (hM c A R)) (fun _ => rfl) ?_
      exact hrc63 x2 x3 (x4 + (1 : Int32)) (x5 + (1 : Int32)) A _ _ hf
theorem gt_150_63 {fz : Value} {sc : Nat × (Nat → Int32)} (hfz : fz = .null ∨ fz = .retAddr 60) (N : Nat) (c : Nat → aC) (R : List aC) (d : Nat) (hd : 1 ≤ d) : ∀ (n : Nat) (x2 : Int32) (x3 : Int32) (x4 : Int32) (x5 : Int32) (A : mS) (r : Int32) (A' : mS) (hf : g_150_63 N n x2 x3 x4 x5 A = some (r, A')), v_V fz sc d 150 63 [some (.ref 22), none, some (.int x2), some (.int x3), some (.int x4), some (.int x5)] [] (hM c A R) (fun rv h' => rv = some (.int r) ∧ h' = hM c A' R) := by
  intro n
  induction n with
  | zero => intro x2 x3 x4 x5 A r A' hf; cases hf
  | succ n ih =>
    intro x2 x3 x4 x5 A r A' hf
    exact gt_150_63b hfz N c R d hd (g_150_63 N n) ih x2 x3 x4 x5 A r A' hf
set_option maxRecDepth 100000 in
set_option maxHeartbeats 4000000 in
theorem gt_150_37b {fz : Value} {sc : Nat × (Nat → Int32)} (hfz : fz = .null ∨ fz = .retAddr 60) (N : Nat) (c : Nat → aC) (R : List aC) (d : Nat) (hd : 1 ≤ d) (rc37 : Int32 → Int32 → Int32 → mS → Option (Int32 × mS)) (hrc37 : ∀ (x2 : Int32) (x3 : Int32) (x4 : Int32) (A : mS) (r : Int32) (A' : mS), rc37 x2 x3 x4 A = some (r, A') → v_V fz sc d 150 37 [some (.ref 22), none, some (.int x2), some (.int x3), some (.int x4), none] [] (hM c A R) (fun rv h' => rv = some (.int r) ∧ h' = hM c A' R)) (x2 : Int32) (x3 : Int32) (x4 : Int32) (A : mS) (r : Int32) (A' : mS) (hf : g_150_37b N rc37 x2 x3 x4 A = some (r, A')) : v_V fz sc d 150 37 [some (.ref 22), none, some (.int x2), some (.int x3), some (.int x4), none] [] (hM c A R) (fun rv h' => rv = some (.int r) ∧ h' = hM c A' R) := by
  unfold g_150_37b at hf
  obtain ⟨d, rfl⟩ : ∃ z, d = z + 1 := ⟨d - 1, by omega⟩
  refine v_blk 3 (i' := (bif (a_ic .ge x4 (4 : Int32)) then 59 else 40)) (L' := [some (.ref 22), none, some (.int x2), some (.int x3), some (.int x4), none]) (st' := []) (h' := (hM c A R)) (fun _ => rfl) ?_
  rcases Bool.eq_false_or_eq_true (a_ic .ge x4 (4 : Int32)) with hb | hb
  · have hf := a_bt hb hf
    refine v_it hb ?_
    refine v_blk 4 (i' := 63) (L' := [some (.ref 22), none, some (.int x2), some (.int x3), some (.int (0 : Int32)), some (.int (0 : Int32))]) (st' := []) (h' := (hM c A R)) (fun _ => rfl) ?_
    exact gt_150_63 hfz N c R (d + 1) hd N x2 x3 (0 : Int32) (0 : Int32) A _ _ hf
  · have hf := a_be hb hf
    refine v_ie hb ?_
    refine v_blk 4 (i' := (bif (a_ic .eq x4 (A 99 14)) then 55 else 44)) (L' := [some (.ref 22), none, some (.int x2), some (.int x3), some (.int x4), none]) (st' := []) (h' := (hM c A R)) (fun _ => rfl) ?_
    rcases Bool.eq_false_or_eq_true (a_ic .eq x4 (A 99 14)) with hb | hb
    · have hf := a_bt hb hf
      refine v_it hb ?_
      refine v_blk 4 (i' := 37) (L' := [some (.ref 22), none, some (.int x2), some (.int x3), some (.int (x4 + (1 : Int32))), none]) (st' := []) (h' := (hM c A R)) (fun _ => rfl) ?_
      exact hrc37 x2 x3 (x4 + (1 : Int32)) A _ _ hf
    · have hf := a_be hb hf
      refine v_ie hb ?_
      obtain ⟨hg, hf⟩ := a_bif hf
      refine v_grd 4 (i' := 48) (L' := [some (.ref 22), none, some (.int x2), some (.int x3), some (.int x4), none]) (st' := [(.int ((A 6) (x4).toNatClampNeg))]) (h' := (hM c A R)) (fun _ => rfl) hg ?_
      obtain ⟨y5, hy, hf⟩ := m_li_ok hf
      rw [hy]
      refine v_blk 2 (i' := (bif (a_ic .le y5 x3) then 55 else 50)) (L' := [some (.ref 22), none, some (.int x2), some (.int x3), some (.int x4), none]) (st' := []) (h' := (hM c A R)) (fun _ => rfl) ?_
      rcases Bool.eq_false_or_eq_true (a_ic .le y5 x3) with hb | hb
      · have hf := a_bt hb hf
        refine v_it hb ?_
        refine v_blk 4 (i' := 37) (L' := [some (.ref 22), none, some (.int x2), some (.int x3), some (.int (x4 + (1 : Int32))), none]) (st' := []) (h' := (hM c A R)) (fun _ => rfl) ?_
        exact hrc37 x2 x3 (x4 + (1 : Int32)) A _ _ hf
      · have hf := a_be hb hf
        refine v_ie hb ?_
        obtain ⟨hg, hf⟩ := a_bif hf
        refine v_grd 4 (i' := 54) (L' := [some (.ref 22), none, some (.int x2), some (.int x3), some (.int x4), none]) (st' := [(.int ((A 6) (x4).toNatClampNeg))]) (h' := (hM c A R)) (fun _ => rfl) hg ?_
        obtain ⟨y6, hy, hf⟩ := m_li_ok hf
        rw [hy]
        refine v_blk 4 (i' := 37) (L' := [some (.ref 22), none, some (.int x2), some (.int y6), some (.int (x4 + (1 : Int32))), none]) (st' := []) (h' := (hM c A R)) (fun _ => rfl) ?_
        exact hrc37 x2 y6 (x4 + (1 : Int32)) A _ _ hf
theorem gt_150_37 {fz : Value} {sc : Nat × (Nat → Int32)} (hfz : fz = .null ∨ fz = .retAddr 60) (N : Nat) (c : Nat → aC) (R : List aC) (d : Nat) (hd : 1 ≤ d) : ∀ (n : Nat) (x2 : Int32) (x3 : Int32) (x4 : Int32) (A : mS) (r : Int32) (A' : mS) (hf : g_150_37 N n x2 x3 x4 A = some (r, A')), v_V fz sc d 150 37 [some (.ref 22), none, some (.int x2), some (.int x3), some (.int x4), none] [] (hM c A R) (fun rv h' => rv = some (.int r) ∧ h' = hM c A' R) := by
  intro n
  induction n with
  | zero => intro x2 x3 x4 A r A' hf; cases hf
  | succ n ih =>
    intro x2 x3 x4 A r A' hf
    exact gt_150_37b hfz N c R d hd (g_150_37 N n) ih x2 x3 x4 A r A' hf
set_option maxRecDepth 100000 in
set_option maxHeartbeats 4000000 in
theorem gt_150_17 {fz : Value} {sc : Nat × (Nat → Int32)} (hfz : fz = .null ∨ fz = .retAddr 60) (N : Nat) (c : Nat → aC) (R : List aC) (d : Nat) (hd : 1 ≤ d) (x2 : Int32) (A : mS) (r : Int32) (A' : mS) (hf : g_150_17 N x2 A = some (r, A')) : v_V fz sc d 150 17 [some (.ref 22), none, some (.int x2), none, none, none] [] (hM c A R) (fun rv h' => rv = some (.int r) ∧ h' = hM c A' R) := by
  unfold g_150_17 at hf
  obtain ⟨d, rfl⟩ : ∃ z, d = z + 1 := ⟨d - 1, by omega⟩
  refine v_blk 3 (i' := (bif (a_ic .eq (A 99 15) (0 : Int32)) then 22 else 20)) (L' := [some (.ref 22), none, some (.int x2), none, none, none]) (st' := []) (h' := (hM c A R)) (fun _ => rfl) ?_
  rcases Bool.eq_false_or_eq_true (a_ic .eq (A 99 15) (0 : Int32)) with hb | hb
  · have hf := a_bt hb hf
    refine v_it hb ?_
    obtain ⟨rfl, rfl⟩ := m_rt hf
    exact v_ret 2 (fun _ => rfl) ⟨rfl, rfl⟩
  · have hf := a_be hb hf
    refine v_ie hb ?_
    obtain ⟨rfl, rfl⟩ := m_rt hf
    exact v_ret 3 (fun _ => rfl) ⟨rfl, rfl⟩
set_option maxRecDepth 100000 in
set_option maxHeartbeats 4000000 in
theorem gt_150 {fz : Value} {sc : Nat × (Nat → Int32)} (hfz : fz = .null ∨ fz = .retAddr 60) (N : Nat) (c : Nat → aC) (R : List aC) (d : Nat) (hd : 1 ≤ d) (x1 : Int32) (A : mS) (r : Int32) (A' : mS) (hf : g_150 N x1 A = some (r, A')) : v_V fz sc d 150 0 [some (.ref 22), some (.int x1), none, none, none, none] [] (hM c A R) (fun rv h' => rv = some (.int r) ∧ h' = hM c A' R) := by
  unfold g_150 at hf
  obtain ⟨d, rfl⟩ : ∃ z, d = z + 1 := ⟨d - 1, by omega⟩
  obtain ⟨hg, hf⟩ := a_bif hf
  refine v_grd 9 (i' := 9) (L' := [some (.ref 22), some (.int x1), none, none, none, none]) (st' := [(.int ((A 5) ((((4 : Int32) * x1) + (A 99 14))).toNatClampNeg))]) (h' := (hM c A R)) (fun _ => rfl) hg ?_
  obtain ⟨y1, hy, hf⟩ := m_li_ok hf
  rw [hy]
  refine v_blk 4 (i' := (bif (a_ic .ne (A 99 15) (0 : Int32)) then 17 else 13)) (L' := [some (.ref 22), some (.int x1), some (.int y1), none, none, none]) (st' := []) (h' := (hM c A R)) (fun _ => rfl) ?_
  rcases Bool.eq_false_or_eq_true (a_ic .ne (A 99 15) (0 : Int32)) with hb | hb
  · have hf := a_bt hb hf
    refine v_it hb ?_
    refine v_weak (L' := [some (.ref 22), none, some (.int y1), none, none, none]) (show a_wk [some (.ref 22), none, some (.int y1), none, none, none] [some (.ref 22), some (.int x1), some (.int y1), none, none, none] from ⟨rfl, ⟨(fun v hv => by cases hv; rfl), ⟨rfl, ⟨(fun v hv => by cases hv), ⟨(fun v hv => by cases hv), ⟨(fun v hv => by cases hv), trivial⟩⟩⟩⟩⟩⟩) ?_
    exact gt_150_17 hfz N c R (d + 1) hd y1 A _ _ hf
  · have hf := a_be hb hf
    refine v_ie hb ?_
    obtain ⟨r2, A2, hc, hf⟩ := m_bd_ok hf
    refine v_call 3 (k' := 132) (i' := 16) (E := [some (.ref 22), some (.int (232 : Int32))]) (L' := [some (.ref 22), some (.int x1), some (.int y1), none, none, none]) (rest := []) (h1 := (hM c A R)) (fun _ => rfl) ?_
    refine v_post (gt_132 hfz N c R d (by omega) (232 : Int32) A _ _ hc) ?_
    rintro rv h' ⟨rfl, rfl⟩
    refine v_blk 1 (i' := (bif (a_ic .ne r2 (0 : Int32)) then 24 else 17)) (L' := [some (.ref 22), some (.int x1), some (.int y1), none, none, none]) (st' := []) (h' := (hM c A2 R)) (fun _ => rfl) ?_
    rcases Bool.eq_false_or_eq_true (a_ic .ne r2 (0 : Int32)) with hb | hb
    · have hf := a_bt hb hf
      refine v_it hb ?_
      obtain ⟨r3, A3, hc, hf⟩ := m_bd_ok hf
      refine v_call 3 (k' := 132) (i' := 27) (E := [some (.ref 22), some (.int (232 : Int32))]) (L' := [some (.ref 22), some (.int x1), some (.int y1), none, none, none]) (rest := []) (h1 := (hM c A2 R)) (fun _ => rfl) ?_
      refine v_post (gt_132 hfz N c R d (by omega) (232 : Int32) A2 _ _ hc) ?_
      rintro rv h' ⟨rfl, rfl⟩
      refine v_blk 2 (i' := (bif (a_ic .ne r3 (1 : Int32)) then 33 else 29)) (L' := [some (.ref 22), some (.int x1), some (.int y1), none, none, none]) (st' := []) (h' := (hM c A3 R)) (fun _ => rfl) ?_
      rcases Bool.eq_false_or_eq_true (a_ic .ne r3 (1 : Int32)) with hb | hb
      · have hf := a_bt hb hf
        refine v_it hb ?_
        refine v_blk 4 (i' := 37) (L' := [some (.ref 22), some (.int x1), some (.int y1), some (.int (0 : Int32)), some (.int (0 : Int32)), none]) (st' := []) (h' := (hM c A3 R)) (fun _ => rfl) ?_
        refine v_weak (L' := [some (.ref 22), none, some (.int y1), some (.int (0 : Int32)), some (.int (0 : Int32)), none]) (show a_wk [some (.ref 22), none, some (.int y1), some (.int (0 : Int32)), some (.int (0 : Int32)), none] [some (.ref 22), some (.int x1), some (.int y1), some (.int (0 : Int32)), some (.int (0 : Int32)), none] from ⟨rfl, ⟨(fun v hv => by cases hv; rfl), ⟨rfl, ⟨rfl, ⟨rfl, ⟨(fun v hv => by cases hv), trivial⟩⟩⟩⟩⟩⟩) ?_
        exact gt_150_37 hfz N c R (d + 1) hd N y1 (0 : Int32) (0 : Int32) A3 _ _ hf
      · have hf := a_be hb hf
        refine v_ie hb ?_
        obtain ⟨r4, A4, hc, hf⟩ := m_bd_ok hf
        refine v_call 3 (k' := 149) (i' := 32) (E := [some (.ref 22), some (.int x1), none, none, none]) (L' := [some (.ref 22), some (.int x1), some (.int y1), none, none, none]) (rest := []) (h1 := (hM c A3 R)) (fun _ => rfl) ?_
        refine v_post (gt_149 hfz N c R d (by omega) x1 A3 _ _ hc) ?_
        rintro rv h' ⟨rfl, rfl⟩
        obtain ⟨rfl, rfl⟩ := m_rt hf
        exact v_ret 1 (fun _ => rfl) ⟨rfl, rfl⟩
    · have hf := a_be hb hf
      refine v_ie hb ?_
      refine v_weak (L' := [some (.ref 22), none, some (.int y1), none, none, none]) (show a_wk [some (.ref 22), none, some (.int y1), none, none, none] [some (.ref 22), some (.int x1), some (.int y1), none, none, none] from ⟨rfl, ⟨(fun v hv => by cases hv; rfl), ⟨rfl, ⟨(fun v hv => by cases hv), ⟨(fun v hv => by cases hv), ⟨(fun v hv => by cases hv), trivial⟩⟩⟩⟩⟩⟩) ?_
      exact gt_150_17 hfz N c R (d + 1) hd y1 A2 _ _ hf
set_option maxRecDepth 100000 in
set_option maxHeartbeats 4000000 in
theorem gt_151 {fz : Value} {sc : Nat × (Nat → Int32)} (hfz : fz = .null ∨ fz = .retAddr 60) (N : Nat) (c : Nat → aC) (R : List aC) (d : Nat) (hd : 3 ≤ d) (x1 : Int32) (A : mS) (r : Int32) (A' : mS) (hf : g_151 N x1 A = some (r, A')) : v_V fz sc d 151 0 [some (.ref 22), some (.int x1)] [] (hM c A R) (fun rv h' => rv = some (.int r) ∧ h' = hM c A' R) := by
  unfold g_151 at hf
  obtain ⟨d, rfl⟩ : ∃ z, d = z + 1 := ⟨d - 1, by omega⟩
  obtain ⟨r1, A1, hc, hf⟩ := m_bd_ok hf
  refine v_call 5 (k' := 134) (i' := 5) (E := [some (.ref 22), some (.int x1), some (.int (A 99 14))]) (L' := [some (.ref 22), some (.int x1)]) (rest := []) (h1 := (hM c A R)) (fun _ => rfl) ?_
  refine v_post (gt_134 hfz N c R d (by omega) x1 (A 99 14) A _ _ hc) ?_
  rintro rv h' ⟨rfl, rfl⟩
  obtain ⟨r2, A2, hc, hf⟩ := m_bd_ok hf
  refine v_call 3 (k' := 150) (i' := 8) (E := [some (.ref 22), some (.int x1), none, none, none, none]) (L' := [some (.ref 22), some (.int x1)]) (rest := [(.int r1)]) (h1 := (hM c A1 R)) (fun _ => rfl) ?_
  refine v_post (gt_150 hfz N c R d (by omega) x1 A1 _ _ hc) ?_
  rintro rv h' ⟨rfl, rfl⟩
  obtain ⟨rfl, rfl⟩ := m_rt hf
  exact v_ret 2 (fun _ => rfl) ⟨rfl, rfl⟩
set_option maxRecDepth 100000 in
set_option maxHeartbeats 4000000 in
theorem gt_152_104 {fz : Value} {sc : Nat × (Nat → Int32)} (hfz : fz = .null ∨ fz = .retAddr 60) (N : Nat) (c : Nat → aC) (R : List aC) (d : Nat) (hd : 7 ≤ d) (t1 : Int32) (t2 : Int32) (A : mS) (r : Int32) (A' : mS) (hf : g_152_104 N t1 t2 A = some (r, A')) : v_V fz sc d 152 104 [some (.ref 22), none, none, none] [(.int t2), (.int t1), (.ref 23)] (hM c A R) (fun rv h' => rv = none ∧ h' = hM c A' R) := by
  unfold g_152_104 at hf
  obtain ⟨d, rfl⟩ : ∃ z, d = z + 1 := ⟨d - 1, by omega⟩
  obtain ⟨hg, hf⟩ := a_bif hf
  refine v_grd 1 (i' := 105) (L' := [some (.ref 22), none, none, none]) (st' := []) (h' := (hM c (va_up A 0 (upd (A 0) (t1).toNatClampNeg t2)) R)) (fun _ => rfl) hg ?_
  obtain ⟨A11, hA, hf⟩ := m_st_ok hf
  rw [hA]
  obtain ⟨rfl, rfl⟩ := m_rt hf
  exact v_ret 15 (fun _ => rfl) ⟨rfl, rfl⟩
set_option maxRecDepth 100000 in
set_option maxHeartbeats 4000000 in
theorem gt_152_83 {fz : Value} {sc : Nat × (Nat → Int32)} (hfz : fz = .null ∨ fz = .retAddr 60) (N : Nat) (c : Nat → aC) (R : List aC) (d : Nat) (hd : 7 ≤ d) (t1 : Int32) (t2 : Int32) (t3 : Int32) (A : mS) (r : Int32) (A' : mS) (hf : g_152_83 N t1 t2 t3 A = some (r, A')) : v_V fz sc d 152 83 [some (.ref 22), none, none, none] [(.int t3), (.int t2), (.int t1), (.ref 23)] (hM c A R) (fun rv h' => rv = none ∧ h' = hM c A' R) := by
  unfold g_152_83 at hf
  obtain ⟨d, rfl⟩ : ∃ z, d = z + 1 := ⟨d - 1, by omega⟩
  obtain ⟨hg, hf⟩ := a_bif hf
  refine v_grd 2 (i' := 85) (L' := [some (.ref 22), none, none, none]) (st' := []) (h' := (hM c (va_up A 0 (upd (A 0) (t1).toNatClampNeg (t2 + t3))) R)) (fun _ => rfl) hg ?_
  obtain ⟨A6, hA, hf⟩ := m_st_ok hf
  rw [hA]
  refine v_blk 8 (i' := (bif (a_ic .ne ((A6 0) 13) (0 : Int32)) then 95 else 93)) (L' := [some (.ref 22), none, none, none]) (st' := [(.int (2 : Int32)), (.ref 23)]) (h' := (hM c A6 R)) (fun _ => rfl) ?_
  rcases Bool.eq_false_or_eq_true (a_ic .ne ((A6 0) 13) (0 : Int32)) with hb | hb
  · have hf := a_bt hb hf
    refine v_it hb ?_
    obtain ⟨hg, hf⟩ := a_bif hf
    refine v_grd 9 (i' := 104) (L' := [some (.ref 22), none, none, none]) (st' := [(.int (((A6 0) 2) - ((A6 0) 2) / ((A6 0) 13) * ((A6 0) 13))), (.int (2 : Int32)), (.ref 23)]) (h' := (hM c A6 R)) (fun _ => rfl) hg ?_
    obtain ⟨y7, hy, hf⟩ := m_li_ok hf
    rw [hy]
    exact gt_152_104 hfz N c R (d + 1) hd (2 : Int32) y7 A6 _ _ hf
  · have hf := a_be hb hf
    refine v_ie hb ?_
    refine v_blk 2 (i' := 104) (L' := [some (.ref 22), none, none, none]) (st' := [(.int (0 : Int32)), (.int (2 : Int32)), (.ref 23)]) (h' := (hM c A6 R)) (fun _ => rfl) ?_
    exact gt_152_104 hfz N c R (d + 1) hd (2 : Int32) (0 : Int32) A6 _ _ hf
set_option maxRecDepth 100000 in
set_option maxHeartbeats 4000000 in
theorem gt_152_53 {fz : Value} {sc : Nat × (Nat → Int32)} (hfz : fz = .null ∨ fz = .retAddr 60) (N : Nat) (c : Nat → aC) (R : List aC) (d : Nat) (hd : 7 ≤ d) (rc23 : Int32 → mS → Option (Int32 × mS)) (hrc23 : ∀ (x1 : Int32) (A : mS) (r : Int32) (A' : mS), rc23 x1 A = some (r, A') → v_V fz sc d 152 23 [some (.ref 22), some (.int x1), none, none] [] (hM c A R) (fun rv h' => rv = none ∧ h' = hM c A' R)) (x1 : Int32) (t0 : Int32) (A : mS) (r : Int32) (A' : mS) (hf : g_152_53 N rc23 x1 t0 A = some (r, A')) : v_V fz sc d 152 53 [some (.ref 22), some (.int x1), none, none] [(.int t0)] (hM c A R) (fun rv h' => rv = none ∧ h' = hM c A' R) := by
  unfold g_152_53 at hf
  obtain ⟨d, rfl⟩ : ∃ z, d = z + 1 := ⟨d - 1, by omega⟩
  obtain ⟨r8, A8, hc, hf⟩ := m_bd_ok hf
  refine v_call 3 (k' := 132) (i' := 56) (E := [some (.ref 22), some (.int (237 : Int32))]) (L' := [some (.ref 22), some (.int x1), none, none]) (rest := [(.int t0)]) (h1 := (hM c A R)) (fun _ => rfl) ?_
  refine v_post (gt_132 hfz N c R d (by omega) (237 : Int32) A _ _ hc) ?_
  rintro rv h' ⟨rfl, rfl⟩
  refine v_blk 10 (i' := (bif (a_ic .le (t0 + r8) (999 : Int32)) then 68 else 66)) (L' := [some (.ref 22), some (.int x1), none, some (.int (t0 + r8))]) (st' := [(.int ((3 : Int32) + x1)), (.ref 23)]) (h' := (hM c A8 R)) (fun _ => rfl) ?_
  rcases Bool.eq_false_or_eq_true (a_ic .le (t0 + r8) (999 : Int32)) with hb | hb
  · have hf := a_bt hb hf
    refine v_it hb ?_
    obtain ⟨hg, hf⟩ := a_bif hf
    refine v_grd 2 (i' := 70) (L' := [some (.ref 22), some (.int x1), none, some (.int (t0 + r8))]) (st' := []) (h' := (hM c (va_up A8 0 (upd (A8 0) (((3 : Int32) + x1)).toNatClampNeg (t0 + r8))) R)) (fun _ => rfl) hg ?_
    obtain ⟨A9, hA, hf⟩ := m_st_ok hf
    rw [hA]
    refine v_blk 2 (i' := 23) (L' := [some (.ref 22), some (.int (x1 + (1 : Int32))), none, some (.int (t0 + r8))]) (st' := []) (h' := (hM c A9 R)) (fun _ => rfl) ?_
    refine v_weak (L' := [some (.ref 22), some (.int (x1 + (1 : Int32))), none, none]) (show a_wk [some (.ref 22), some (.int (x1 + (1 : Int32))), none, none] [some (.ref 22), some (.int (x1 + (1 : Int32))), none, some (.int (t0 + r8))] from ⟨rfl, ⟨rfl, ⟨(fun v hv => by cases hv), ⟨(fun v hv => by cases hv; rfl), trivial⟩⟩⟩⟩) ?_
    exact hrc23 (x1 + (1 : Int32)) A9 _ _ hf
  · have hf := a_be hb hf
    refine v_ie hb ?_
    obtain ⟨hg, hf⟩ := a_bif hf
    refine v_grd 3 (i' := 70) (L' := [some (.ref 22), some (.int x1), none, some (.int (t0 + r8))]) (st' := []) (h' := (hM c (va_up A8 0 (upd (A8 0) (((3 : Int32) + x1)).toNatClampNeg (999 : Int32))) R)) (fun _ => rfl) hg ?_
    obtain ⟨A10, hA, hf⟩ := m_st_ok hf
    rw [hA]
    refine v_blk 2 (i' := 23) (L' := [some (.ref 22), some (.int (x1 + (1 : Int32))), none, some (.int (t0 + r8))]) (st' := []) (h' := (hM c A10 R)) (fun _ => rfl) ?_
    refine v_weak (L' := [some (.ref 22), some (.int (x1 + (1 : Int32))), none, none]) (show a_wk [some (.ref 22), some (.int (x1 + (1 : Int32))), none, none] [some (.ref 22), some (.int (x1 + (1 : Int32))), none, some (.int (t0 + r8))] from ⟨rfl, ⟨rfl, ⟨(fun v hv => by cases hv), ⟨(fun v hv => by cases hv; rfl), trivial⟩⟩⟩⟩) ?_
    exact hrc23 (x1 + (1 : Int32)) A10 _ _ hf
set_option maxRecDepth 100000 in
set_option maxHeartbeats 4000000 in
theorem gt_152_23b {fz : Value} {sc : Nat × (Nat → Int32)} (hfz : fz = .null ∨ fz = .retAddr 60) (N : Nat) (c : Nat → aC) (R : List aC) (d : Nat) (hd : 7 ≤ d) (rc23 : Int32 → mS → Option (Int32 × mS)) (hrc23 : ∀ (x1 : Int32) (A : mS) (r : Int32) (A' : mS), rc23 x1 A = some (r, A') → v_V fz sc d 152 23 [some (.ref 22), some (.int x1), none, none] [] (hM c A R) (fun rv h' => rv = none ∧ h' = hM c A' R)) (x1 : Int32) (A : mS) (r : Int32) (A' : mS) (hf : g_152_23b N rc23 x1 A = some (r, A')) : v_V fz sc d 152 23 [some (.ref 22), some (.int x1), none, none] [] (hM c A R) (fun rv h' => rv = none ∧ h' = hM c A' R) := by
  unfold g_152_23b at hf
  obtain ⟨d, rfl⟩ : ∃ z, d = z + 1 := ⟨d - 1, by omega⟩
  refine v_blk 6 (i' := (bif (a_ic .ge x1 ((A 0) 11)) then 72 else 29)) (L' := [some (.ref 22), some (.int x1), none, none]) (st' := []) (h' := (hM c A R)) (fun _ => rfl) ?_
  rcases Bool.eq_false_or_eq_true (a_ic .ge x1 ((A 0) 11)) with hb | hb
  · have hf := a_bt hb hf
    refine v_it hb ?_
    refine v_blk 8 (i' := (bif (a_ic .eq (A 99 15) (0 : Int32)) then 82 else 80)) (L' := [some (.ref 22), some (.int x1), none, none]) (st' := [(.int ((A 0) 2)), (.int (2 : Int32)), (.ref 23)]) (h' := (hM c A R)) (fun _ => rfl) ?_
    rcases Bool.eq_false_or_eq_true (a_ic .eq (A 99 15) (0 : Int32)) with hb | hb
    · have hf := a_bt hb hf
      refine v_it hb ?_
      refine v_blk 1 (i' := 83) (L' := [some (.ref 22), some (.int x1), none, none]) (st' := [(.int (0 : Int32)), (.int ((A 0) 2)), (.int (2 : Int32)), (.ref 23)]) (h' := (hM c A R)) (fun _ => rfl) ?_
      refine v_weak (L' := [some (.ref 22), none, none, none]) (show a_wk [some (.ref 22), none, none, none] [some (.ref 22), some (.int x1), none, none] from ⟨rfl, ⟨(fun v hv => by cases hv; rfl), ⟨(fun v hv => by cases hv), ⟨(fun v hv => by cases hv), trivial⟩⟩⟩⟩) ?_
      exact gt_152_83 hfz N c R (d + 1) hd (2 : Int32) ((A 0) 2) (0 : Int32) A _ _ hf
    · have hf := a_be hb hf
      refine v_ie hb ?_
      refine v_blk 2 (i' := 83) (L' := [some (.ref 22), some (.int x1), none, none]) (st' := [(.int (1 : Int32)), (.int ((A 0) 2)), (.int (2 : Int32)), (.ref 23)]) (h' := (hM c A R)) (fun _ => rfl) ?_
      refine v_weak (L' := [some (.ref 22), none, none, none]) (show a_wk [some (.ref 22), none, none, none] [some (.ref 22), some (.int x1), none, none] from ⟨rfl, ⟨(fun v hv => by cases hv; rfl), ⟨(fun v hv => by cases hv), ⟨(fun v hv => by cases hv), trivial⟩⟩⟩⟩) ?_
      exact gt_152_83 hfz N c R (d + 1) hd (2 : Int32) ((A 0) 2) (1 : Int32) A _ _ hf
  · have hf := a_be hb hf
    refine v_ie hb ?_
    obtain ⟨r4, A4, hc, hf⟩ := m_bd_ok hf
    refine v_call 3 (k' := 150) (i' := 32) (E := [some (.ref 22), some (.int x1), none, none, none, none]) (L' := [some (.ref 22), some (.int x1), none, none]) (rest := []) (h1 := (hM c A R)) (fun _ => rfl) ?_
    refine v_post (gt_150 hfz N c R d (by omega) x1 A _ _ hc) ?_
    rintro rv h' ⟨rfl, rfl⟩
    obtain ⟨hg, hf⟩ := a_bif hf
    refine v_grd 13 (i' := 45) (L' := [some (.ref 22), some (.int x1), some (.int r4), none]) (st' := [(.int ((A4 0) (((3 : Int32) + x1)).toNatClampNeg))]) (h' := (hM c (va_up A4 99 (upd (A4 99) 17 ((A4 99 17) + r4))) R)) (fun _ => rfl) hg ?_
    obtain ⟨A5, hA, hf⟩ := m_st_ok hf
    rw [hA]
    refine v_blk 5 (i' := (bif (a_ic .ge (((A4 0) (((3 : Int32) + x1)).toNatClampNeg) - r4) (0 : Int32)) then 52 else 50)) (L' := [some (.ref 22), some (.int x1), some (.int r4), some (.int (((A4 0) (((3 : Int32) + x1)).toNatClampNeg) - r4))]) (st' := []) (h' := (hM c A5 R)) (fun _ => rfl) ?_
    rcases Bool.eq_false_or_eq_true (a_ic .ge (((A4 0) (((3 : Int32) + x1)).toNatClampNeg) - r4) (0 : Int32)) with hb | hb
    · have hf := a_bt hb hf
      refine v_it hb ?_
      refine v_blk 1 (i' := 53) (L' := [some (.ref 22), some (.int x1), some (.int r4), some (.int (((A4 0) (((3 : Int32) + x1)).toNatClampNeg) - r4))]) (st' := [(.int (((A4 0) (((3 : Int32) + x1)).toNatClampNeg) - r4))]) (h' := (hM c A5 R)) (fun _ => rfl) ?_
      refine v_weak (L' := [some (.ref 22), some (.int x1), none, none]) (show a_wk [some (.ref 22), some (.int x1), none, none] [some (.ref 22), some (.int x1), some (.int r4), some (.int (((A4 0) (((3 : Int32) + x1)).toNatClampNeg) - r4))] from ⟨rfl, ⟨rfl, ⟨(fun v hv => by cases hv; rfl), ⟨(fun v hv => by cases hv; rfl), trivial⟩⟩⟩⟩) ?_
      exact gt_152_53 hfz N c R (d + 1) hd rc23 hrc23 x1 (((A4 0) (((3 : Int32) + x1)).toNatClampNeg) - r4) A5 _ _ hf
    · have hf := a_be hb hf
      refine v_ie hb ?_
      refine v_blk 2 (i' := 53) (L' := [some (.ref 22), some (.int x1), some (.int r4), some (.int (((A4 0) (((3 : Int32) + x1)).toNatClampNeg) - r4))]) (st' := [(.int (0 : Int32))]) (h' := (hM c A5 R)) (fun _ => rfl) ?_
      refine v_weak (L' := [some (.ref 22), some (.int x1), none, none]) (show a_wk [some (.ref 22), some (.int x1), none, none] [some (.ref 22), some (.int x1), some (.int r4), some (.int (((A4 0) (((3 : Int32) + x1)).toNatClampNeg) - r4))] from ⟨rfl, ⟨rfl, ⟨(fun v hv => by cases hv; rfl), ⟨(fun v hv => by cases hv; rfl), trivial⟩⟩⟩⟩) ?_
      exact gt_152_53 hfz N c R (d + 1) hd rc23 hrc23 x1 (0 : Int32) A5 _ _ hf
theorem gt_152_23 {fz : Value} {sc : Nat × (Nat → Int32)} (hfz : fz = .null ∨ fz = .retAddr 60) (N : Nat) (c : Nat → aC) (R : List aC) (d : Nat) (hd : 7 ≤ d) : ∀ (n : Nat) (x1 : Int32) (A : mS) (r : Int32) (A' : mS) (hf : g_152_23 N n x1 A = some (r, A')), v_V fz sc d 152 23 [some (.ref 22), some (.int x1), none, none] [] (hM c A R) (fun rv h' => rv = none ∧ h' = hM c A' R) := by
  intro n
  induction n with
  | zero => intro x1 A r A' hf; cases hf
  | succ n ih =>
    intro x1 A r A' hf
    exact gt_152_23b hfz N c R d hd (g_152_23 N n) ih x1 A r A' hf
set_option maxRecDepth 100000 in
set_option maxHeartbeats 4000000 in
theorem gt_152 {fz : Value} {sc : Nat × (Nat → Int32)} (hfz : fz = .null ∨ fz = .retAddr 60) (N : Nat) (c : Nat → aC) (R : List aC) (d : Nat) (hd : 7 ≤ d) (A : mS) (r : Int32) (A' : mS) (hf : g_152 N  A = some (r, A')) : v_V fz sc d 152 0 [some (.ref 22), none, none, none] [] (hM c A R) (fun rv h' => rv = none ∧ h' = hM c A' R) := by
  unfold g_152 at hf
  obtain ⟨d, rfl⟩ : ∃ z, d = z + 1 := ⟨d - 1, by omega⟩
  obtain ⟨r1, A1, hc, hf⟩ := m_bd_ok hf
  refine v_call 2 (k' := 147) (i' := 2) (E := [some (.ref 22), none, none]) (L' := [some (.ref 22), none, none, none]) (rest := []) (h1 := (hM c A R)) (fun _ => rfl) ?_
  refine v_post (gt_147 hfz N c R d (by omega)  A _ _ hc) ?_
  rintro rv h' ⟨rfl, rfl⟩
  obtain ⟨r2, A2, hc, hf⟩ := m_bd_ok hf
  refine v_call 2 (k' := 148) (i' := 4) (E := [some (.ref 22), none, none]) (L' := [some (.ref 22), none, none, none]) (rest := []) (h1 := (hM c A1 R)) (fun _ => rfl) ?_
  refine v_post (gt_148 hfz N c R d (by omega)  A1 _ _ hc) ?_
  rintro rv h' ⟨rfl, rfl⟩
  obtain ⟨r3, A3, hc, hf⟩ := m_bd_ok hf
  refine v_call 15 (k' := 135) (i' := 19) (E := [some (.ref 22), some (.int (A2 99 14)), some (.int ((A2 0) 1)), some (.int ((A2 0) 0)), none, none]) (L' := [some (.ref 22), none, none, none]) (rest := [(.int (A2 99 16)), (.ref 22)]) (h1 := (hM c A2 R)) (fun _ => rfl) ?_
  refine v_post (gt_135 hfz N c R d (by omega) (A2 99 14) ((A2 0) 1) ((A2 0) 0) A2 _ _ hc) ?_
  rintro rv h' ⟨rfl, rfl⟩
  refine v_blk 4 (i' := 23) (L' := [some (.ref 22), some (.int (0 : Int32)), none, none]) (st' := []) (h' := (hM c (va_up A3 99 (upd (A3 99) 16 ((A2 99 16) + r3))) R)) (fun _ => rfl) ?_
  exact gt_152_23 hfz N c R (d + 1) hd N (0 : Int32) (va_up A3 99 (upd (A3 99) 16 ((A2 99 16) + r3))) _ _ hf
set_option maxRecDepth 100000 in
set_option maxHeartbeats 4000000 in
theorem gt_153 {fz : Value} {sc : Nat × (Nat → Int32)} (hfz : fz = .null ∨ fz = .retAddr 60) (N : Nat) (c : Nat → aC) (R : List aC) (d : Nat) (hd : 8 ≤ d) (A : mS) (r : Int32) (A' : mS) (hf : g_153 N  A = some (r, A')) : v_V fz sc d 153 0 [some (.ref 22)] [] (hM c A R) (fun rv h' => rv = some (.int r) ∧ h' = hM c A' R) := by
  unfold g_153 at hf
  obtain ⟨d, rfl⟩ : ∃ z, d = z + 1 := ⟨d - 1, by omega⟩
  refine v_blk 6 (i' := (bif (a_ic .ne ((A 0) 0) (99 : Int32)) then 8 else 6)) (L' := [some (.ref 22)]) (st' := []) (h' := (hM c A R)) (fun _ => rfl) ?_
  rcases Bool.eq_false_or_eq_true (a_ic .ne ((A 0) 0) (99 : Int32)) with hb | hb
  · have hf := a_bt hb hf
    refine v_it hb ?_
    obtain ⟨r1, A1, hc, hf⟩ := m_bd_ok hf
    refine v_call 2 (k' := 152) (i' := 10) (E := [some (.ref 22), none, none, none]) (L' := [some (.ref 22)]) (rest := []) (h1 := (hM c A R)) (fun _ => rfl) ?_
    refine v_post (gt_152 hfz N c R d (by omega)  A _ _ hc) ?_
    rintro rv h' ⟨rfl, rfl⟩
    obtain ⟨rfl, rfl⟩ := m_rt hf
    exact v_ret 3 (fun _ => rfl) ⟨rfl, rfl⟩
  · have hf := a_be hb hf
    refine v_ie hb ?_
    obtain ⟨rfl, rfl⟩ := m_rt hf
    exact v_ret 2 (fun _ => rfl) ⟨rfl, rfl⟩
set_option maxRecDepth 100000 in
set_option maxHeartbeats 4000000 in
theorem gt_154_16 {fz : Value} {sc : Nat × (Nat → Int32)} (hfz : fz = .null ∨ fz = .retAddr 60) (N : Nat) (c : Nat → aC) (R : List aC) (d : Nat) (hd : 7 ≤ d) (x1 : Int32) (A : mS) (r : Int32) (A' : mS) (hf : g_154_16 N x1 A = some (r, A')) : v_V fz sc d 154 16 [some (.ref 22), some (.int x1)] [] (hM c A R) (fun rv h' => rv = some (.int r) ∧ h' = hM c A' R) := by
  unfold g_154_16 at hf
  obtain ⟨d, rfl⟩ : ∃ z, d = z + 1 := ⟨d - 1, by omega⟩
  obtain ⟨r3, A3, hc, hf⟩ := m_bd_ok hf
  refine v_call 2 (k' := 147) (i' := 18) (E := [some (.ref 22), none, none]) (L' := [some (.ref 22), some (.int x1)]) (rest := []) (h1 := (hM c A R)) (fun _ => rfl) ?_
  refine v_post (gt_147 hfz N c R d (by omega)  A _ _ hc) ?_
  rintro rv h' ⟨rfl, rfl⟩
  obtain ⟨r4, A4, hc, hf⟩ := m_bd_ok hf
  refine v_call 2 (k' := 148) (i' := 20) (E := [some (.ref 22), none, none]) (L' := [some (.ref 22), some (.int x1)]) (rest := []) (h1 := (hM c A3 R)) (fun _ => rfl) ?_
  refine v_post (gt_148 hfz N c R d (by omega)  A3 _ _ hc) ?_
  rintro rv h' ⟨rfl, rfl⟩
  refine v_blk 2 (i' := (bif (a_ic .ne x1 (0 : Int32)) then 25 else 22)) (L' := [some (.ref 22), some (.int x1)]) (st' := []) (h' := (hM c A4 R)) (fun _ => rfl) ?_
  rcases Bool.eq_false_or_eq_true (a_ic .ne x1 (0 : Int32)) with hb | hb
  · have hf := a_bt hb hf
    refine v_it hb ?_
    refine v_blk 3 (i' := (bif (a_ic .ne x1 (1 : Int32)) then 39 else 28)) (L' := [some (.ref 22), some (.int x1)]) (st' := []) (h' := (hM c A4 R)) (fun _ => rfl) ?_
    rcases Bool.eq_false_or_eq_true (a_ic .ne x1 (1 : Int32)) with hb | hb
    · have hf := a_bt hb hf
      refine v_it hb ?_
      obtain ⟨r5, A5, hc, hf⟩ := m_bd_ok hf
      refine v_call 5 (k' := 150) (i' := 44) (E := [some (.ref 22), some (.int (x1 - (10 : Int32))), none, none, none, none]) (L' := [some (.ref 22), some (.int x1)]) (rest := []) (h1 := (hM c A4 R)) (fun _ => rfl) ?_
      refine v_post (gt_150 hfz N c R d (by omega) (x1 - (10 : Int32)) A4 _ _ hc) ?_
      rintro rv h' ⟨rfl, rfl⟩
      obtain ⟨rfl, rfl⟩ := m_rt hf
      exact v_ret 1 (fun _ => rfl) ⟨rfl, rfl⟩
    · have hf := a_be hb hf
      refine v_ie hb ?_
      refine v_blk 3 (i' := (bif (a_ic .eq (A4 99 15) (0 : Int32)) then 33 else 31)) (L' := [some (.ref 22), some (.int x1)]) (st' := []) (h' := (hM c A4 R)) (fun _ => rfl) ?_
      rcases Bool.eq_false_or_eq_true (a_ic .eq (A4 99 15) (0 : Int32)) with hb | hb
      · have hf := a_bt hb hf
        refine v_it hb ?_
        obtain ⟨hg, hf⟩ := a_bif hf
        refine v_grd 5 (i' := 38) (L' := [some (.ref 22), some (.int x1)]) (st' := [(.int ((A4 6) ((A4 99 14)).toNatClampNeg))]) (h' := (hM c A4 R)) (fun _ => rfl) hg ?_
        obtain ⟨y6, hy, hf⟩ := m_li_ok hf
        rw [hy]
        obtain ⟨rfl, rfl⟩ := m_rt hf
        exact v_ret 2 (fun _ => rfl) ⟨rfl, rfl⟩
      · have hf := a_be hb hf
        refine v_ie hb ?_
        obtain ⟨rfl, rfl⟩ := m_rt hf
        exact v_ret 3 (fun _ => rfl) ⟨rfl, rfl⟩
  · have hf := a_be hb hf
    refine v_ie hb ?_
    obtain ⟨rfl, rfl⟩ := m_rt hf
    exact v_ret 4 (fun _ => rfl) ⟨rfl, rfl⟩
set_option maxRecDepth 100000 in
set_option maxHeartbeats 4000000 in
theorem gt_154 {fz : Value} {sc : Nat × (Nat → Int32)} (hfz : fz = .null ∨ fz = .retAddr 60) (N : Nat) (c : Nat → aC) (R : List aC) (d : Nat) (hd : 7 ≤ d) (x1 : Int32) (A : mS) (r : Int32) (A' : mS) (hf : g_154 N x1 A = some (r, A')) : v_V fz sc d 154 0 [some (.ref 22), some (.int x1)] [] (hM c A R) (fun rv h' => rv = some (.int r) ∧ h' = hM c A' R) := by
  unfold g_154 at hf
  obtain ⟨d, rfl⟩ : ∃ z, d = z + 1 := ⟨d - 1, by omega⟩
  obtain ⟨r1, A1, hc, hf⟩ := m_bd_ok hf
  refine v_call 4 (k' := 112) (i' := 4) (E := [some (.int x1), some (.int (0 : Int32)), some (.int (1 : Int32))]) (L' := [some (.ref 22), some (.int x1)]) (rest := []) (h1 := (hM c A R)) (fun _ => rfl) ?_
  refine v_post (gt_112 hfz N c R d (by omega) x1 (0 : Int32) (1 : Int32) A _ _ hc) ?_
  rintro rv h' ⟨rfl, rfl⟩
  refine v_blk 1 (i' := (bif (a_ic .ne r1 (0 : Int32)) then 16 else 5)) (L' := [some (.ref 22), some (.int x1)]) (st' := []) (h' := (hM c A1 R)) (fun _ => rfl) ?_
  rcases Bool.eq_false_or_eq_true (a_ic .ne r1 (0 : Int32)) with hb | hb
  · have hf := a_bt hb hf
    refine v_it hb ?_
    exact gt_154_16 hfz N c R (d + 1) hd x1 A1 _ _ hf
  · have hf := a_be hb hf
    refine v_ie hb ?_
    refine v_blk 3 (i' := (bif (a_ic .lt x1 (10 : Int32)) then 14 else 8)) (L' := [some (.ref 22), some (.int x1)]) (st' := []) (h' := (hM c A1 R)) (fun _ => rfl) ?_
    rcases Bool.eq_false_or_eq_true (a_ic .lt x1 (10 : Int32)) with hb | hb
    · have hf := a_bt hb hf
      refine v_it hb ?_
      obtain ⟨rfl, rfl⟩ := m_rt hf
      exact v_ret 2 (fun _ => rfl) ⟨rfl, rfl⟩
    · have hf := a_be hb hf
      refine v_ie hb ?_
      obtain ⟨r2, A2, hc, hf⟩ := m_bd_ok hf
      refine v_call 5 (k' := 114) (i' := 13) (E := [some (.ref 22), some (.int (x1 - (10 : Int32)))]) (L' := [some (.ref 22), some (.int x1)]) (rest := []) (h1 := (hM c A1 R)) (fun _ => rfl) ?_
      refine v_post (gt_114 hfz N c R d (by omega) (x1 - (10 : Int32)) A1 _ _ hc) ?_
      rintro rv h' ⟨rfl, rfl⟩
      refine v_blk 1 (i' := (bif (a_ic .ne r2 (0 : Int32)) then 16 else 14)) (L' := [some (.ref 22), some (.int x1)]) (st' := []) (h' := (hM c A2 R)) (fun _ => rfl) ?_
      rcases Bool.eq_false_or_eq_true (a_ic .ne r2 (0 : Int32)) with hb | hb
      · have hf := a_bt hb hf
        refine v_it hb ?_
        exact gt_154_16 hfz N c R (d + 1) hd x1 A2 _ _ hf
      · have hf := a_be hb hf
        refine v_ie hb ?_
        obtain ⟨rfl, rfl⟩ := m_rt hf
        exact v_ret 2 (fun _ => rfl) ⟨rfl, rfl⟩
set_option maxRecDepth 100000 in
set_option maxHeartbeats 4000000 in
theorem gt_155_69 {fz : Value} {sc : Nat × (Nat → Int32)} (hfz : fz = .null ∨ fz = .retAddr 60) (N : Nat) (c : Nat → aC) (R : List aC) (d : Nat) (hd : 8 ≤ d) (t0 : Int32) (A : mS) (r : Int32) (A' : mS) (hf : g_155_69 N t0 A = some (r, A')) : v_V fz sc d 155 69 [some (.ref 22), none, none, none] [(.int t0)] (hM c A R) (fun rv h' => rv = some (.int r) ∧ h' = hM c A' R) := by
  unfold g_155_69 at hf
  obtain ⟨d, rfl⟩ : ∃ z, d = z + 1 := ⟨d - 1, by omega⟩
  obtain ⟨r7, A7, hc, hf⟩ := m_bd_ok hf
  refine v_call 3 (k' := 116) (i' := 72) (E := [some (.ref 22), none]) (L' := [some (.ref 22), none, none, some (.int t0)]) (rest := []) (h1 := (hM c A R)) (fun _ => rfl) ?_
  refine v_post (gt_116 hfz N c R d (by omega)  A _ _ hc) ?_
  rintro rv h' ⟨rfl, rfl⟩
  obtain ⟨rfl, rfl⟩ := m_rt hf
  exact v_ret 2 (fun _ => rfl) ⟨rfl, rfl⟩
set_option maxRecDepth 100000 in
set_option maxHeartbeats 4000000 in
theorem gt_155_33b {fz : Value} {sc : Nat × (Nat → Int32)} (hfz : fz = .null ∨ fz = .retAddr 60) (N : Nat) (c : Nat → aC) (R : List aC) (d : Nat) (hd : 8 ≤ d) (rc33 : Int32 → Int32 → Int32 → mS → Option (Int32 × mS)) (hrc33 : ∀ (x1 : Int32) (x2 : Int32) (x3 : Int32) (A : mS) (r : Int32) (A' : mS), rc33 x1 x2 x3 A = some (r, A') → v_V fz sc d 155 33 [some (.ref 22), some (.int x1), some (.int x2), some (.int x3)] [] (hM c A R) (fun rv h' => rv = some (.int r) ∧ h' = hM c A' R)) (x1 : Int32) (x2 : Int32) (x3 : Int32) (A : mS) (r : Int32) (A' : mS) (hf : g_155_33b N rc33 x1 x2 x3 A = some (r, A')) : v_V fz sc d 155 33 [some (.ref 22), some (.int x1), some (.int x2), some (.int x3)] [] (hM c A R) (fun rv h' => rv = some (.int r) ∧ h' = hM c A' R) := by
  unfold g_155_33b at hf
  obtain ⟨d, rfl⟩ : ∃ z, d = z + 1 := ⟨d - 1, by omega⟩
  refine v_blk 3 (i' := (bif (a_ic .ge x3 x1) then 40 else 36)) (L' := [some (.ref 22), some (.int x1), some (.int x2), some (.int x3)]) (st' := []) (h' := (hM c A R)) (fun _ => rfl) ?_
  rcases Bool.eq_false_or_eq_true (a_ic .ge x3 x1) with hb | hb
  · have hf := a_bt hb hf
    refine v_it hb ?_
    refine v_blk 2 (i' := (bif (a_ic .ne x2 (0 : Int32)) then 49 else 42)) (L' := [some (.ref 22), some (.int x1), some (.int x2), some (.int x3)]) (st' := []) (h' := (hM c A R)) (fun _ => rfl) ?_
    rcases Bool.eq_false_or_eq_true (a_ic .ne x2 (0 : Int32)) with hb | hb
    · have hf := a_bt hb hf
      refine v_it hb ?_
      refine v_blk 3 (i' := (bif (a_ic .ne x2 (1 : Int32)) then 55 else 52)) (L' := [some (.ref 22), some (.int x1), some (.int x2), some (.int x3)]) (st' := []) (h' := (hM c A R)) (fun _ => rfl) ?_
      rcases Bool.eq_false_or_eq_true (a_ic .ne x2 (1 : Int32)) with hb | hb
      · have hf := a_bt hb hf
        refine v_it hb ?_
        refine v_blk 3 (i' := (bif (a_ic .ne x2 (2 : Int32)) then 61 else 58)) (L' := [some (.ref 22), some (.int x1), some (.int x2), some (.int x3)]) (st' := []) (h' := (hM c A R)) (fun _ => rfl) ?_
        rcases Bool.eq_false_or_eq_true (a_ic .ne x2 (2 : Int32)) with hb | hb
        · have hf := a_bt hb hf
          refine v_it hb ?_
          obtain ⟨hg, hf⟩ := a_bif hf
          refine v_grd 8 (i' := 69) (L' := [some (.ref 22), some (.int x1), some (.int x2), some (.int x3)]) (st' := [(.int ((A 0) ((((3 : Int32) + x2) - (10 : Int32))).toNatClampNeg))]) (h' := (hM c A R)) (fun _ => rfl) hg ?_
          obtain ⟨y5, hy, hf⟩ := m_li_ok hf
          rw [hy]
          refine v_weak (L' := [some (.ref 22), none, none, none]) (show a_wk [some (.ref 22), none, none, none] [some (.ref 22), some (.int x1), some (.int x2), some (.int x3)] from ⟨rfl, ⟨(fun v hv => by cases hv; rfl), ⟨(fun v hv => by cases hv; rfl), ⟨(fun v hv => by cases hv; rfl), trivial⟩⟩⟩⟩) ?_
          exact gt_155_69 hfz N c R (d + 1) hd y5 A _ _ hf
        · have hf := a_be hb hf
          refine v_ie hb ?_
          refine v_blk 3 (i' := 69) (L' := [some (.ref 22), some (.int x1), some (.int x2), some (.int x3)]) (st' := [(.int (A 99 17))]) (h' := (hM c A R)) (fun _ => rfl) ?_
          refine v_weak (L' := [some (.ref 22), none, none, none]) (show a_wk [some (.ref 22), none, none, none] [some (.ref 22), some (.int x1), some (.int x2), some (.int x3)] from ⟨rfl, ⟨(fun v hv => by cases hv; rfl), ⟨(fun v hv => by cases hv; rfl), ⟨(fun v hv => by cases hv; rfl), trivial⟩⟩⟩⟩) ?_
          exact gt_155_69 hfz N c R (d + 1) hd (A 99 17) A _ _ hf
      · have hf := a_be hb hf
        refine v_ie hb ?_
        refine v_blk 3 (i' := 69) (L' := [some (.ref 22), some (.int x1), some (.int x2), some (.int x3)]) (st' := [(.int (A 99 16))]) (h' := (hM c A R)) (fun _ => rfl) ?_
        refine v_weak (L' := [some (.ref 22), none, none, none]) (show a_wk [some (.ref 22), none, none, none] [some (.ref 22), some (.int x1), some (.int x2), some (.int x3)] from ⟨rfl, ⟨(fun v hv => by cases hv; rfl), ⟨(fun v hv => by cases hv; rfl), ⟨(fun v hv => by cases hv; rfl), trivial⟩⟩⟩⟩) ?_
        exact gt_155_69 hfz N c R (d + 1) hd (A 99 16) A _ _ hf
    · have hf := a_be hb hf
      refine v_ie hb ?_
      refine v_blk 2 (i' := (bif (a_ic .ne x1 (0 : Int32)) then 46 else 44)) (L' := [some (.ref 22), some (.int x1), some (.int x2), some (.int x3)]) (st' := []) (h' := (hM c A R)) (fun _ => rfl) ?_
      rcases Bool.eq_false_or_eq_true (a_ic .ne x1 (0 : Int32)) with hb | hb
      · have hf := a_bt hb hf
        refine v_it hb ?_
        refine v_blk 3 (i' := 69) (L' := [some (.ref 22), some (.int x1), some (.int x2), some (.int x3)]) (st' := [(.int (A 99 14))]) (h' := (hM c A R)) (fun _ => rfl) ?_
        refine v_weak (L' := [some (.ref 22), none, none, none]) (show a_wk [some (.ref 22), none, none, none] [some (.ref 22), some (.int x1), some (.int x2), some (.int x3)] from ⟨rfl, ⟨(fun v hv => by cases hv; rfl), ⟨(fun v hv => by cases hv; rfl), ⟨(fun v hv => by cases hv; rfl), trivial⟩⟩⟩⟩) ?_
        exact gt_155_69 hfz N c R (d + 1) hd (A 99 14) A _ _ hf
      · have hf := a_be hb hf
        refine v_ie hb ?_
        refine v_blk 2 (i' := 69) (L' := [some (.ref 22), some (.int x1), some (.int x2), some (.int x3)]) (st' := [(.int (-5 : Int32))]) (h' := (hM c A R)) (fun _ => rfl) ?_
        refine v_weak (L' := [some (.ref 22), none, none, none]) (show a_wk [some (.ref 22), none, none, none] [some (.ref 22), some (.int x1), some (.int x2), some (.int x3)] from ⟨rfl, ⟨(fun v hv => by cases hv; rfl), ⟨(fun v hv => by cases hv; rfl), ⟨(fun v hv => by cases hv; rfl), trivial⟩⟩⟩⟩) ?_
        exact gt_155_69 hfz N c R (d + 1) hd (-5 : Int32) A _ _ hf
  · have hf := a_be hb hf
    refine v_ie hb ?_
    obtain ⟨r6, A6, hc, hf⟩ := m_bd_ok hf
    refine v_call 2 (k' := 152) (i' := 38) (E := [some (.ref 22), none, none, none]) (L' := [some (.ref 22), some (.int x1), some (.int x2), some (.int x3)]) (rest := []) (h1 := (hM c A R)) (fun _ => rfl) ?_
    refine v_post (gt_152 hfz N c R d (by omega)  A _ _ hc) ?_
    rintro rv h' ⟨rfl, rfl⟩
    refine v_blk 2 (i' := 33) (L' := [some (.ref 22), some (.int x1), some (.int x2), some (.int (x3 + (1 : Int32)))]) (st' := []) (h' := (hM c A6 R)) (fun _ => rfl) ?_
    exact hrc33 x1 x2 (x3 + (1 : Int32)) A6 _ _ hf
theorem gt_155_33 {fz : Value} {sc : Nat × (Nat → Int32)} (hfz : fz = .null ∨ fz = .retAddr 60) (N : Nat) (c : Nat → aC) (R : List aC) (d : Nat) (hd : 8 ≤ d) : ∀ (n : Nat) (x1 : Int32) (x2 : Int32) (x3 : Int32) (A : mS) (r : Int32) (A' : mS) (hf : g_155_33 N n x1 x2 x3 A = some (r, A')), v_V fz sc d 155 33 [some (.ref 22), some (.int x1), some (.int x2), some (.int x3)] [] (hM c A R) (fun rv h' => rv = some (.int r) ∧ h' = hM c A' R) := by
  intro n
  induction n with
  | zero => intro x1 x2 x3 A r A' hf; cases hf
  | succ n ih =>
    intro x1 x2 x3 A r A' hf
    exact gt_155_33b hfz N c R d hd (g_155_33 N n) ih x1 x2 x3 A r A' hf
set_option maxRecDepth 100000 in
set_option maxHeartbeats 4000000 in
theorem gt_155_16 {fz : Value} {sc : Nat × (Nat → Int32)} (hfz : fz = .null ∨ fz = .retAddr 60) (N : Nat) (c : Nat → aC) (R : List aC) (d : Nat) (hd : 8 ≤ d) (x1 : Int32) (x2 : Int32) (A : mS) (r : Int32) (A' : mS) (hf : g_155_16 N x1 x2 A = some (r, A')) : v_V fz sc d 155 16 [some (.ref 22), some (.int x1), some (.int x2), none] [] (hM c A R) (fun rv h' => rv = some (.int r) ∧ h' = hM c A' R) := by
  unfold g_155_16 at hf
  obtain ⟨d, rfl⟩ : ∃ z, d = z + 1 := ⟨d - 1, by omega⟩
  obtain ⟨r3, A3, hc, hf⟩ := m_bd_ok hf
  refine v_call 4 (k' := 112) (i' := 20) (E := [some (.int x1), some (.int (0 : Int32)), some (.int (40 : Int32))]) (L' := [some (.ref 22), some (.int x1), some (.int x2), none]) (rest := []) (h1 := (hM c A R)) (fun _ => rfl) ?_
  refine v_post (gt_112 hfz N c R d (by omega) x1 (0 : Int32) (40 : Int32) A _ _ hc) ?_
  rintro rv h' ⟨rfl, rfl⟩
  refine v_blk 1 (i' := (bif (a_ic .ne r3 (0 : Int32)) then 23 else 21)) (L' := [some (.ref 22), some (.int x1), some (.int x2), none]) (st' := []) (h' := (hM c A3 R)) (fun _ => rfl) ?_
  rcases Bool.eq_false_or_eq_true (a_ic .ne r3 (0 : Int32)) with hb | hb
  · have hf := a_bt hb hf
    refine v_it hb ?_
    obtain ⟨r4, A4, hc, hf⟩ := m_bd_ok hf
    refine v_call 2 (k' := 115) (i' := 25) (E := [some (.ref 22), none]) (L' := [some (.ref 22), some (.int x1), some (.int x2), none]) (rest := []) (h1 := (hM c A3 R)) (fun _ => rfl) ?_
    refine v_post (gt_115 hfz N c R d (by omega)  A3 _ _ hc) ?_
    rintro rv h' ⟨rfl, rfl⟩
    refine v_blk 8 (i' := 33) (L' := [some (.ref 22), some (.int x1), some (.int x2), some (.int (0 : Int32))]) (st' := []) (h' := (hM c (va_up A4 99 (upd (upd (A4 99) 16 (0 : Int32)) 17 (0 : Int32))) R)) (fun _ => rfl) ?_
    exact gt_155_33 hfz N c R (d + 1) hd N x1 x2 (0 : Int32) (va_up A4 99 (upd (upd (A4 99) 16 (0 : Int32)) 17 (0 : Int32))) _ _ hf
  · have hf := a_be hb hf
    refine v_ie hb ?_
    obtain ⟨rfl, rfl⟩ := m_rt hf
    exact v_ret 2 (fun _ => rfl) ⟨rfl, rfl⟩
set_option maxRecDepth 100000 in
set_option maxHeartbeats 4000000 in
theorem gt_155 {fz : Value} {sc : Nat × (Nat → Int32)} (hfz : fz = .null ∨ fz = .retAddr 60) (N : Nat) (c : Nat → aC) (R : List aC) (d : Nat) (hd : 8 ≤ d) (x1 : Int32) (x2 : Int32) (A : mS) (r : Int32) (A' : mS) (hf : g_155 N x1 x2 A = some (r, A')) : v_V fz sc d 155 0 [some (.ref 22), some (.int x1), some (.int x2), none] [] (hM c A R) (fun rv h' => rv = some (.int r) ∧ h' = hM c A' R) := by
  unfold g_155 at hf
  obtain ⟨d, rfl⟩ : ∃ z, d = z + 1 := ⟨d - 1, by omega⟩
  obtain ⟨r1, A1, hc, hf⟩ := m_bd_ok hf
  refine v_call 4 (k' := 112) (i' := 4) (E := [some (.int x2), some (.int (0 : Int32)), some (.int (2 : Int32))]) (L' := [some (.ref 22), some (.int x1), some (.int x2), none]) (rest := []) (h1 := (hM c A R)) (fun _ => rfl) ?_
  refine v_post (gt_112 hfz N c R d (by omega) x2 (0 : Int32) (2 : Int32) A _ _ hc) ?_
  rintro rv h' ⟨rfl, rfl⟩
  refine v_blk 1 (i' := (bif (a_ic .ne r1 (0 : Int32)) then 16 else 5)) (L' := [some (.ref 22), some (.int x1), some (.int x2), none]) (st' := []) (h' := (hM c A1 R)) (fun _ => rfl) ?_
  rcases Bool.eq_false_or_eq_true (a_ic .ne r1 (0 : Int32)) with hb | hb
  · have hf := a_bt hb hf
    refine v_it hb ?_
    exact gt_155_16 hfz N c R (d + 1) hd x1 x2 A1 _ _ hf
  · have hf := a_be hb hf
    refine v_ie hb ?_
    refine v_blk 3 (i' := (bif (a_ic .lt x2 (10 : Int32)) then 14 else 8)) (L' := [some (.ref 22), some (.int x1), some (.int x2), none]) (st' := []) (h' := (hM c A1 R)) (fun _ => rfl) ?_
    rcases Bool.eq_false_or_eq_true (a_ic .lt x2 (10 : Int32)) with hb | hb
    · have hf := a_bt hb hf
      refine v_it hb ?_
      obtain ⟨rfl, rfl⟩ := m_rt hf
      exact v_ret 2 (fun _ => rfl) ⟨rfl, rfl⟩
    · have hf := a_be hb hf
      refine v_ie hb ?_
      obtain ⟨r2, A2, hc, hf⟩ := m_bd_ok hf
      refine v_call 5 (k' := 114) (i' := 13) (E := [some (.ref 22), some (.int (x2 - (10 : Int32)))]) (L' := [some (.ref 22), some (.int x1), some (.int x2), none]) (rest := []) (h1 := (hM c A1 R)) (fun _ => rfl) ?_
      refine v_post (gt_114 hfz N c R d (by omega) (x2 - (10 : Int32)) A1 _ _ hc) ?_
      rintro rv h' ⟨rfl, rfl⟩
      refine v_blk 1 (i' := (bif (a_ic .ne r2 (0 : Int32)) then 16 else 14)) (L' := [some (.ref 22), some (.int x1), some (.int x2), none]) (st' := []) (h' := (hM c A2 R)) (fun _ => rfl) ?_
      rcases Bool.eq_false_or_eq_true (a_ic .ne r2 (0 : Int32)) with hb | hb
      · have hf := a_bt hb hf
        refine v_it hb ?_
        exact gt_155_16 hfz N c R (d + 1) hd x1 x2 A2 _ _ hf
      · have hf := a_be hb hf
        refine v_ie hb ?_
        obtain ⟨rfl, rfl⟩ := m_rt hf
        exact v_ret 2 (fun _ => rfl) ⟨rfl, rfl⟩
set_option maxRecDepth 100000 in
set_option maxHeartbeats 4000000 in
theorem gt_156 {fz : Value} {sc : Nat × (Nat → Int32)} (hfz : fz = .null ∨ fz = .retAddr 60) (N : Nat) (c : Nat → aC) (R : List aC) (d : Nat) (hd : 3 ≤ d) (x1 : Int32) (x2 : Int32) (x3 : Int32) (A : mS) (r : Int32) (A' : mS) (hf : g_156 N x1 x2 x3 A = some (r, A')) : v_V fz sc d 156 0 [some (.ref 22), some (.int x1), some (.int x2), some (.int x3)] [] (hM c A R) (fun rv h' => rv = some (.int r) ∧ h' = hM c A' R) := by
  unfold g_156 at hf
  obtain ⟨d, rfl⟩ : ∃ z, d = z + 1 := ⟨d - 1, by omega⟩
  obtain ⟨r1, A1, hc, hf⟩ := m_bd_ok hf
  refine v_call 10 (k' := 135) (i' := 10) (E := [some (.ref 22), some (.int x3), some (.int x2), some (.int (((A 0) 0) + x1)), none, none]) (L' := [some (.ref 22), some (.int x1), some (.int x2), some (.int x3)]) (rest := []) (h1 := (hM c A R)) (fun _ => rfl) ?_
  refine v_post (gt_135 hfz N c R d (by omega) x3 x2 (((A 0) 0) + x1) A _ _ hc) ?_
  rintro rv h' ⟨rfl, rfl⟩
  obtain ⟨hg, hf⟩ := a_bif hf
  refine v_grd 10 (i' := 20) (L' := [some (.ref 22), some (.int x1), some (.int x2), some (.int x3)]) (st' := [(.int ((A1 7) ((((4 : Int32) * (x1 + (1 : Int32))) + x3)).toNatClampNeg)), (.int r1)]) (h' := (hM c A1 R)) (fun _ => rfl) hg ?_
  obtain ⟨y2, hy, hf⟩ := m_li_ok hf
  rw [hy]
  obtain ⟨rfl, rfl⟩ := m_rt hf
  exact v_ret 2 (fun _ => rfl) ⟨rfl, rfl⟩
set_option maxRecDepth 100000 in
set_option maxHeartbeats 4000000 in
theorem gt_157_94b {fz : Value} {sc : Nat × (Nat → Int32)} (hfz : fz = .null ∨ fz = .retAddr 60) (N : Nat) (c : Nat → aC) (R : List aC) (d : Nat) (hd : 4 ≤ d) (rc89 : Int32 → Int32 → Int32 → mS → Option (Int32 × mS)) (hrc89 : ∀ (x2 : Int32) (x3 : Int32) (x4 : Int32) (A : mS) (r : Int32) (A' : mS), rc89 x2 x3 x4 A = some (r, A') → v_V fz sc d 157 89 [some (.ref 22), none, some (.int x2), some (.int x3), some (.int x4), none, none, none] [] (hM c A R) (fun rv h' => rv = some (.int r) ∧ h' = hM c A' R)) (rc94 : Int32 → Int32 → Int32 → Int32 → mS → Option (Int32 × mS)) (hrc94 : ∀ (x2 : Int32) (x3 : Int32) (x4 : Int32) (x5 : Int32) (A : mS) (r : Int32) (A' : mS), rc94 x2 x3 x4 x5 A = some (r, A') → v_V fz sc d 157 94 [some (.ref 22), none, some (.int x2), some (.int x3), some (.int x4), some (.int x5), none, none] [] (hM c A R) (fun rv h' => rv = some (.int r) ∧ h' = hM c A' R)) (x2 : Int32) (x3 : Int32) (x4 : Int32) (x5 : Int32) (A : mS) (r : Int32) (A' : mS) (hf : g_157_94b N rc89 rc94 x2 x3 x4 x5 A = some (r, A')) : v_V fz sc d 157 94 [some (.ref 22), none, some (.int x2), some (.int x3), some (.int x4), some (.int x5), none, none] [] (hM c A R) (fun rv h' => rv = some (.int r) ∧ h' = hM c A' R) := by
  unfold g_157_94b at hf
  obtain ⟨d, rfl⟩ : ∃ z, d = z + 1 := ⟨d - 1, by omega⟩
  obtain ⟨r7, A7, hc, hf⟩ := m_bd_ok hf
  refine v_call 5 (k' := 156) (i' := 99) (E := [some (.ref 22), some (.int x4), some (.int x3), some (.int x5)]) (L' := [some (.ref 22), none, some (.int x2), some (.int x3), some (.int x4), some (.int x5), none, none]) (rest := []) (h1 := (hM c A R)) (fun _ => rfl) ?_
  refine v_post (gt_156 hfz N c R d (by omega) x4 x3 x5 A _ _ hc) ?_
  rintro rv h' ⟨rfl, rfl⟩
  obtain ⟨hg, hf⟩ := a_bif hf
  refine v_grd 8 (i' := 107) (L' := [some (.ref 22), none, some (.int x2), some (.int x3), some (.int x4), some (.int x5), none, none]) (st' := [(.int ((A7 7) ((((4 : Int32) * x4) + x3)).toNatClampNeg)), (.int r7)]) (h' := (hM c A7 R)) (fun _ => rfl) hg ?_
  obtain ⟨y8, hy, hf⟩ := m_li_ok hf
  rw [hy]
  refine v_blk 1 (i' := (bif (a_ic .eq r7 y8) then 110 else 108)) (L' := [some (.ref 22), none, some (.int x2), some (.int x3), some (.int x4), some (.int x5), none, none]) (st' := []) (h' := (hM c A7 R)) (fun _ => rfl) ?_
  rcases Bool.eq_false_or_eq_true (a_ic .eq r7 y8) with hb | hb
  · have hf := a_bt hb hf
    refine v_it hb ?_
    refine v_blk 4 (i' := 89) (L' := [some (.ref 22), none, some (.int x2), some (.int x5), some (.int (x4 + (1 : Int32))), some (.int x5), none, none]) (st' := []) (h' := (hM c A7 R)) (fun _ => rfl) ?_
    refine v_weak (L' := [some (.ref 22), none, some (.int x2), some (.int x5), some (.int (x4 + (1 : Int32))), none, none, none]) (show a_wk [some (.ref 22), none, some (.int x2), some (.int x5), some (.int (x4 + (1 : Int32))), none, none, none] [some (.ref 22), none, some (.int x2), some (.int x5), some (.int (x4 + (1 : Int32))), some (.int x5), none, none] from ⟨rfl, ⟨(fun v hv => by cases hv), ⟨rfl, ⟨rfl, ⟨rfl, ⟨(fun v hv => by cases hv; rfl), ⟨(fun v hv => by cases hv), ⟨(fun v hv => by cases hv), trivial⟩⟩⟩⟩⟩⟩⟩⟩) ?_
    exact hrc89 x2 x5 (x4 + (1 : Int32)) A7 _ _ hf
  · have hf := a_be hb hf
    refine v_ie hb ?_
    refine v_blk 2 (i' := 94) (L' := [some (.ref 22), none, some (.int x2), some (.int x3), some (.int x4), some (.int (x5 + (1 : Int32))), none, none]) (st' := []) (h' := (hM c A7 R)) (fun _ => rfl) ?_
    exact hrc94 x2 x3 x4 (x5 + (1 : Int32)) A7 _ _ hf
theorem gt_157_94 {fz : Value} {sc : Nat × (Nat → Int32)} (hfz : fz = .null ∨ fz = .retAddr 60) (N : Nat) (c : Nat → aC) (R : List aC) (d : Nat) (hd : 4 ≤ d) (rc89 : Int32 → Int32 → Int32 → mS → Option (Int32 × mS)) (hrc89 : ∀ (x2 : Int32) (x3 : Int32) (x4 : Int32) (A : mS) (r : Int32) (A' : mS), rc89 x2 x3 x4 A = some (r, A') → v_V fz sc d 157 89 [some (.ref 22), none, some (.int x2), some (.int x3), some (.int x4), none, none, none] [] (hM c A R) (fun rv h' => rv = some (.int r) ∧ h' = hM c A' R)) : ∀ (n : Nat) (x2 : Int32) (x3 : Int32) (x4 : Int32) (x5 : Int32) (A : mS) (r : Int32) (A' : mS) (hf : g_157_94 N rc89 n x2 x3 x4 x5 A = some (r, A')), v_V fz sc d 157 94 [some (.ref 22), none, some (.int x2), some (.int x3), some (.int x4), some (.int x5), none, none] [] (hM c A R) (fun rv h' => rv = some (.int r) ∧ h' = hM c A' R) := by
  intro n
  induction n with
  | zero => intro x2 x3 x4 x5 A r A' hf; cases hf
  | succ n ih =>
    intro x2 x3 x4 x5 A r A' hf
    exact gt_157_94b hfz N c R d hd rc89 hrc89 (g_157_94 N rc89 n) ih x2 x3 x4 x5 A r A' hf
set_option maxRecDepth 100000 in
set_option maxHeartbeats 4000000 in
theorem gt_157_89b {fz : Value} {sc : Nat × (Nat → Int32)} (hfz : fz = .null ∨ fz = .retAddr 60) (N : Nat) (c : Nat → aC) (R : List aC) (d : Nat) (hd : 4 ≤ d) (rc89 : Int32 → Int32 → Int32 → mS → Option (Int32 × mS)) (hrc89 : ∀ (x2 : Int32) (x3 : Int32) (x4 : Int32) (A : mS) (r : Int32) (A' : mS), rc89 x2 x3 x4 A = some (r, A') → v_V fz sc d 157 89 [some (.ref 22), none, some (.int x2), some (.int x3), some (.int x4), none, none, none] [] (hM c A R) (fun rv h' => rv = some (.int r) ∧ h' = hM c A' R)) (x2 : Int32) (x3 : Int32) (x4 : Int32) (A : mS) (r : Int32) (A' : mS) (hf : g_157_89b N rc89 x2 x3 x4 A = some (r, A')) : v_V fz sc d 157 89 [some (.ref 22), none, some (.int x2), some (.int x3), some (.int x4), none, none, none] [] (hM c A R) (fun rv h' => rv = some (.int r) ∧ h' = hM c A' R) := by
  unfold g_157_89b at hf
  obtain ⟨d, rfl⟩ : ∃ z, d = z + 1 := ⟨d - 1, by omega⟩
  refine v_blk 3 (i' := (bif (a_ic .gt x4 x2) then 114 else 92)) (L' := [some (.ref 22), none, some (.int x2), some (.int x3), some (.int x4), none, none, none]) (st' := []) (h' := (hM c A R)) (fun _ => rfl) ?_
  rcases Bool.eq_false_or_eq_true (a_ic .gt x4 x2) with hb | hb
  · have hf := a_bt hb hf
    refine v_it hb ?_
    refine v_blk 3 (i' := (bif (a_ic .ne x2 (-1 : Int32)) then 125 else 117)) (L' := [some (.ref 22), none, some (.int x2), some (.int x3), some (.int x4), none, none, none]) (st' := []) (h' := (hM c A R)) (fun _ => rfl) ?_
    rcases Bool.eq_false_or_eq_true (a_ic .ne x2 (-1 : Int32)) with hb | hb
    · have hf := a_bt hb hf
      refine v_it hb ?_
      obtain ⟨rfl, rfl⟩ := m_rt hf
      exact v_ret 2 (fun _ => rfl) ⟨rfl, rfl⟩
    · have hf := a_be hb hf
      refine v_ie hb ?_
      obtain ⟨hg, hf⟩ := a_bif hf
      refine v_grd 7 (i' := 124) (L' := [some (.ref 22), none, some (.int x2), some (.int x3), some (.int x4), none, none, none]) (st' := [(.int ((A 7) (((A 0) 1)).toNatClampNeg))]) (h' := (hM c A R)) (fun _ => rfl) hg ?_
      obtain ⟨y4, hy, hf⟩ := m_li_ok hf
      rw [hy]
      obtain ⟨rfl, rfl⟩ := m_rt hf
      exact v_ret 2 (fun _ => rfl) ⟨rfl, rfl⟩
  · have hf := a_be hb hf
    refine v_ie hb ?_
    refine v_blk 2 (i' := 94) (L' := [some (.ref 22), none, some (.int x2), some (.int x3), some (.int x4), some (.int (0 : Int32)), none, none]) (st' := []) (h' := (hM c A R)) (fun _ => rfl) ?_
    exact gt_157_94 hfz N c R (d + 1) hd rc89 hrc89 N x2 x3 x4 (0 : Int32) A _ _ hf
theorem gt_157_89 {fz : Value} {sc : Nat × (Nat → Int32)} (hfz : fz = .null ∨ fz = .retAddr 60) (N : Nat) (c : Nat → aC) (R : List aC) (d : Nat) (hd : 4 ≤ d) : ∀ (n : Nat) (x2 : Int32) (x3 : Int32) (x4 : Int32) (A : mS) (r : Int32) (A' : mS) (hf : g_157_89 N n x2 x3 x4 A = some (r, A')), v_V fz sc d 157 89 [some (.ref 22), none, some (.int x2), some (.int x3), some (.int x4), none, none, none] [] (hM c A R) (fun rv h' => rv = some (.int r) ∧ h' = hM c A' R) := by
  intro n
  induction n with
  | zero => intro x2 x3 x4 A r A' hf; cases hf
  | succ n ih =>
    intro x2 x3 x4 A r A' hf
    exact gt_157_89b hfz N c R d hd (g_157_89 N n) ih x2 x3 x4 A r A' hf
set_option maxRecDepth 100000 in
set_option maxHeartbeats 4000000 in
theorem gt_157_51b {fz : Value} {sc : Nat × (Nat → Int32)} (hfz : fz = .null ∨ fz = .retAddr 60) (N : Nat) (c : Nat → aC) (R : List aC) (d : Nat) (hd : 4 ≤ d) (rc36 : Int32 → Int32 → mS → Option (Int32 × mS)) (rc40 : Int32 → Int32 → Int32 → mS → Option (Int32 × mS)) (hrc36 : ∀ (x2 : Int32) (x3 : Int32) (A : mS) (r : Int32) (A' : mS), rc36 x2 x3 A = some (r, A') → v_V fz sc d 157 36 [some (.ref 22), none, some (.int x2), some (.int x3), none, none, none, none] [] (hM c A R) (fun rv h' => rv = some (.int r) ∧ h' = hM c A' R)) (hrc40 : ∀ (x2 : Int32) (x3 : Int32) (x4 : Int32) (A : mS) (r : Int32) (A' : mS), rc40 x2 x3 x4 A = some (r, A') → v_V fz sc d 157 40 [some (.ref 22), none, some (.int x2), some (.int x3), some (.int x4), none, none, none] [] (hM c A R) (fun rv h' => rv = some (.int r) ∧ h' = hM c A' R)) (rc51 : Int32 → Int32 → Int32 → Int32 → Int32 → mS → Option (Int32 × mS)) (hrc51 : ∀ (x2 : Int32) (x3 : Int32) (x4 : Int32) (x5 : Int32) (x6 : Int32) (A : mS) (r : Int32) (A' : mS), rc51 x2 x3 x4 x5 x6 A = some (r, A') → v_V fz sc d 157 51 [some (.ref 22), none, some (.int x2), some (.int x3), some (.int x4), some (.int x5), some (.int x6), none] [] (hM c A R) (fun rv h' => rv = some (.int r) ∧ h' = hM c A' R)) (x2 : Int32) (x3 : Int32) (x4 : Int32) (x5 : Int32) (x6 : Int32) (A : mS) (r : Int32) (A' : mS) (hf : g_157_51b N rc36 rc40 rc51 x2 x3 x4 x5 x6 A = some (r, A')) : v_V fz sc d 157 51 [some (.ref 22), none, some (.int x2), some (.int x3), some (.int x4), some (.int x5), some (.int x6), none] [] (hM c A R) (fun rv h' => rv = some (.int r) ∧ h' = hM c A' R) := by
  unfold g_157_51b at hf
  obtain ⟨d, rfl⟩ : ∃ z, d = z + 1 := ⟨d - 1, by omega⟩
  refine v_blk 3 (i' := (bif (a_ic .ge x6 (4 : Int32)) then 69 else 54)) (L' := [some (.ref 22), none, some (.int x2), some (.int x3), some (.int x4), some (.int x5), some (.int x6), none]) (st' := []) (h' := (hM c A R)) (fun _ => rfl) ?_
  rcases Bool.eq_false_or_eq_true (a_ic .ge x6 (4 : Int32)) with hb | hb
  · have hf := a_bt hb hf
    refine v_it hb ?_
    obtain ⟨hg, hf⟩ := a_bif hf
    refine v_grd 9 (i' := 78) (L' := [some (.ref 22), none, some (.int x2), some (.int x3), some (.int x4), some (.int x5), some (.int x6), none]) (st' := []) (h' := (hM c (va_up A 7 (upd (A 7) ((((4 : Int32) * x3) + x4)).toNatClampNeg x5)) R)) (fun _ => rfl) hg ?_
    obtain ⟨A9, hA, hf⟩ := m_st_ok hf
    rw [hA]
    refine v_blk 2 (i' := 40) (L' := [some (.ref 22), none, some (.int x2), some (.int x3), some (.int (x4 + (1 : Int32))), some (.int x5), some (.int x6), none]) (st' := []) (h' := (hM c A9 R)) (fun _ => rfl) ?_
    refine v_weak (L' := [some (.ref 22), none, some (.int x2), some (.int x3), some (.int (x4 + (1 : Int32))), none, none, none]) (show a_wk [some (.ref 22), none, some (.int x2), some (.int x3), some (.int (x4 + (1 : Int32))), none, none, none] [some (.ref 22), none, some (.int x2), some (.int x3), some (.int (x4 + (1 : Int32))), some (.int x5), some (.int x6), none] from ⟨rfl, ⟨(fun v hv => by cases hv), ⟨rfl, ⟨rfl, ⟨rfl, ⟨(fun v hv => by cases hv; rfl), ⟨(fun v hv => by cases hv; rfl), ⟨(fun v hv => by cases hv), trivial⟩⟩⟩⟩⟩⟩⟩⟩) ?_
    exact hrc40 x2 x3 (x4 + (1 : Int32)) A9 _ _ hf
  · have hf := a_be hb hf
    refine v_ie hb ?_
    obtain ⟨r10, A10, hc, hf⟩ := m_bd_ok hf
    refine v_call 5 (k' := 156) (i' := 59) (E := [some (.ref 22), some (.int x3), some (.int x4), some (.int x6)]) (L' := [some (.ref 22), none, some (.int x2), some (.int x3), some (.int x4), some (.int x5), some (.int x6), none]) (rest := []) (h1 := (hM c A R)) (fun _ => rfl) ?_
    refine v_post (gt_156 hfz N c R d (by omega) x3 x4 x6 A _ _ hc) ?_
    rintro rv h' ⟨rfl, rfl⟩
    refine v_blk 4 (i' := (bif (a_ic .le r10 x5) then 65 else 63)) (L' := [some (.ref 22), none, some (.int x2), some (.int x3), some (.int x4), some (.int x5), some (.int x6), some (.int r10)]) (st' := []) (h' := (hM c A10 R)) (fun _ => rfl) ?_
    rcases Bool.eq_false_or_eq_true (a_ic .le r10 x5) with hb | hb
    · have hf := a_bt hb hf
      refine v_it hb ?_
      refine v_blk 4 (i' := 51) (L' := [some (.ref 22), none, some (.int x2), some (.int x3), some (.int x4), some (.int x5), some (.int (x6 + (1 : Int32))), some (.int r10)]) (st' := []) (h' := (hM c A10 R)) (fun _ => rfl) ?_
      refine v_weak (L' := [some (.ref 22), none, some (.int x2), some (.int x3), some (.int x4), some (.int x5), some (.int (x6 + (1 : Int32))), none]) (show a_wk [some (.ref 22), none, some (.int x2), some (.int x3), some (.int x4), some (.int x5), some (.int (x6 + (1 : Int32))), none] [some (.ref 22), none, some (.int x2), some (.int x3), some (.int x4), some (.int x5), some (.int (x6 + (1 : Int32))), some (.int r10)] from ⟨rfl, ⟨(fun v hv => by cases hv), ⟨rfl, ⟨rfl, ⟨rfl, ⟨rfl, ⟨rfl, ⟨(fun v hv => by cases hv; rfl), trivial⟩⟩⟩⟩⟩⟩⟩⟩) ?_
      exact hrc51 x2 x3 x4 x5 (x6 + (1 : Int32)) A10 _ _ hf
    · have hf := a_be hb hf
      refine v_ie hb ?_
      refine v_blk 5 (i' := 51) (L' := [some (.ref 22), none, some (.int x2), some (.int x3), some (.int x4), some (.int r10), some (.int (x6 + (1 : Int32))), some (.int r10)]) (st' := []) (h' := (hM c A10 R)) (fun _ => rfl) ?_
      refine v_weak (L' := [some (.ref 22), none, some (.int x2), some (.int x3), some (.int x4), some (.int r10), some (.int (x6 + (1 : Int32))), none]) (show a_wk [some (.ref 22), none, some (.int x2), some (.int x3), some (.int x4), some (.int r10), some (.int (x6 + (1 : Int32))), none] [some (.ref 22), none, some (.int x2), some (.int x3), some (.int x4), some (.int r10), some (.int (x6 + (1 : Int32))), some (.int r10)] from ⟨rfl, ⟨(fun v hv => by cases hv), ⟨rfl, ⟨rfl, ⟨rfl, ⟨rfl, ⟨rfl, ⟨(fun v hv => by cases hv; rfl), trivial⟩⟩⟩⟩⟩⟩⟩⟩) ?_
      exact hrc51 x2 x3 x4 r10 (x6 + (1 : Int32)) A10 _ _ hf
theorem gt_157_51 {fz : Value} {sc : Nat × (Nat → Int32)} (hfz : fz = .null ∨ fz = .retAddr 60) (N : Nat) (c : Nat → aC) (R : List aC) (d : Nat) (hd : 4 ≤ d) (rc36 : Int32 → Int32 → mS → Option (Int32 × mS)) (rc40 : Int32 → Int32 → Int32 → mS → Option (Int32 × mS)) (hrc36 : ∀ (x2 : Int32) (x3 : Int32) (A : mS) (r : Int32) (A' : mS), rc36 x2 x3 A = some (r, A') → v_V fz sc d 157 36 [some (.ref 22), none, some (.int x2), some (.int x3), none, none, none, none] [] (hM c A R) (fun rv h' => rv = some (.int r) ∧ h' = hM c A' R)) (hrc40 : ∀ (x2 : Int32) (x3 : Int32) (x4 : Int32) (A : mS) (r : Int32) (A' : mS), rc40 x2 x3 x4 A = some (r, A') → v_V fz sc d 157 40 [some (.ref 22), none, some (.int x2), some (.int x3), some (.int x4), none, none, none] [] (hM c A R) (fun rv h' => rv = some (.int r) ∧ h' = hM c A' R)) : ∀ (n : Nat) (x2 : Int32) (x3 : Int32) (x4 : Int32) (x5 : Int32) (x6 : Int32) (A : mS) (r : Int32) (A' : mS) (hf : g_157_51 N rc36 rc40 n x2 x3 x4 x5 x6 A = some (r, A')), v_V fz sc d 157 51 [some (.ref 22), none, some (.int x2), some (.int x3), some (.int x4), some (.int x5), some (.int x6), none] [] (hM c A R) (fun rv h' => rv = some (.int r) ∧ h' = hM c A' R) := by
  intro n
  induction n with
  | zero => intro x2 x3 x4 x5 x6 A r A' hf; cases hf
  | succ n ih =>
    intro x2 x3 x4 x5 x6 A r A' hf
    exact gt_157_51b hfz N c R d hd rc36 rc40 hrc36 hrc40 (g_157_51 N rc36 rc40 n) ih x2 x3 x4 x5 x6 A r A' hf
set_option maxRecDepth 100000 in
set_option maxHeartbeats 4000000 in
theorem gt_157_40b {fz : Value} {sc : Nat × (Nat → Int32)} (hfz : fz = .null ∨ fz = .retAddr 60) (N : Nat) (c : Nat → aC) (R : List aC) (d : Nat) (hd : 4 ≤ d) (rc36 : Int32 → Int32 → mS → Option (Int32 × mS)) (hrc36 : ∀ (x2 : Int32) (x3 : Int32) (A : mS) (r : Int32) (A' : mS), rc36 x2 x3 A = some (r, A') → v_V fz sc d 157 36 [some (.ref 22), none, some (.int x2), some (.int x3), none, none, none, none] [] (hM c A R) (fun rv h' => rv = some (.int r) ∧ h' = hM c A' R)) (rc40 : Int32 → Int32 → Int32 → mS → Option (Int32 × mS)) (hrc40 : ∀ (x2 : Int32) (x3 : Int32) (x4 : Int32) (A : mS) (r : Int32) (A' : mS), rc40 x2 x3 x4 A = some (r, A') → v_V fz sc d 157 40 [some (.ref 22), none, some (.int x2), some (.int x3), some (.int x4), none, none, none] [] (hM c A R) (fun rv h' => rv = some (.int r) ∧ h' = hM c A' R)) (x2 : Int32) (x3 : Int32) (x4 : Int32) (A : mS) (r : Int32) (A' : mS) (hf : g_157_40b N rc36 rc40 x2 x3 x4 A = some (r, A')) : v_V fz sc d 157 40 [some (.ref 22), none, some (.int x2), some (.int x3), some (.int x4), none, none, none] [] (hM c A R) (fun rv h' => rv = some (.int r) ∧ h' = hM c A' R) := by
  unfold g_157_40b at hf
  obtain ⟨d, rfl⟩ : ∃ z, d = z + 1 := ⟨d - 1, by omega⟩
  refine v_blk 3 (i' := (bif (a_ic .ge x4 (4 : Int32)) then 80 else 43)) (L' := [some (.ref 22), none, some (.int x2), some (.int x3), some (.int x4), none, none, none]) (st' := []) (h' := (hM c A R)) (fun _ => rfl) ?_
  rcases Bool.eq_false_or_eq_true (a_ic .ge x4 (4 : Int32)) with hb | hb
  · have hf := a_bt hb hf
    refine v_it hb ?_
    obtain ⟨y5, hy, hf⟩ := m_li_ok hf
    refine v_ii rfl rfl rfl rfl hy rfl ?_
    refine v_blk 1 (i' := 36) (L' := [some (.ref 22), none, some (.int x2), some (.int y5), some (.int x4), none, none, none]) (st' := []) (h' := (hM c A R)) (fun _ => rfl) ?_
    refine v_weak (L' := [some (.ref 22), none, some (.int x2), some (.int y5), none, none, none, none]) (show a_wk [some (.ref 22), none, some (.int x2), some (.int y5), none, none, none, none] [some (.ref 22), none, some (.int x2), some (.int y5), some (.int x4), none, none, none] from ⟨rfl, ⟨(fun v hv => by cases hv), ⟨rfl, ⟨rfl, ⟨(fun v hv => by cases hv; rfl), ⟨(fun v hv => by cases hv), ⟨(fun v hv => by cases hv), ⟨(fun v hv => by cases hv), trivial⟩⟩⟩⟩⟩⟩⟩⟩) ?_
    exact hrc36 x2 y5 A _ _ hf
  · have hf := a_be hb hf
    refine v_ie hb ?_
    obtain ⟨r6, A6, hc, hf⟩ := m_bd_ok hf
    refine v_call 5 (k' := 156) (i' := 48) (E := [some (.ref 22), some (.int x3), some (.int x4), some (.int (0 : Int32))]) (L' := [some (.ref 22), none, some (.int x2), some (.int x3), some (.int x4), none, none, none]) (rest := []) (h1 := (hM c A R)) (fun _ => rfl) ?_
    refine v_post (gt_156 hfz N c R d (by omega) x3 x4 (0 : Int32) A _ _ hc) ?_
    rintro rv h' ⟨rfl, rfl⟩
    refine v_blk 3 (i' := 51) (L' := [some (.ref 22), none, some (.int x2), some (.int x3), some (.int x4), some (.int r6), some (.int (1 : Int32)), none]) (st' := []) (h' := (hM c A6 R)) (fun _ => rfl) ?_
    exact gt_157_51 hfz N c R (d + 1) hd rc36 rc40 hrc36 hrc40 N x2 x3 x4 r6 (1 : Int32) A6 _ _ hf
theorem gt_157_40 {fz : Value} {sc : Nat × (Nat → Int32)} (hfz : fz = .null ∨ fz = .retAddr 60) (N : Nat) (c : Nat → aC) (R : List aC) (d : Nat) (hd : 4 ≤ d) (rc36 : Int32 → Int32 → mS → Option (Int32 × mS)) (hrc36 : ∀ (x2 : Int32) (x3 : Int32) (A : mS) (r : Int32) (A' : mS), rc36 x2 x3 A = some (r, A') → v_V fz sc d 157 36 [some (.ref 22), none, some (.int x2), some (.int x3), none, none, none, none] [] (hM c A R) (fun rv h' => rv = some (.int r) ∧ h' = hM c A' R)) : ∀ (n : Nat) (x2 : Int32) (x3 : Int32) (x4 : Int32) (A : mS) (r : Int32) (A' : mS) (hf : g_157_40 N rc36 n x2 x3 x4 A = some (r, A')), v_V fz sc d 157 40 [some (.ref 22), none, some (.int x2), some (.int x3), some (.int x4), none, none, none] [] (hM c A R) (fun rv h' => rv = some (.int r) ∧ h' = hM c A' R) := by
  intro n
  induction n with
  | zero => intro x2 x3 x4 A r A' hf; cases hf
  | succ n ih =>
    intro x2 x3 x4 A r A' hf
    exact gt_157_40b hfz N c R d hd rc36 hrc36 (g_157_40 N rc36 n) ih x2 x3 x4 A r A' hf
set_option maxRecDepth 100000 in
set_option maxHeartbeats 4000000 in
theorem gt_157_36b {fz : Value} {sc : Nat × (Nat → Int32)} (hfz : fz = .null ∨ fz = .retAddr 60) (N : Nat) (c : Nat → aC) (R : List aC) (d : Nat) (hd : 4 ≤ d) (rc36 : Int32 → Int32 → mS → Option (Int32 × mS)) (hrc36 : ∀ (x2 : Int32) (x3 : Int32) (A : mS) (r : Int32) (A' : mS), rc36 x2 x3 A = some (r, A') → v_V fz sc d 157 36 [some (.ref 22), none, some (.int x2), some (.int x3), none, none, none, none] [] (hM c A R) (fun rv h' => rv = some (.int r) ∧ h' = hM c A' R)) (x2 : Int32) (x3 : Int32) (A : mS) (r : Int32) (A' : mS) (hf : g_157_36b N rc36 x2 x3 A = some (r, A')) : v_V fz sc d 157 36 [some (.ref 22), none, some (.int x2), some (.int x3), none, none, none, none] [] (hM c A R) (fun rv h' => rv = some (.int r) ∧ h' = hM c A' R) := by
  unfold g_157_36b at hf
  obtain ⟨d, rfl⟩ : ∃ z, d = z + 1 := ⟨d - 1, by omega⟩
  refine v_blk 2 (i' := (bif (a_ic .lt x3 (0 : Int32)) then 82 else 38)) (L' := [some (.ref 22), none, some (.int x2), some (.int x3), none, none, none, none]) (st' := []) (h' := (hM c A R)) (fun _ => rfl) ?_
  rcases Bool.eq_false_or_eq_true (a_ic .lt x3 (0 : Int32)) with hb | hb
  · have hf := a_bt hb hf
    refine v_it hb ?_
    refine v_blk 7 (i' := 89) (L' := [some (.ref 22), none, some (.int x2), some (.int ((A 0) 1)), some (.int (0 : Int32)), none, none, none]) (st' := []) (h' := (hM c A R)) (fun _ => rfl) ?_
    exact gt_157_89 hfz N c R (d + 1) hd N x2 ((A 0) 1) (0 : Int32) A _ _ hf
  · have hf := a_be hb hf
    refine v_ie hb ?_
    refine v_blk 2 (i' := 40) (L' := [some (.ref 22), none, some (.int x2), some (.int x3), some (.int (0 : Int32)), none, none, none]) (st' := []) (h' := (hM c A R)) (fun _ => rfl) ?_
    exact gt_157_40 hfz N c R (d + 1) hd rc36 hrc36 N x2 x3 (0 : Int32) A _ _ hf
theorem gt_157_36 {fz : Value} {sc : Nat × (Nat → Int32)} (hfz : fz = .null ∨ fz = .retAddr 60) (N : Nat) (c : Nat → aC) (R : List aC) (d : Nat) (hd : 4 ≤ d) : ∀ (n : Nat) (x2 : Int32) (x3 : Int32) (A : mS) (r : Int32) (A' : mS) (hf : g_157_36 N n x2 x3 A = some (r, A')), v_V fz sc d 157 36 [some (.ref 22), none, some (.int x2), some (.int x3), none, none, none, none] [] (hM c A R) (fun rv h' => rv = some (.int r) ∧ h' = hM c A' R) := by
  intro n
  induction n with
  | zero => intro x2 x3 A r A' hf; cases hf
  | succ n ih =>
    intro x2 x3 A r A' hf
    exact gt_157_36b hfz N c R d hd (g_157_36 N n) ih x2 x3 A r A' hf
