/-! 42.kthm, piece 6: runs of the class's methods are their mirrored functions (by program) -/
set_option maxRecDepth 100000 in
set_option maxHeartbeats 4000000 in
theorem kt_90 {fz : Value} {sc : Nat × (Nat → Int32)} (hfz : fz = .null ∨ fz = .retAddr 60) (N : Nat) (P : Nat → Option Nat) (vl kp : Option Nat) (Mo : Nat → aC) (R : List aC) (d : Nat) (hd : 2 ≤ d) (x1 : Int32) (C : mS) (r : Int32) (C' : mS) (hf : k_90 N P vl R x1 C = some (r, C')) : v_V fz sc d 90 0 [some (.ref 0), some (.int x1), none] [] (hX C P vl kp Mo R) (fun rv h' => rv = some (.int r) ∧ h' = hX C' P vl kp Mo R) := by
  unfold k_90 at hf
  obtain ⟨d, rfl⟩ : ∃ z, d = z + 1 := ⟨d - 1, by omega⟩
  obtain ⟨r1, C1, hc, hf⟩ := m_bd_ok hf
  refine v_call 8 (k' := 105) (i' := 8) (E := [some (.ref 7), some (.int (C 90 14)), some (.int x1)]) (L' := [some (.ref 0), some (.int x1), none]) (rest := []) (h1 := (hX C P vl kp Mo R)) (fun _ => rfl) ?_
  refine v_post (kt_105v7 hfz N P vl kp Mo R d (by omega) (C 90 14) x1 C _ _ hc) ?_
  rintro rv h' ⟨rfl, rfl⟩
  refine v_blk 3 (i' := (bif (a_ic .lt r1 (0 : Int32)) then 15 else 11)) (L' := [some (.ref 0), some (.int x1), some (.int r1)]) (st' := []) (h' := (hX C1 P vl kp Mo R)) (fun _ => rfl) ?_
  rcases Bool.eq_false_or_eq_true (a_ic .lt r1 (0 : Int32)) with hb | hb
  · have hf := a_bt hb hf
    refine v_it hb ?_
    obtain ⟨rfl, rfl⟩ := m_rt hf
    exact v_ret 2 (fun _ => rfl) ⟨rfl, rfl⟩
  · have hf := a_be hb hf
    refine v_ie hb ?_
    obtain ⟨rfl, rfl⟩ := m_rt hf
    exact v_ret 6 (fun _ => rfl) ⟨rfl, rfl⟩
set_option maxRecDepth 100000 in
set_option maxHeartbeats 4000000 in
theorem kt_104 {fz : Value} {sc : Nat × (Nat → Int32)} (hfz : fz = .null ∨ fz = .retAddr 60) (N : Nat) (P : Nat → Option Nat) (vl kp : Option Nat) (Mo : Nat → aC) (R : List aC) (d : Nat) (hd : 0 ≤ d) (x0 : Int32) (C : mS) (r : Int32) (C' : mS) (hf : k_104 N P vl R x0 C = some (r, C')) : v_V fz sc d 104 0 [some (.int x0)] [] (hX C P vl kp Mo R) (fun rv h' => rv = some (.int r) ∧ h' = hX C' P vl kp Mo R) := by
  unfold k_104 at hf
  refine v_blk 3 (i' := (bif (a_ic .lt x0 (1 : Int32)) then 8 else 3)) (L' := [some (.int x0)]) (st' := []) (h' := (hX C P vl kp Mo R)) (fun _ => rfl) ?_
  rcases Bool.eq_false_or_eq_true (a_ic .lt x0 (1 : Int32)) with hb | hb
  · have hf := a_bt hb hf
    refine v_it hb ?_
    obtain ⟨rfl, rfl⟩ := m_rt hf
    exact v_ret 2 (fun _ => rfl) ⟨rfl, rfl⟩
  · have hf := a_be hb hf
    refine v_ie hb ?_
    refine v_blk 3 (i' := (bif (a_ic .gt x0 (40 : Int32)) then 8 else 6)) (L' := [some (.int x0)]) (st' := []) (h' := (hX C P vl kp Mo R)) (fun _ => rfl) ?_
    rcases Bool.eq_false_or_eq_true (a_ic .gt x0 (40 : Int32)) with hb | hb
    · have hf := a_bt hb hf
      refine v_it hb ?_
      obtain ⟨rfl, rfl⟩ := m_rt hf
      exact v_ret 2 (fun _ => rfl) ⟨rfl, rfl⟩
    · have hf := a_be hb hf
      refine v_ie hb ?_
      obtain ⟨rfl, rfl⟩ := m_rt hf
      exact v_ret 3 (fun _ => rfl) ⟨rfl, rfl⟩
set_option maxRecDepth 100000 in
set_option maxHeartbeats 4000000 in
theorem kt_91_54 {fz : Value} {sc : Nat × (Nat → Int32)} (hfz : fz = .null ∨ fz = .retAddr 60) (N : Nat) (P : Nat → Option Nat) (vl kp : Option Nat) (Mo : Nat → aC) (R : List aC) (d : Nat) (hd : 7 ≤ d) (rc17 : Int32 → Int32 → Int32 → Int32 → mS → Option (Int32 × mS)) (hrc17 : ∀ (x1 : Int32) (x2 : Int32) (x3 : Int32) (x4 : Int32) (C : mS) (r : Int32) (C' : mS), rc17 x1 x2 x3 x4 C = some (r, C') → v_V fz sc d 91 17 [some (.ref 0), some (.int x1), some (.int x2), some (.int x3), some (.int x4)] [] (hX C P vl kp Mo R) (fun rv h' => rv = some (.int r) ∧ h' = hX C' P vl kp Mo R)) (x1 : Int32) (x2 : Int32) (x3 : Int32) (x4 : Int32) (C : mS) (r : Int32) (C' : mS) (hf : k_91_54 N P vl R rc17 x1 x2 x3 x4 C = some (r, C')) : v_V fz sc d 91 54 [some (.ref 0), some (.int x1), some (.int x2), some (.int x3), some (.int x4)] [] (hX C P vl kp Mo R) (fun rv h' => rv = some (.int r) ∧ h' = hX C' P vl kp Mo R) := by
  unfold k_91_54 at hf
  obtain ⟨d, rfl⟩ : ∃ z, d = z + 1 := ⟨d - 1, by omega⟩
  obtain ⟨r6, C6, hc, hf⟩ := m_bd_ok hf
  refine v_call 3 (k' := 19) (i' := 57) (E := [some (.ref 13), none, none, none, none]) (L' := [some (.ref 0), some (.int x1), some (.int x2), some (.int x3), some (.int x4)]) (rest := []) (h1 := (hX C P vl kp Mo R)) (fun _ => rfl) ?_
  refine v_post (kt_19 hfz N P vl kp Mo R d (by omega)  C _ _ hc) ?_
  rintro rv h' ⟨rfl, rfl⟩
  refine v_blk 3 (i' := 17) (L' := [some (.ref 0), some (.int x1), some (.int x2), some (.int x3), some (.int (x4 + (1 : Int32)))]) (st' := []) (h' := (hX C6 P vl kp Mo R)) (fun _ => rfl) ?_
  exact hrc17 x1 x2 x3 (x4 + (1 : Int32)) C6 _ _ hf
set_option maxRecDepth 100000 in
set_option maxHeartbeats 4000000 in
theorem kt_91_17b {fz : Value} {sc : Nat × (Nat → Int32)} (hfz : fz = .null ∨ fz = .retAddr 60) (N : Nat) (P : Nat → Option Nat) (vl kp : Option Nat) (Mo : Nat → aC) (R : List aC) (d : Nat) (hd : 7 ≤ d) (rc17 : Int32 → Int32 → Int32 → Int32 → mS → Option (Int32 × mS)) (hrc17 : ∀ (x1 : Int32) (x2 : Int32) (x3 : Int32) (x4 : Int32) (C : mS) (r : Int32) (C' : mS), rc17 x1 x2 x3 x4 C = some (r, C') → v_V fz sc d 91 17 [some (.ref 0), some (.int x1), some (.int x2), some (.int x3), some (.int x4)] [] (hX C P vl kp Mo R) (fun rv h' => rv = some (.int r) ∧ h' = hX C' P vl kp Mo R)) (x1 : Int32) (x2 : Int32) (x3 : Int32) (x4 : Int32) (C : mS) (r : Int32) (C' : mS) (hf : k_91_17b N P vl R rc17 x1 x2 x3 x4 C = some (r, C')) : v_V fz sc d 91 17 [some (.ref 0), some (.int x1), some (.int x2), some (.int x3), some (.int x4)] [] (hX C P vl kp Mo R) (fun rv h' => rv = some (.int r) ∧ h' = hX C' P vl kp Mo R) := by
  unfold k_91_17b at hf
  obtain ⟨d, rfl⟩ : ∃ z, d = z + 1 := ⟨d - 1, by omega⟩
  refine v_blk 3 (i' := (bif (a_ic .ge x4 x1) then 60 else 20)) (L' := [some (.ref 0), some (.int x1), some (.int x2), some (.int x3), some (.int x4)]) (st' := []) (h' := (hX C P vl kp Mo R)) (fun _ => rfl) ?_
  rcases Bool.eq_false_or_eq_true (a_ic .ge x4 x1) with hb | hb
  · have hf := a_bt hb hf
    refine v_it hb ?_
    obtain ⟨rfl, rfl⟩ := m_rt hf
    exact v_ret 2 (fun _ => rfl) ⟨rfl, rfl⟩
  · have hf := a_be hb hf
    refine v_ie hb ?_
    obtain ⟨r3, C3, hc, hf⟩ := m_bd_ok hf
    refine v_call 3 (k' := 12) (i' := 23) (E := [some (.ref 13), none]) (L' := [some (.ref 0), some (.int x1), some (.int x2), some (.int x3), some (.int x4)]) (rest := []) (h1 := (hX C P vl kp Mo R)) (fun _ => rfl) ?_
    refine v_post (kt_12 hfz N P vl kp Mo R d (by omega)  C _ _ hc) ?_
    rintro rv h' ⟨rfl, rfl⟩
    obtain ⟨r4, C4, hc, hf⟩ := m_bd_ok hf
    refine v_call 7 (k' := 30) (i' := 30) (E := [some (.ref 13), some (.int (C3 92 9))]) (L' := [some (.ref 0), some (.int x1), some (.int x2), some (.int x3), some (.int x4)]) (rest := [(.int x3)]) (h1 := (hX C3 P vl kp Mo R)) (fun _ => rfl) ?_
    refine v_post (kt_30 hfz N P vl kp Mo R d (by omega) (C3 92 9) C3 _ _ hc) ?_
    rintro rv h' ⟨rfl, rfl⟩
    refine v_blk 7 (i' := (bif (a_ic .ge x4 (C4 90 14)) then 54 else 37)) (L' := [some (.ref 0), some (.int x1), some (.int x2), some (.int (x3 + r4)), some (.int x4)]) (st' := []) (h' := (hX C4 P vl kp Mo R)) (fun _ => rfl) ?_
    rcases Bool.eq_false_or_eq_true (a_ic .ge x4 (C4 90 14)) with hb | hb
    · have hf := a_bt hb hf
      refine v_it hb ?_
      exact kt_91_54 hfz N P vl kp Mo R (d + 1) hd rc17 hrc17 x1 x2 (x3 + r4) x4 C4 _ _ hf
    · have hf := a_be hb hf
      refine v_ie hb ?_
      obtain ⟨hg, hf⟩ := a_bif hf
      refine v_grd 5 (i' := 42) (L' := [some (.ref 0), some (.int x1), some (.int x2), some (.int (x3 + r4)), some (.int x4)]) (st' := [(.int ((C4 4) (x4).toNatClampNeg))]) (h' := (hX C4 P vl kp Mo R)) (fun _ => rfl) hg ?_
      obtain ⟨y5, hy, hf⟩ := m_li_ok hf
      rw [hy]
      refine v_blk 4 (i' := (bif (a_ic .ne y5 (C4 92 9)) then 54 else 46)) (L' := [some (.ref 0), some (.int x1), some (.int x2), some (.int (x3 + r4)), some (.int x4)]) (st' := []) (h' := (hX C4 P vl kp Mo R)) (fun _ => rfl) ?_
      rcases Bool.eq_false_or_eq_true (a_ic .ne y5 (C4 92 9)) with hb | hb
      · have hf := a_bt hb hf
        refine v_it hb ?_
        exact kt_91_54 hfz N P vl kp Mo R (d + 1) hd rc17 hrc17 x1 x2 (x3 + r4) x4 C4 _ _ hf
      · have hf := a_be hb hf
        refine v_ie hb ?_
        refine v_blk 8 (i' := 54) (L' := [some (.ref 0), some (.int x1), some (.int x2), some (.int ((x3 + r4) + (x2 * (C4 90 12)))), some (.int x4)]) (st' := []) (h' := (hX C4 P vl kp Mo R)) (fun _ => rfl) ?_
        exact kt_91_54 hfz N P vl kp Mo R (d + 1) hd rc17 hrc17 x1 x2 ((x3 + r4) + (x2 * (C4 90 12))) x4 C4 _ _ hf
theorem kt_91_17 {fz : Value} {sc : Nat × (Nat → Int32)} (hfz : fz = .null ∨ fz = .retAddr 60) (N : Nat) (P : Nat → Option Nat) (vl kp : Option Nat) (Mo : Nat → aC) (R : List aC) (d : Nat) (hd : 7 ≤ d) : ∀ (n : Nat) (x1 : Int32) (x2 : Int32) (x3 : Int32) (x4 : Int32) (C : mS) (r : Int32) (C' : mS) (hf : k_91_17 N P vl R n x1 x2 x3 x4 C = some (r, C')), v_V fz sc d 91 17 [some (.ref 0), some (.int x1), some (.int x2), some (.int x3), some (.int x4)] [] (hX C P vl kp Mo R) (fun rv h' => rv = some (.int r) ∧ h' = hX C' P vl kp Mo R) := by
  intro n
  induction n with
  | zero => intro x1 x2 x3 x4 C r C' hf; cases hf
  | succ n ih =>
    intro x1 x2 x3 x4 C r C' hf
    exact kt_91_17b hfz N P vl kp Mo R d hd (k_91_17 N P vl R n) ih x1 x2 x3 x4 C r C' hf
set_option maxRecDepth 100000 in
set_option maxHeartbeats 4000000 in
theorem kt_91 {fz : Value} {sc : Nat × (Nat → Int32)} (hfz : fz = .null ∨ fz = .retAddr 60) (N : Nat) (P : Nat → Option Nat) (vl kp : Option Nat) (Mo : Nat → aC) (R : List aC) (d : Nat) (hd : 7 ≤ d) (x1 : Int32) (x2 : Int32) (C : mS) (r : Int32) (C' : mS) (hf : k_91 N P vl R x1 x2 C = some (r, C')) : v_V fz sc d 91 0 [some (.ref 0), some (.int x1), some (.int x2), none, none] [] (hX C P vl kp Mo R) (fun rv h' => rv = some (.int r) ∧ h' = hX C' P vl kp Mo R) := by
  unfold k_91 at hf
  obtain ⟨d, rfl⟩ : ∃ z, d = z + 1 := ⟨d - 1, by omega⟩
  obtain ⟨r1, C1, hc, hf⟩ := m_bd_ok hf
  refine v_call 2 (k' := 104) (i' := 2) (E := [some (.int x1)]) (L' := [some (.ref 0), some (.int x1), some (.int x2), none, none]) (rest := []) (h1 := (hX C P vl kp Mo R)) (fun _ => rfl) ?_
  refine v_post (kt_104 hfz N P vl kp Mo R d (by omega) x1 C _ _ hc) ?_
  rintro rv h' ⟨rfl, rfl⟩
  refine v_blk 1 (i' := (bif (a_ic .eq r1 (0 : Int32)) then 8 else 3)) (L' := [some (.ref 0), some (.int x1), some (.int x2), none, none]) (st' := []) (h' := (hX C1 P vl kp Mo R)) (fun _ => rfl) ?_
  rcases Bool.eq_false_or_eq_true (a_ic .eq r1 (0 : Int32)) with hb | hb
  · have hf := a_bt hb hf
    refine v_it hb ?_
    obtain ⟨rfl, rfl⟩ := m_rt hf
    exact v_ret 2 (fun _ => rfl) ⟨rfl, rfl⟩
  · have hf := a_be hb hf
    refine v_ie hb ?_
    refine v_blk 2 (i' := (bif (a_ic .lt x2 (0 : Int32)) then 8 else 5)) (L' := [some (.ref 0), some (.int x1), some (.int x2), none, none]) (st' := []) (h' := (hX C1 P vl kp Mo R)) (fun _ => rfl) ?_
    rcases Bool.eq_false_or_eq_true (a_ic .lt x2 (0 : Int32)) with hb | hb
    · have hf := a_bt hb hf
      refine v_it hb ?_
      obtain ⟨rfl, rfl⟩ := m_rt hf
      exact v_ret 2 (fun _ => rfl) ⟨rfl, rfl⟩
    · have hf := a_be hb hf
      refine v_ie hb ?_
      refine v_blk 3 (i' := (bif (a_ic .le x2 (99 : Int32)) then 10 else 8)) (L' := [some (.ref 0), some (.int x1), some (.int x2), none, none]) (st' := []) (h' := (hX C1 P vl kp Mo R)) (fun _ => rfl) ?_
      rcases Bool.eq_false_or_eq_true (a_ic .le x2 (99 : Int32)) with hb | hb
      · have hf := a_bt hb hf
        refine v_it hb ?_
        obtain ⟨r2, C2, hc, hf⟩ := m_bd_ok hf
        refine v_call 5 (k' := 10) (i' := 15) (E := [some (.ref 13)]) (L' := [some (.ref 0), some (.int x1), some (.int x2), some (.int (0 : Int32)), none]) (rest := []) (h1 := (hX C1 P vl kp Mo R)) (fun _ => rfl) ?_
        refine v_post (kt_10 hfz N P vl kp Mo R d (by omega)  C1 _ _ hc) ?_
        rintro rv h' ⟨rfl, rfl⟩
        refine v_blk 2 (i' := 17) (L' := [some (.ref 0), some (.int x1), some (.int x2), some (.int (0 : Int32)), some (.int (0 : Int32))]) (st' := []) (h' := (hX C2 P vl kp Mo R)) (fun _ => rfl) ?_
        exact kt_91_17 hfz N P vl kp Mo R (d + 1) hd N x1 x2 (0 : Int32) (0 : Int32) C2 _ _ hf
      · have hf := a_be hb hf
        refine v_ie hb ?_
        obtain ⟨rfl, rfl⟩ := m_rt hf
        exact v_ret 2 (fun _ => rfl) ⟨rfl, rfl⟩
set_option maxRecDepth 100000 in
set_option maxHeartbeats 4000000 in
theorem kt_109_4b {fz : Value} {sc : Nat × (Nat → Int32)} (hfz : fz = .null ∨ fz = .retAddr 60) (N : Nat) (P : Nat → Option Nat) (vl kp : Option Nat) (Mo : Nat → aC) (R : List aC) (d : Nat) (hd : 4 ≤ d) (rc4 : Int32 → Int32 → mS → Option (Int32 × mS)) (hrc4 : ∀ (x1 : Int32) (x2 : Int32) (C : mS) (r : Int32) (C' : mS), rc4 x1 x2 C = some (r, C') → v_V fz sc d 109 4 [some (.ref 0), some (.int x1), some (.int x2), none] [] (hX C P vl kp Mo R) (fun rv h' => rv = some (.int r) ∧ h' = hX C' P vl kp Mo R)) (x1 : Int32) (x2 : Int32) (C : mS) (r : Int32) (C' : mS) (hf : k_109_4b N P vl R rc4 x1 x2 C = some (r, C')) : v_V fz sc d 109 4 [some (.ref 0), some (.int x1), some (.int x2), none] [] (hX C P vl kp Mo R) (fun rv h' => rv = some (.int r) ∧ h' = hX C' P vl kp Mo R) := by
  unfold k_109_4b at hf
  obtain ⟨d, rfl⟩ : ∃ z, d = z + 1 := ⟨d - 1, by omega⟩
  refine v_blk 5 (i' := (bif (a_ic .ge x2 (C 90 12)) then 35 else 9)) (L' := [some (.ref 0), some (.int x1), some (.int x2), none]) (st' := []) (h' := (hX C P vl kp Mo R)) (fun _ => rfl) ?_
  rcases Bool.eq_false_or_eq_true (a_ic .ge x2 (C 90 12)) with hb | hb
  · have hf := a_bt hb hf
    refine v_it hb ?_
    obtain ⟨rfl, rfl⟩ := m_rt hf
    exact v_ret 2 (fun _ => rfl) ⟨rfl, rfl⟩
  · have hf := a_be hb hf
    refine v_ie hb ?_
    obtain ⟨r1, C1, hc, hf⟩ := m_bd_ok hf
    refine v_call 7 (k' := 29) (i' := 16) (E := [some (.ref 13), some (.int x2), some (.int (C 92 9))]) (L' := [some (.ref 0), some (.int x1), some (.int x2), none]) (rest := []) (h1 := (hX C P vl kp Mo R)) (fun _ => rfl) ?_
    refine v_post (kt_29 hfz N P vl kp Mo R d (by omega) x2 (C 92 9) C _ _ hc) ?_
    rintro rv h' ⟨rfl, rfl⟩
    obtain ⟨hg, hf⟩ := a_bif hf
    refine v_grd 6 (i' := 22) (L' := [some (.ref 0), some (.int x1), some (.int x2), some (.int r1)]) (st' := [(.int ((C1 14) (x2).toNatClampNeg)), (.int x2), (.ref 19)]) (h' := (hX C1 P vl kp Mo R)) (fun _ => rfl) hg ?_
    obtain ⟨y2, hy, hf⟩ := m_li_ok hf
    rw [hy]
    obtain ⟨hg, hf⟩ := a_bif hf
    refine v_grd 3 (i' := 25) (L' := [some (.ref 0), some (.int x1), some (.int x2), some (.int r1)]) (st' := []) (h' := (hX (va_up C1 14 (upd (C1 14) (x2).toNatClampNeg (y2 + r1))) P vl kp Mo R)) (fun _ => rfl) hg ?_
    obtain ⟨C3, hA, hf⟩ := m_st_ok hf
    rw [hA]
    refine v_blk 2 (i' := (bif (a_ic .le r1 (0 : Int32)) then 33 else 27)) (L' := [some (.ref 0), some (.int x1), some (.int x2), some (.int r1)]) (st' := []) (h' := (hX C3 P vl kp Mo R)) (fun _ => rfl) ?_
    rcases Bool.eq_false_or_eq_true (a_ic .le r1 (0 : Int32)) with hb | hb
    · have hf := a_bt hb hf
      refine v_it hb ?_
      refine v_blk 2 (i' := 4) (L' := [some (.ref 0), some (.int x1), some (.int (x2 + (1 : Int32))), some (.int r1)]) (st' := []) (h' := (hX C3 P vl kp Mo R)) (fun _ => rfl) ?_
      refine v_weak (L' := [some (.ref 0), some (.int x1), some (.int (x2 + (1 : Int32))), none]) (show a_wk [some (.ref 0), some (.int x1), some (.int (x2 + (1 : Int32))), none] [some (.ref 0), some (.int x1), some (.int (x2 + (1 : Int32))), some (.int r1)] from ⟨rfl, ⟨rfl, ⟨rfl, ⟨(fun v hv => by cases hv; rfl), trivial⟩⟩⟩⟩) ?_
      exact hrc4 x1 (x2 + (1 : Int32)) C3 _ _ hf
    · have hf := a_be hb hf
      refine v_ie hb ?_
      refine v_blk 8 (i' := 4) (L' := [some (.ref 0), some (.int (x1 ||| ((1 : Int32) <<< (x2 &&& 31)))), some (.int (x2 + (1 : Int32))), some (.int r1)]) (st' := []) (h' := (hX C3 P vl kp Mo R)) (fun _ => rfl) ?_
      refine v_weak (L' := [some (.ref 0), some (.int (x1 ||| ((1 : Int32) <<< (x2 &&& 31)))), some (.int (x2 + (1 : Int32))), none]) (show a_wk [some (.ref 0), some (.int (x1 ||| ((1 : Int32) <<< (x2 &&& 31)))), some (.int (x2 + (1 : Int32))), none] [some (.ref 0), some (.int (x1 ||| ((1 : Int32) <<< (x2 &&& 31)))), some (.int (x2 + (1 : Int32))), some (.int r1)] from ⟨rfl, ⟨rfl, ⟨rfl, ⟨(fun v hv => by cases hv; rfl), trivial⟩⟩⟩⟩) ?_
      exact hrc4 (x1 ||| ((1 : Int32) <<< (x2 &&& 31))) (x2 + (1 : Int32)) C3 _ _ hf
theorem kt_109_4 {fz : Value} {sc : Nat × (Nat → Int32)} (hfz : fz = .null ∨ fz = .retAddr 60) (N : Nat) (P : Nat → Option Nat) (vl kp : Option Nat) (Mo : Nat → aC) (R : List aC) (d : Nat) (hd : 4 ≤ d) : ∀ (n : Nat) (x1 : Int32) (x2 : Int32) (C : mS) (r : Int32) (C' : mS) (hf : k_109_4 N P vl R n x1 x2 C = some (r, C')), v_V fz sc d 109 4 [some (.ref 0), some (.int x1), some (.int x2), none] [] (hX C P vl kp Mo R) (fun rv h' => rv = some (.int r) ∧ h' = hX C' P vl kp Mo R) := by
  intro n
  induction n with
  | zero => intro x1 x2 C r C' hf; cases hf
  | succ n ih =>
    intro x1 x2 C r C' hf
    exact kt_109_4b hfz N P vl kp Mo R d hd (k_109_4 N P vl R n) ih x1 x2 C r C' hf
set_option maxRecDepth 100000 in
set_option maxHeartbeats 4000000 in
theorem kt_109 {fz : Value} {sc : Nat × (Nat → Int32)} (hfz : fz = .null ∨ fz = .retAddr 60) (N : Nat) (P : Nat → Option Nat) (vl kp : Option Nat) (Mo : Nat → aC) (R : List aC) (d : Nat) (hd : 4 ≤ d) (C : mS) (r : Int32) (C' : mS) (hf : k_109 N P vl R  C = some (r, C')) : v_V fz sc d 109 0 [some (.ref 0), none, none, none] [] (hX C P vl kp Mo R) (fun rv h' => rv = some (.int r) ∧ h' = hX C' P vl kp Mo R) := by
  unfold k_109 at hf
  obtain ⟨d, rfl⟩ : ∃ z, d = z + 1 := ⟨d - 1, by omega⟩
  refine v_blk 4 (i' := 4) (L' := [some (.ref 0), some (.int (0 : Int32)), some (.int (0 : Int32)), none]) (st' := []) (h' := (hX C P vl kp Mo R)) (fun _ => rfl) ?_
  exact kt_109_4 hfz N P vl kp Mo R (d + 1) hd N (0 : Int32) (0 : Int32) C _ _ hf
set_option maxRecDepth 100000 in
set_option maxHeartbeats 4000000 in
theorem kt_110_12b {fz : Value} {sc : Nat × (Nat → Int32)} (hfz : fz = .null ∨ fz = .retAddr 60) (N : Nat) (P : Nat → Option Nat) (vl kp : Option Nat) (Mo : Nat → aC) (R : List aC) (d : Nat) (hd : 0 ≤ d) (rc12 : Int32 → Int32 → Int32 → mS → Option (Int32 × mS)) (hrc12 : ∀ (x1 : Int32) (x2 : Int32) (x3 : Int32) (C : mS) (r : Int32) (C' : mS), rc12 x1 x2 x3 C = some (r, C') → v_V fz sc d 110 12 [some (.ref 0), some (.int x1), some (.int x2), some (.int x3)] [] (hX C P vl kp Mo R) (fun rv h' => rv = some (.int r) ∧ h' = hX C' P vl kp Mo R)) (x1 : Int32) (x2 : Int32) (x3 : Int32) (C : mS) (r : Int32) (C' : mS) (hf : k_110_12b N P vl R rc12 x1 x2 x3 C = some (r, C')) : v_V fz sc d 110 12 [some (.ref 0), some (.int x1), some (.int x2), some (.int x3)] [] (hX C P vl kp Mo R) (fun rv h' => rv = some (.int r) ∧ h' = hX C' P vl kp Mo R) := by
  unfold k_110_12b at hf
  refine v_blk 5 (i' := (bif (a_ic .ge x3 (C 90 12)) then 33 else 17)) (L' := [some (.ref 0), some (.int x1), some (.int x2), some (.int x3)]) (st' := []) (h' := (hX C P vl kp Mo R)) (fun _ => rfl) ?_
  rcases Bool.eq_false_or_eq_true (a_ic .ge x3 (C 90 12)) with hb | hb
  · have hf := a_bt hb hf
    refine v_it hb ?_
    refine v_blk 4 (i' := (bif (a_ic .ne (C 90 12) (0 : Int32)) then 39 else 37)) (L' := [some (.ref 0), some (.int x1), some (.int x2), some (.int x3)]) (st' := []) (h' := (hX C P vl kp Mo R)) (fun _ => rfl) ?_
    rcases Bool.eq_false_or_eq_true (a_ic .ne (C 90 12) (0 : Int32)) with hb | hb
    · have hf := a_bt hb hf
      refine v_it hb ?_
      obtain ⟨rfl, rfl⟩ := m_rt hf
      exact v_ret 4 (fun _ => rfl) ⟨rfl, rfl⟩
    · have hf := a_be hb hf
      refine v_ie hb ?_
      obtain ⟨rfl, rfl⟩ := m_rt hf
      exact v_ret 3 (fun _ => rfl) ⟨rfl, rfl⟩
  · have hf := a_be hb hf
    refine v_ie hb ?_
    obtain ⟨hg, hf⟩ := a_bif hf
    refine v_grd 5 (i' := 22) (L' := [some (.ref 0), some (.int x1), some (.int x2), some (.int x3)]) (st' := [(.int ((C 14) (x3).toNatClampNeg)), (.int x1)]) (h' := (hX C P vl kp Mo R)) (fun _ => rfl) hg ?_
    obtain ⟨y1, hy, hf⟩ := m_li_ok hf
    rw [hy]
    refine v_blk 1 (i' := 23) (L' := [some (.ref 0), some (.int x1), some (.int x2), some (.int x3)]) (st' := [(.int (if y1 < x1 then y1 else x1))]) (h' := (hX C P vl kp Mo R)) (fun _ => rfl) ?_
    obtain ⟨y2, hy, hf⟩ := m_li_ok hf
    rw [hy]
    obtain ⟨hg, hf⟩ := a_bif hf
    refine v_grd 6 (i' := 29) (L' := [some (.ref 0), some (.int y2), some (.int x2), some (.int x3)]) (st' := [(.int ((C 14) (x3).toNatClampNeg)), (.int x2)]) (h' := (hX C P vl kp Mo R)) (fun _ => rfl) hg ?_
    obtain ⟨y3, hy, hf⟩ := m_li_ok hf
    rw [hy]
    refine v_blk 1 (i' := 30) (L' := [some (.ref 0), some (.int y2), some (.int x2), some (.int x3)]) (st' := [(.int (if x2 < y3 then y3 else x2))]) (h' := (hX C P vl kp Mo R)) (fun _ => rfl) ?_
    obtain ⟨y4, hy, hf⟩ := m_li_ok hf
    rw [hy]
    refine v_blk 3 (i' := 12) (L' := [some (.ref 0), some (.int y2), some (.int y4), some (.int (x3 + (1 : Int32)))]) (st' := []) (h' := (hX C P vl kp Mo R)) (fun _ => rfl) ?_
    exact hrc12 y2 y4 (x3 + (1 : Int32)) C _ _ hf
theorem kt_110_12 {fz : Value} {sc : Nat × (Nat → Int32)} (hfz : fz = .null ∨ fz = .retAddr 60) (N : Nat) (P : Nat → Option Nat) (vl kp : Option Nat) (Mo : Nat → aC) (R : List aC) (d : Nat) (hd : 0 ≤ d) : ∀ (n : Nat) (x1 : Int32) (x2 : Int32) (x3 : Int32) (C : mS) (r : Int32) (C' : mS) (hf : k_110_12 N P vl R n x1 x2 x3 C = some (r, C')), v_V fz sc d 110 12 [some (.ref 0), some (.int x1), some (.int x2), some (.int x3)] [] (hX C P vl kp Mo R) (fun rv h' => rv = some (.int r) ∧ h' = hX C' P vl kp Mo R) := by
  intro n
  induction n with
  | zero => intro x1 x2 x3 C r C' hf; cases hf
  | succ n ih =>
    intro x1 x2 x3 C r C' hf
    exact kt_110_12b hfz N P vl kp Mo R d hd (k_110_12 N P vl R n) ih x1 x2 x3 C r C' hf
set_option maxRecDepth 100000 in
set_option maxHeartbeats 4000000 in
theorem kt_110 {fz : Value} {sc : Nat × (Nat → Int32)} (hfz : fz = .null ∨ fz = .retAddr 60) (N : Nat) (P : Nat → Option Nat) (vl kp : Option Nat) (Mo : Nat → aC) (R : List aC) (d : Nat) (hd : 0 ≤ d) (C : mS) (r : Int32) (C' : mS) (hf : k_110 N P vl R  C = some (r, C')) : v_V fz sc d 110 0 [some (.ref 0), none, none, none] [] (hX C P vl kp Mo R) (fun rv h' => rv = some (.int r) ∧ h' = hX C' P vl kp Mo R) := by
  unfold k_110 at hf
  refine v_blk 12 (i' := 12) (L' := [some (.ref 0), some (.int ((C 14) 0)), some (.int ((C 14) 0)), some (.int (1 : Int32))]) (st' := []) (h' := (hX C P vl kp Mo R)) (fun _ => rfl) ?_
  exact kt_110_12 hfz N P vl kp Mo R d hd N ((C 14) 0) ((C 14) 0) (1 : Int32) C _ _ hf
set_option maxRecDepth 100000 in
set_option maxHeartbeats 4000000 in
theorem kt_92_39b {fz : Value} {sc : Nat × (Nat → Int32)} (hfz : fz = .null ∨ fz = .retAddr 60) (N : Nat) (P : Nat → Option Nat) (vl kp : Option Nat) (Mo : Nat → aC) (R : List aC) (d : Nat) (hd : 7 ≤ d) (rc39 : Int32 → Int32 → Int32 → Int32 → mS → Option (Int32 × mS)) (hrc39 : ∀ (x1 : Int32) (x2 : Int32) (x3 : Int32) (x4 : Int32) (C : mS) (r : Int32) (C' : mS), rc39 x1 x2 x3 x4 C = some (r, C') → v_V fz sc d 92 39 [some (.ref 0), some (.int x1), some (.int x2), some (.int x3), some (.int x4)] [] (hX C P vl kp Mo R) (fun rv h' => rv = some (.int r) ∧ h' = hX C' P vl kp Mo R)) (x1 : Int32) (x2 : Int32) (x3 : Int32) (x4 : Int32) (C : mS) (r : Int32) (C' : mS) (hf : k_92_39b N P vl R rc39 x1 x2 x3 x4 C = some (r, C')) : v_V fz sc d 92 39 [some (.ref 0), some (.int x1), some (.int x2), some (.int x3), some (.int x4)] [] (hX C P vl kp Mo R) (fun rv h' => rv = some (.int r) ∧ h' = hX C' P vl kp Mo R) := by
  unfold k_92_39b at hf
  obtain ⟨d, rfl⟩ : ∃ z, d = z + 1 := ⟨d - 1, by omega⟩
  refine v_blk 3 (i' := (bif (a_ic .ge x4 x1) then 58 else 42)) (L' := [some (.ref 0), some (.int x1), some (.int x2), some (.int x3), some (.int x4)]) (st' := []) (h' := (hX C P vl kp Mo R)) (fun _ => rfl) ?_
  rcases Bool.eq_false_or_eq_true (a_ic .ge x4 x1) with hb | hb
  · have hf := a_bt hb hf
    refine v_it hb ?_
    refine v_blk 2 (i' := (bif (a_ic .ne x2 (0 : Int32)) then 62 else 60)) (L' := [some (.ref 0), some (.int x1), some (.int x2), some (.int x3), some (.int x4)]) (st' := []) (h' := (hX C P vl kp Mo R)) (fun _ => rfl) ?_
    rcases Bool.eq_false_or_eq_true (a_ic .ne x2 (0 : Int32)) with hb | hb
    · have hf := a_bt hb hf
      refine v_it hb ?_
      obtain ⟨r4, C4, hc, hf⟩ := m_bd_ok hf
      refine v_call 2 (k' := 110) (i' := 64) (E := [some (.ref 0), none, none, none]) (L' := [some (.ref 0), some (.int x1), some (.int x2), some (.int x3), some (.int x4)]) (rest := []) (h1 := (hX C P vl kp Mo R)) (fun _ => rfl) ?_
      refine v_post (kt_110 hfz N P vl kp Mo R d (by omega)  C _ _ hc) ?_
      rintro rv h' ⟨rfl, rfl⟩
      obtain ⟨rfl, rfl⟩ := m_rt hf
      exact v_ret 1 (fun _ => rfl) ⟨rfl, rfl⟩
    · have hf := a_be hb hf
      refine v_ie hb ?_
      obtain ⟨rfl, rfl⟩ := m_rt hf
      exact v_ret 3 (fun _ => rfl) ⟨rfl, rfl⟩
  · have hf := a_be hb hf
    refine v_ie hb ?_
    obtain ⟨r5, C5, hc, hf⟩ := m_bd_ok hf
    refine v_call 3 (k' := 12) (i' := 45) (E := [some (.ref 13), none]) (L' := [some (.ref 0), some (.int x1), some (.int x2), some (.int x3), some (.int x4)]) (rest := []) (h1 := (hX C P vl kp Mo R)) (fun _ => rfl) ?_
    refine v_post (kt_12 hfz N P vl kp Mo R d (by omega)  C _ _ hc) ?_
    rintro rv h' ⟨rfl, rfl⟩
    obtain ⟨r6, C6, hc, hf⟩ := m_bd_ok hf
    refine v_call 3 (k' := 109) (i' := 48) (E := [some (.ref 0), none, none, none]) (L' := [some (.ref 0), some (.int x1), some (.int x2), some (.int x3), some (.int x4)]) (rest := [(.int x3)]) (h1 := (hX C5 P vl kp Mo R)) (fun _ => rfl) ?_
    refine v_post (kt_109 hfz N P vl kp Mo R d (by omega)  C5 _ _ hc) ?_
    rintro rv h' ⟨rfl, rfl⟩
    refine v_blk 2 (i' := 50) (L' := [some (.ref 0), some (.int x1), some (.int x2), some (.int x3), some (.int x4)]) (st' := [(.int (r6 ^^^ (-1 : Int32))), (.int x3)]) (h' := (hX C6 P vl kp Mo R)) (fun _ => rfl) ?_
    obtain ⟨y7, hy, hf⟩ := m_li_ok hf
    rw [hy]
    obtain ⟨r8, C8, hc, hf⟩ := m_bd_ok hf
    refine v_call 5 (k' := 19) (i' := 55) (E := [some (.ref 13), none, none, none, none]) (L' := [some (.ref 0), some (.int x1), some (.int x2), some (.int (x3 &&& y7)), some (.int x4)]) (rest := []) (h1 := (hX C6 P vl kp Mo R)) (fun _ => rfl) ?_
    refine v_post (kt_19 hfz N P vl kp Mo R d (by omega)  C6 _ _ hc) ?_
    rintro rv h' ⟨rfl, rfl⟩
    refine v_blk 3 (i' := 39) (L' := [some (.ref 0), some (.int x1), some (.int x2), some (.int (x3 &&& y7)), some (.int (x4 + (1 : Int32)))]) (st' := []) (h' := (hX C8 P vl kp Mo R)) (fun _ => rfl) ?_
    exact hrc39 x1 x2 (x3 &&& y7) (x4 + (1 : Int32)) C8 _ _ hf
theorem kt_92_39 {fz : Value} {sc : Nat × (Nat → Int32)} (hfz : fz = .null ∨ fz = .retAddr 60) (N : Nat) (P : Nat → Option Nat) (vl kp : Option Nat) (Mo : Nat → aC) (R : List aC) (d : Nat) (hd : 7 ≤ d) : ∀ (n : Nat) (x1 : Int32) (x2 : Int32) (x3 : Int32) (x4 : Int32) (C : mS) (r : Int32) (C' : mS) (hf : k_92_39 N P vl R n x1 x2 x3 x4 C = some (r, C')), v_V fz sc d 92 39 [some (.ref 0), some (.int x1), some (.int x2), some (.int x3), some (.int x4)] [] (hX C P vl kp Mo R) (fun rv h' => rv = some (.int r) ∧ h' = hX C' P vl kp Mo R) := by
  intro n
  induction n with
  | zero => intro x1 x2 x3 x4 C r C' hf; cases hf
  | succ n ih =>
    intro x1 x2 x3 x4 C r C' hf
    exact kt_92_39b hfz N P vl kp Mo R d hd (k_92_39 N P vl R n) ih x1 x2 x3 x4 C r C' hf
set_option maxRecDepth 100000 in
set_option maxHeartbeats 4000000 in
theorem kt_92_14b {fz : Value} {sc : Nat × (Nat → Int32)} (hfz : fz = .null ∨ fz = .retAddr 60) (N : Nat) (P : Nat → Option Nat) (vl kp : Option Nat) (Mo : Nat → aC) (R : List aC) (d : Nat) (hd : 7 ≤ d) (rc14 : Int32 → Int32 → Int32 → mS → Option (Int32 × mS)) (hrc14 : ∀ (x1 : Int32) (x2 : Int32) (x3 : Int32) (C : mS) (r : Int32) (C' : mS), rc14 x1 x2 x3 C = some (r, C') → v_V fz sc d 92 14 [some (.ref 0), some (.int x1), some (.int x2), some (.int x3), none] [] (hX C P vl kp Mo R) (fun rv h' => rv = some (.int r) ∧ h' = hX C' P vl kp Mo R)) (x1 : Int32) (x2 : Int32) (x3 : Int32) (C : mS) (r : Int32) (C' : mS) (hf : k_92_14b N P vl R rc14 x1 x2 x3 C = some (r, C')) : v_V fz sc d 92 14 [some (.ref 0), some (.int x1), some (.int x2), some (.int x3), none] [] (hX C P vl kp Mo R) (fun rv h' => rv = some (.int r) ∧ h' = hX C' P vl kp Mo R) := by
  unfold k_92_14b at hf
  obtain ⟨d, rfl⟩ : ∃ z, d = z + 1 := ⟨d - 1, by omega⟩
  refine v_blk 5 (i' := (bif (a_ic .ge x3 (C 90 12)) then 26 else 19)) (L' := [some (.ref 0), some (.int x1), some (.int x2), some (.int x3), none]) (st' := []) (h' := (hX C P vl kp Mo R)) (fun _ => rfl) ?_
  rcases Bool.eq_false_or_eq_true (a_ic .ge x3 (C 90 12)) with hb | hb
  · have hf := a_bt hb hf
    refine v_it hb ?_
    obtain ⟨r2, C2, hc, hf⟩ := m_bd_ok hf
    refine v_call 11 (k' := 10) (i' := 37) (E := [some (.ref 13)]) (L' := [some (.ref 0), some (.int x1), some (.int x2), some (.int (((1 : Int32) <<< ((C 90 12) &&& 31)) - (1 : Int32))), none]) (rest := []) (h1 := (hX C P vl kp Mo R)) (fun _ => rfl) ?_
    refine v_post (kt_10 hfz N P vl kp Mo R d (by omega)  C _ _ hc) ?_
    rintro rv h' ⟨rfl, rfl⟩
    refine v_blk 2 (i' := 39) (L' := [some (.ref 0), some (.int x1), some (.int x2), some (.int (((1 : Int32) <<< ((C 90 12) &&& 31)) - (1 : Int32))), some (.int (0 : Int32))]) (st' := []) (h' := (hX C2 P vl kp Mo R)) (fun _ => rfl) ?_
    exact kt_92_39 hfz N P vl kp Mo R (d + 1) hd N x1 x2 (((1 : Int32) <<< ((C 90 12) &&& 31)) - (1 : Int32)) (0 : Int32) C2 _ _ hf
  · have hf := a_be hb hf
    refine v_ie hb ?_
    obtain ⟨hg, hf⟩ := a_bif hf
    refine v_grd 5 (i' := 24) (L' := [some (.ref 0), some (.int x1), some (.int x2), some (.int x3), none]) (st' := []) (h' := (hX (va_up C 14 (upd (C 14) (x3).toNatClampNeg (0 : Int32))) P vl kp Mo R)) (fun _ => rfl) hg ?_
    obtain ⟨C3, hA, hf⟩ := m_st_ok hf
    rw [hA]
    refine v_blk 2 (i' := 14) (L' := [some (.ref 0), some (.int x1), some (.int x2), some (.int (x3 + (1 : Int32))), none]) (st' := []) (h' := (hX C3 P vl kp Mo R)) (fun _ => rfl) ?_
    exact hrc14 x1 x2 (x3 + (1 : Int32)) C3 _ _ hf
theorem kt_92_14 {fz : Value} {sc : Nat × (Nat → Int32)} (hfz : fz = .null ∨ fz = .retAddr 60) (N : Nat) (P : Nat → Option Nat) (vl kp : Option Nat) (Mo : Nat → aC) (R : List aC) (d : Nat) (hd : 7 ≤ d) : ∀ (n : Nat) (x1 : Int32) (x2 : Int32) (x3 : Int32) (C : mS) (r : Int32) (C' : mS) (hf : k_92_14 N P vl R n x1 x2 x3 C = some (r, C')), v_V fz sc d 92 14 [some (.ref 0), some (.int x1), some (.int x2), some (.int x3), none] [] (hX C P vl kp Mo R) (fun rv h' => rv = some (.int r) ∧ h' = hX C' P vl kp Mo R) := by
  intro n
  induction n with
  | zero => intro x1 x2 x3 C r C' hf; cases hf
  | succ n ih =>
    intro x1 x2 x3 C r C' hf
    exact kt_92_14b hfz N P vl kp Mo R d hd (k_92_14 N P vl R n) ih x1 x2 x3 C r C' hf
set_option maxRecDepth 100000 in
set_option maxHeartbeats 4000000 in
theorem kt_92 {fz : Value} {sc : Nat × (Nat → Int32)} (hfz : fz = .null ∨ fz = .retAddr 60) (N : Nat) (P : Nat → Option Nat) (vl kp : Option Nat) (Mo : Nat → aC) (R : List aC) (d : Nat) (hd : 7 ≤ d) (x1 : Int32) (x2 : Int32) (C : mS) (r : Int32) (C' : mS) (hf : k_92 N P vl R x1 x2 C = some (r, C')) : v_V fz sc d 92 0 [some (.ref 0), some (.int x1), some (.int x2), none, none] [] (hX C P vl kp Mo R) (fun rv h' => rv = some (.int r) ∧ h' = hX C' P vl kp Mo R) := by
  unfold k_92 at hf
  obtain ⟨d, rfl⟩ : ∃ z, d = z + 1 := ⟨d - 1, by omega⟩
  refine v_blk 2 (i' := (bif (a_ic .lt x2 (0 : Int32)) then 5 else 2)) (L' := [some (.ref 0), some (.int x1), some (.int x2), none, none]) (st' := []) (h' := (hX C P vl kp Mo R)) (fun _ => rfl) ?_
  rcases Bool.eq_false_or_eq_true (a_ic .lt x2 (0 : Int32)) with hb | hb
  · have hf := a_bt hb hf
    refine v_it hb ?_
    obtain ⟨rfl, rfl⟩ := m_rt hf
    exact v_ret 2 (fun _ => rfl) ⟨rfl, rfl⟩
  · have hf := a_be hb hf
    refine v_ie hb ?_
    refine v_blk 3 (i' := (bif (a_ic .le x2 (1 : Int32)) then 7 else 5)) (L' := [some (.ref 0), some (.int x1), some (.int x2), none, none]) (st' := []) (h' := (hX C P vl kp Mo R)) (fun _ => rfl) ?_
    rcases Bool.eq_false_or_eq_true (a_ic .le x2 (1 : Int32)) with hb | hb
    · have hf := a_bt hb hf
      refine v_it hb ?_
      obtain ⟨r1, C1, hc, hf⟩ := m_bd_ok hf
      refine v_call 2 (k' := 104) (i' := 9) (E := [some (.int x1)]) (L' := [some (.ref 0), some (.int x1), some (.int x2), none, none]) (rest := []) (h1 := (hX C P vl kp Mo R)) (fun _ => rfl) ?_
      refine v_post (kt_104 hfz N P vl kp Mo R d (by omega) x1 C _ _ hc) ?_
      rintro rv h' ⟨rfl, rfl⟩
      refine v_blk 1 (i' := (bif (a_ic .ne r1 (0 : Int32)) then 12 else 10)) (L' := [some (.ref 0), some (.int x1), some (.int x2), none, none]) (st' := []) (h' := (hX C1 P vl kp Mo R)) (fun _ => rfl) ?_
      rcases Bool.eq_false_or_eq_true (a_ic .ne r1 (0 : Int32)) with hb | hb
      · have hf := a_bt hb hf
        refine v_it hb ?_
        refine v_blk 2 (i' := 14) (L' := [some (.ref 0), some (.int x1), some (.int x2), some (.int (0 : Int32)), none]) (st' := []) (h' := (hX C1 P vl kp Mo R)) (fun _ => rfl) ?_
        exact kt_92_14 hfz N P vl kp Mo R (d + 1) hd N x1 x2 (0 : Int32) C1 _ _ hf
      · have hf := a_be hb hf
        refine v_ie hb ?_
        obtain ⟨rfl, rfl⟩ := m_rt hf
        exact v_ret 2 (fun _ => rfl) ⟨rfl, rfl⟩
    · have hf := a_be hb hf
      refine v_ie hb ?_
      obtain ⟨rfl, rfl⟩ := m_rt hf
      exact v_ret 2 (fun _ => rfl) ⟨rfl, rfl⟩
set_option maxRecDepth 100000 in
set_option maxHeartbeats 4000000 in
theorem kt_93_37 {fz : Value} {sc : Nat × (Nat → Int32)} (hfz : fz = .null ∨ fz = .retAddr 60) (N : Nat) (P : Nat → Option Nat) (vl kp : Option Nat) (Mo : Nat → aC) (R : List aC) (d : Nat) (hd : 7 ≤ d) (rc12 : Int32 → Int64 → Int32 → mS → Option (Int64 × mS)) (hrc12 : ∀ (x1 : Int32) (x2 : Int64) (x4 : Int32) (C : mS) (r : Int64) (C' : mS), rc12 x1 x2 x4 C = some (r, C') → v_V fz sc d 93 12 [some (.ref 0), some (.int x1), some (.long x2), none, some (.int x4)] [] (hX C P vl kp Mo R) (fun rv h' => rv = some (.long r) ∧ h' = hX C' P vl kp Mo R)) (x1 : Int32) (x2 : Int64) (x4 : Int32) (C : mS) (r : Int64) (C' : mS) (hf : k_93_37 N P vl R rc12 x1 x2 x4 C = some (r, C')) : v_V fz sc d 93 37 [some (.ref 0), some (.int x1), some (.long x2), none, some (.int x4)] [] (hX C P vl kp Mo R) (fun rv h' => rv = some (.long r) ∧ h' = hX C' P vl kp Mo R) := by
  unfold k_93_37 at hf
  obtain ⟨d, rfl⟩ : ∃ z, d = z + 1 := ⟨d - 1, by omega⟩
  obtain ⟨r7, C7, hc, hf⟩ := m_bd_ok hf
  refine v_call 3 (k' := 19) (i' := 40) (E := [some (.ref 13), none, none, none, none]) (L' := [some (.ref 0), some (.int x1), some (.long x2), none, some (.int x4)]) (rest := []) (h1 := (hX C P vl kp Mo R)) (fun _ => rfl) ?_
  refine v_post (kt_19 hfz N P vl kp Mo R d (by omega)  C _ _ hc) ?_
  rintro rv h' ⟨rfl, rfl⟩
  refine v_blk 3 (i' := 12) (L' := [some (.ref 0), some (.int x1), some (.long x2), none, some (.int (x4 + (1 : Int32)))]) (st' := []) (h' := (hX C7 P vl kp Mo R)) (fun _ => rfl) ?_
  exact hrc12 x1 x2 (x4 + (1 : Int32)) C7 _ _ hf
set_option maxRecDepth 100000 in
set_option maxHeartbeats 4000000 in
theorem kt_93_12b {fz : Value} {sc : Nat × (Nat → Int32)} (hfz : fz = .null ∨ fz = .retAddr 60) (N : Nat) (P : Nat → Option Nat) (vl kp : Option Nat) (Mo : Nat → aC) (R : List aC) (d : Nat) (hd : 7 ≤ d) (rc12 : Int32 → Int64 → Int32 → mS → Option (Int64 × mS)) (hrc12 : ∀ (x1 : Int32) (x2 : Int64) (x4 : Int32) (C : mS) (r : Int64) (C' : mS), rc12 x1 x2 x4 C = some (r, C') → v_V fz sc d 93 12 [some (.ref 0), some (.int x1), some (.long x2), none, some (.int x4)] [] (hX C P vl kp Mo R) (fun rv h' => rv = some (.long r) ∧ h' = hX C' P vl kp Mo R)) (x1 : Int32) (x2 : Int64) (x4 : Int32) (C : mS) (r : Int64) (C' : mS) (hf : k_93_12b N P vl R rc12 x1 x2 x4 C = some (r, C')) : v_V fz sc d 93 12 [some (.ref 0), some (.int x1), some (.long x2), none, some (.int x4)] [] (hX C P vl kp Mo R) (fun rv h' => rv = some (.long r) ∧ h' = hX C' P vl kp Mo R) := by
  unfold k_93_12b at hf
  obtain ⟨d, rfl⟩ : ∃ z, d = z + 1 := ⟨d - 1, by omega⟩
  refine v_blk 3 (i' := (bif (a_ic .ge x4 x1) then 43 else 15)) (L' := [some (.ref 0), some (.int x1), some (.long x2), none, some (.int x4)]) (st' := []) (h' := (hX C P vl kp Mo R)) (fun _ => rfl) ?_
  rcases Bool.eq_false_or_eq_true (a_ic .ge x4 x1) with hb | hb
  · have hf := a_bt hb hf
    refine v_it hb ?_
    obtain ⟨rfl, rfl⟩ := m_rt hf
    exact v_ret 2 (fun _ => rfl) ⟨rfl, rfl⟩
  · have hf := a_be hb hf
    refine v_ie hb ?_
    obtain ⟨r3, C3, hc, hf⟩ := m_bd_ok hf
    refine v_call 3 (k' := 12) (i' := 18) (E := [some (.ref 13), none]) (L' := [some (.ref 0), some (.int x1), some (.long x2), none, some (.int x4)]) (rest := []) (h1 := (hX C P vl kp Mo R)) (fun _ => rfl) ?_
    refine v_post (kt_12 hfz N P vl kp Mo R d (by omega)  C _ _ hc) ?_
    rintro rv h' ⟨rfl, rfl⟩
    obtain ⟨r4, C4, hc, hf⟩ := m_bd_ok hf
    refine v_call 6 (k' := 30) (i' := 24) (E := [some (.ref 13), some (.int (C3 92 9))]) (L' := [some (.ref 0), some (.int x1), some (.long x2), none, some (.int x4)]) (rest := []) (h1 := (hX C3 P vl kp Mo R)) (fun _ => rfl) ?_
    refine v_post (kt_30 hfz N P vl kp Mo R d (by omega) (C3 92 9) C3 _ _ hc) ?_
    rintro rv h' ⟨rfl, rfl⟩
    obtain ⟨r5, C5, hc, hf⟩ := m_bd_ok hf
    refine v_call 5 (k' := 20) (i' := 29) (E := [some (.ref 13)]) (L' := [some (.ref 0), some (.int x1), some (.long x2), none, some (.int x4)]) (rest := [(.ref 13), (.int r4)]) (h1 := (hX C4 P vl kp Mo R)) (fun _ => rfl) ?_
    refine v_post (kt_20 hfz N P vl kp Mo R d (by omega)  C4 _ _ hc) ?_
    rintro rv h' ⟨rfl, rfl⟩
    obtain ⟨r6, C6, hc, hf⟩ := m_bd_ok hf
    refine v_call 1 (k' := 30) (i' := 30) (E := [some (.ref 13), some (.int r5)]) (L' := [some (.ref 0), some (.int x1), some (.long x2), none, some (.int x4)]) (rest := [(.int r4)]) (h1 := (hX C5 P vl kp Mo R)) (fun _ => rfl) ?_
    refine v_post (kt_30 hfz N P vl kp Mo R d (by omega) r5 C5 _ _ hc) ?_
    rintro rv h' ⟨rfl, rfl⟩
    refine v_blk 1 (i' := (bif (a_ic .ge r4 r6) then 37 else 31)) (L' := [some (.ref 0), some (.int x1), some (.long x2), none, some (.int x4)]) (st' := []) (h' := (hX C6 P vl kp Mo R)) (fun _ => rfl) ?_
    rcases Bool.eq_false_or_eq_true (a_ic .ge r4 r6) with hb | hb
    · have hf := a_bt hb hf
      refine v_it hb ?_
      exact kt_93_37 hfz N P vl kp Mo R (d + 1) hd rc12 hrc12 x1 x2 x4 C6 _ _ hf
    · have hf := a_be hb hf
      refine v_ie hb ?_
      refine v_blk 6 (i' := 37) (L' := [some (.ref 0), some (.int x1), some (.long (x2 ||| ((1 : Int64) <<< (Int32.toInt64 x4 &&& 63)))), none, some (.int x4)]) (st' := []) (h' := (hX C6 P vl kp Mo R)) (fun _ => rfl) ?_
      exact kt_93_37 hfz N P vl kp Mo R (d + 1) hd rc12 hrc12 x1 (x2 ||| ((1 : Int64) <<< (Int32.toInt64 x4 &&& 63))) x4 C6 _ _ hf
theorem kt_93_12 {fz : Value} {sc : Nat × (Nat → Int32)} (hfz : fz = .null ∨ fz = .retAddr 60) (N : Nat) (P : Nat → Option Nat) (vl kp : Option Nat) (Mo : Nat → aC) (R : List aC) (d : Nat) (hd : 7 ≤ d) : ∀ (n : Nat) (x1 : Int32) (x2 : Int64) (x4 : Int32) (C : mS) (r : Int64) (C' : mS) (hf : k_93_12 N P vl R n x1 x2 x4 C = some (r, C')), v_V fz sc d 93 12 [some (.ref 0), some (.int x1), some (.long x2), none, some (.int x4)] [] (hX C P vl kp Mo R) (fun rv h' => rv = some (.long r) ∧ h' = hX C' P vl kp Mo R) := by
  intro n
  induction n with
  | zero => intro x1 x2 x4 C r C' hf; cases hf
  | succ n ih =>
    intro x1 x2 x4 C r C' hf
    exact kt_93_12b hfz N P vl kp Mo R d hd (k_93_12 N P vl R n) ih x1 x2 x4 C r C' hf
set_option maxRecDepth 100000 in
set_option maxHeartbeats 4000000 in
theorem kt_93 {fz : Value} {sc : Nat × (Nat → Int32)} (hfz : fz = .null ∨ fz = .retAddr 60) (N : Nat) (P : Nat → Option Nat) (vl kp : Option Nat) (Mo : Nat → aC) (R : List aC) (d : Nat) (hd : 7 ≤ d) (x1 : Int32) (C : mS) (r : Int64) (C' : mS) (hf : k_93 N P vl R x1 C = some (r, C')) : v_V fz sc d 93 0 [some (.ref 0), some (.int x1), none, none, none] [] (hX C P vl kp Mo R) (fun rv h' => rv = some (.long r) ∧ h' = hX C' P vl kp Mo R) := by
  unfold k_93 at hf
  obtain ⟨d, rfl⟩ : ∃ z, d = z + 1 := ⟨d - 1, by omega⟩
  obtain ⟨r1, C1, hc, hf⟩ := m_bd_ok hf
  refine v_call 2 (k' := 104) (i' := 2) (E := [some (.int x1)]) (L' := [some (.ref 0), some (.int x1), none, none, none]) (rest := []) (h1 := (hX C P vl kp Mo R)) (fun _ => rfl) ?_
  refine v_post (kt_104 hfz N P vl kp Mo R d (by omega) x1 C _ _ hc) ?_
  rintro rv h' ⟨rfl, rfl⟩
  refine v_blk 1 (i' := (bif (a_ic .ne r1 (0 : Int32)) then 5 else 3)) (L' := [some (.ref 0), some (.int x1), none, none, none]) (st' := []) (h' := (hX C1 P vl kp Mo R)) (fun _ => rfl) ?_
  rcases Bool.eq_false_or_eq_true (a_ic .ne r1 (0 : Int32)) with hb | hb
  · have hf := a_bt hb hf
    refine v_it hb ?_
    obtain ⟨r2, C2, hc, hf⟩ := m_bd_ok hf
    refine v_call 5 (k' := 10) (i' := 10) (E := [some (.ref 13)]) (L' := [some (.ref 0), some (.int x1), some (.long (0 : Int64)), none, none]) (rest := []) (h1 := (hX C1 P vl kp Mo R)) (fun _ => rfl) ?_
    refine v_post (kt_10 hfz N P vl kp Mo R d (by omega)  C1 _ _ hc) ?_
    rintro rv h' ⟨rfl, rfl⟩
    refine v_blk 2 (i' := 12) (L' := [some (.ref 0), some (.int x1), some (.long (0 : Int64)), none, some (.int (0 : Int32))]) (st' := []) (h' := (hX C2 P vl kp Mo R)) (fun _ => rfl) ?_
    exact kt_93_12 hfz N P vl kp Mo R (d + 1) hd N x1 (0 : Int64) (0 : Int32) C2 _ _ hf
  · have hf := a_be hb hf
    refine v_ie hb ?_
    obtain ⟨rfl, rfl⟩ := m_rt hf
    exact v_ret 2 (fun _ => rfl) ⟨rfl, rfl⟩
set_option maxRecDepth 100000 in
set_option maxHeartbeats 4000000 in
theorem kt_105v8 {fz : Value} {sc : Nat × (Nat → Int32)} (hfz : fz = .null ∨ fz = .retAddr 60) (N : Nat) (P : Nat → Option Nat) (vl kp : Option Nat) (Mo : Nat → aC) (R : List aC) (d : Nat) (hd : 1 ≤ d) (x1 : Int32) (x2 : Int32) (C : mS) (r : Int32) (C' : mS) (hf : k_105v8 N P vl R x1 x2 C = some (r, C')) : v_V fz sc d 105 0 [some (.ref 8), some (.int x1), some (.int x2)] [] (hX C P vl kp Mo R) (fun rv h' => rv = some (.int r) ∧ h' = hX C' P vl kp Mo R) := by
  unfold k_105v8 at hf
  obtain ⟨d, rfl⟩ : ∃ z, d = z + 1 := ⟨d - 1, by omega⟩
  refine v_blk 3 (i' := (bif (a_ic .ne x2 (-1 : Int32)) then 5 else 3)) (L' := [some (.ref 8), some (.int x1), some (.int x2)]) (st' := []) (h' := (hX C P vl kp Mo R)) (fun _ => rfl) ?_
  rcases Bool.eq_false_or_eq_true (a_ic .ne x2 (-1 : Int32)) with hb | hb
  · have hf := a_bt hb hf
    refine v_it hb ?_
    obtain ⟨r1, C1, hc, hf⟩ := m_bd_ok hf
    refine v_call 2 (k' := 102) (i' := 7) (E := [some (.int x2)]) (L' := [some (.ref 8), some (.int x1), some (.int x2)]) (rest := []) (h1 := (hX C P vl kp Mo R)) (fun _ => rfl) ?_
    refine v_post (kt_102 hfz N P vl kp Mo R d (by omega) x2 C _ _ hc) ?_
    rintro rv h' ⟨rfl, rfl⟩
    refine v_blk 1 (i' := (bif (a_ic .ne r1 (0 : Int32)) then 10 else 8)) (L' := [some (.ref 8), some (.int x1), some (.int x2)]) (st' := []) (h' := (hX C1 P vl kp Mo R)) (fun _ => rfl) ?_
    rcases Bool.eq_false_or_eq_true (a_ic .ne r1 (0 : Int32)) with hb | hb
    · have hf := a_bt hb hf
      refine v_it hb ?_
      refine v_blk 2 (i' := (bif (a_ic .lt x1 (0 : Int32)) then 16 else 12)) (L' := [some (.ref 8), some (.int x1), some (.int x2)]) (st' := []) (h' := (hX C1 P vl kp Mo R)) (fun _ => rfl) ?_
      rcases Bool.eq_false_or_eq_true (a_ic .lt x1 (0 : Int32)) with hb | hb
      · have hf := a_bt hb hf
        refine v_it hb ?_
        obtain ⟨rfl, rfl⟩ := m_rt hf
        exact v_ret 2 (fun _ => rfl) ⟨rfl, rfl⟩
      · have hf := a_be hb hf
        refine v_ie hb ?_
        refine v_blk 4 (i' := (bif (a_ic .lt x1 (12 : Int32)) then 18 else 16)) (L' := [some (.ref 8), some (.int x1), some (.int x2)]) (st' := []) (h' := (hX C1 P vl kp Mo R)) (fun _ => rfl) ?_
        rcases Bool.eq_false_or_eq_true (a_ic .lt x1 (12 : Int32)) with hb | hb
        · have hf := a_bt hb hf
          refine v_it hb ?_
          obtain ⟨hg, hf⟩ := a_bif hf
          refine v_grd 4 (i' := 22) (L' := [some (.ref 8), some (.int x1), some (.int x2)]) (st' := []) (h' := (hX (va_up C1 5 (upd (C1 5) (x1).toNatClampNeg x2)) P vl kp Mo R)) (fun _ => rfl) hg ?_
          obtain ⟨C2, hA, hf⟩ := m_st_ok hf
          rw [hA]
          obtain ⟨rfl, rfl⟩ := m_rt hf
          exact v_ret 4 (fun _ => rfl) ⟨rfl, rfl⟩
        · have hf := a_be hb hf
          refine v_ie hb ?_
          obtain ⟨rfl, rfl⟩ := m_rt hf
          exact v_ret 2 (fun _ => rfl) ⟨rfl, rfl⟩
    · have hf := a_be hb hf
      refine v_ie hb ?_
      obtain ⟨rfl, rfl⟩ := m_rt hf
      exact v_ret 2 (fun _ => rfl) ⟨rfl, rfl⟩
  · have hf := a_be hb hf
    refine v_ie hb ?_
    obtain ⟨rfl, rfl⟩ := m_rt hf
    exact v_ret 2 (fun _ => rfl) ⟨rfl, rfl⟩
set_option maxRecDepth 100000 in
set_option maxHeartbeats 4000000 in
theorem kt_94 {fz : Value} {sc : Nat × (Nat → Int32)} (hfz : fz = .null ∨ fz = .retAddr 60) (N : Nat) (P : Nat → Option Nat) (vl kp : Option Nat) (Mo : Nat → aC) (R : List aC) (d : Nat) (hd : 2 ≤ d) (x1 : Int32) (C : mS) (r : Int32) (C' : mS) (hf : k_94 N P vl R x1 C = some (r, C')) : v_V fz sc d 94 0 [some (.ref 0), some (.int x1), none] [] (hX C P vl kp Mo R) (fun rv h' => rv = some (.int r) ∧ h' = hX C' P vl kp Mo R) := by
  unfold k_94 at hf
  obtain ⟨d, rfl⟩ : ∃ z, d = z + 1 := ⟨d - 1, by omega⟩
  obtain ⟨r1, C1, hc, hf⟩ := m_bd_ok hf
  refine v_call 8 (k' := 105) (i' := 8) (E := [some (.ref 8), some (.int (C 90 16)), some (.int x1)]) (L' := [some (.ref 0), some (.int x1), none]) (rest := []) (h1 := (hX C P vl kp Mo R)) (fun _ => rfl) ?_
  refine v_post (kt_105v8 hfz N P vl kp Mo R d (by omega) (C 90 16) x1 C _ _ hc) ?_
  rintro rv h' ⟨rfl, rfl⟩
  refine v_blk 3 (i' := (bif (a_ic .lt r1 (0 : Int32)) then 15 else 11)) (L' := [some (.ref 0), some (.int x1), some (.int r1)]) (st' := []) (h' := (hX C1 P vl kp Mo R)) (fun _ => rfl) ?_
  rcases Bool.eq_false_or_eq_true (a_ic .lt r1 (0 : Int32)) with hb | hb
  · have hf := a_bt hb hf
    refine v_it hb ?_
    obtain ⟨rfl, rfl⟩ := m_rt hf
    exact v_ret 2 (fun _ => rfl) ⟨rfl, rfl⟩
  · have hf := a_be hb hf
    refine v_ie hb ?_
    obtain ⟨rfl, rfl⟩ := m_rt hf
    exact v_ret 6 (fun _ => rfl) ⟨rfl, rfl⟩
set_option maxRecDepth 100000 in
set_option maxHeartbeats 4000000 in
theorem kt_95_5b {fz : Value} {sc : Nat × (Nat → Int32)} (hfz : fz = .null ∨ fz = .retAddr 60) (N : Nat) (P : Nat → Option Nat) (vl kp : Option Nat) (Mo : Nat → aC) (R : List aC) (d : Nat) (hd : 7 ≤ d) (rc5 : Int32 → mS → Option (Int32 × mS)) (hrc5 : ∀ (x1 : Int32) (C : mS) (r : Int32) (C' : mS), rc5 x1 C = some (r, C') → v_V fz sc d 95 5 [some (.ref 0), some (.int x1)] [] (hX C P vl kp Mo R) (fun rv h' => rv = some (.int r) ∧ h' = hX C' P vl kp Mo R)) (x1 : Int32) (C : mS) (r : Int32) (C' : mS) (hf : k_95_5b N P vl R rc5 x1 C = some (r, C')) : v_V fz sc d 95 5 [some (.ref 0), some (.int x1)] [] (hX C P vl kp Mo R) (fun rv h' => rv = some (.int r) ∧ h' = hX C' P vl kp Mo R) := by
  unfold k_95_5b at hf
  obtain ⟨d, rfl⟩ : ∃ z, d = z + 1 := ⟨d - 1, by omega⟩
  refine v_blk 5 (i' := (bif (a_ic .ge x1 (C 90 16)) then 30 else 10)) (L' := [some (.ref 0), some (.int x1)]) (st' := []) (h' := (hX C P vl kp Mo R)) (fun _ => rfl) ?_
  rcases Bool.eq_false_or_eq_true (a_ic .ge x1 (C 90 16)) with hb | hb
  · have hf := a_bt hb hf
    refine v_it hb ?_
    obtain ⟨rfl, rfl⟩ := m_rt hf
    exact v_ret 2 (fun _ => rfl) ⟨rfl, rfl⟩
  · have hf := a_be hb hf
    refine v_ie hb ?_
    obtain ⟨r2, C2, hc, hf⟩ := m_bd_ok hf
    refine v_call 3 (k' := 12) (i' := 13) (E := [some (.ref 13), none]) (L' := [some (.ref 0), some (.int x1)]) (rest := []) (h1 := (hX C P vl kp Mo R)) (fun _ => rfl) ?_
    refine v_post (kt_12 hfz N P vl kp Mo R d (by omega)  C _ _ hc) ?_
    rintro rv h' ⟨rfl, rfl⟩
    obtain ⟨hg, hf⟩ := a_bif hf
    refine v_grd 8 (i' := 21) (L' := [some (.ref 0), some (.int x1)]) (st' := [(.int ((C2 5) (x1).toNatClampNeg)), (.int (C2 92 9))]) (h' := (hX C2 P vl kp Mo R)) (fun _ => rfl) hg ?_
    obtain ⟨y3, hy, hf⟩ := m_li_ok hf
    rw [hy]
    refine v_blk 1 (i' := (bif (a_ic .eq (C2 92 9) y3) then 24 else 22)) (L' := [some (.ref 0), some (.int x1)]) (st' := []) (h' := (hX C2 P vl kp Mo R)) (fun _ => rfl) ?_
    rcases Bool.eq_false_or_eq_true (a_ic .eq (C2 92 9) y3) with hb | hb
    · have hf := a_bt hb hf
      refine v_it hb ?_
      obtain ⟨r4, C4, hc, hf⟩ := m_bd_ok hf
      refine v_call 3 (k' := 19) (i' := 27) (E := [some (.ref 13), none, none, none, none]) (L' := [some (.ref 0), some (.int x1)]) (rest := []) (h1 := (hX C2 P vl kp Mo R)) (fun _ => rfl) ?_
      refine v_post (kt_19 hfz N P vl kp Mo R d (by omega)  C2 _ _ hc) ?_
      rintro rv h' ⟨rfl, rfl⟩
      refine v_blk 3 (i' := 5) (L' := [some (.ref 0), some (.int (x1 + (1 : Int32)))]) (st' := []) (h' := (hX C4 P vl kp Mo R)) (fun _ => rfl) ?_
      exact hrc5 (x1 + (1 : Int32)) C4 _ _ hf
    · have hf := a_be hb hf
      refine v_ie hb ?_
      obtain ⟨rfl, rfl⟩ := m_rt hf
      exact v_ret 2 (fun _ => rfl) ⟨rfl, rfl⟩
theorem kt_95_5 {fz : Value} {sc : Nat × (Nat → Int32)} (hfz : fz = .null ∨ fz = .retAddr 60) (N : Nat) (P : Nat → Option Nat) (vl kp : Option Nat) (Mo : Nat → aC) (R : List aC) (d : Nat) (hd : 7 ≤ d) : ∀ (n : Nat) (x1 : Int32) (C : mS) (r : Int32) (C' : mS) (hf : k_95_5 N P vl R n x1 C = some (r, C')), v_V fz sc d 95 5 [some (.ref 0), some (.int x1)] [] (hX C P vl kp Mo R) (fun rv h' => rv = some (.int r) ∧ h' = hX C' P vl kp Mo R) := by
  intro n
  induction n with
  | zero => intro x1 C r C' hf; cases hf
  | succ n ih =>
    intro x1 C r C' hf
    exact kt_95_5b hfz N P vl kp Mo R d hd (k_95_5 N P vl R n) ih x1 C r C' hf
set_option maxRecDepth 100000 in
set_option maxHeartbeats 4000000 in
theorem kt_95 {fz : Value} {sc : Nat × (Nat → Int32)} (hfz : fz = .null ∨ fz = .retAddr 60) (N : Nat) (P : Nat → Option Nat) (vl kp : Option Nat) (Mo : Nat → aC) (R : List aC) (d : Nat) (hd : 7 ≤ d) (C : mS) (r : Int32) (C' : mS) (hf : k_95 N P vl R  C = some (r, C')) : v_V fz sc d 95 0 [some (.ref 0), none] [] (hX C P vl kp Mo R) (fun rv h' => rv = some (.int r) ∧ h' = hX C' P vl kp Mo R) := by
  unfold k_95 at hf
  obtain ⟨d, rfl⟩ : ∃ z, d = z + 1 := ⟨d - 1, by omega⟩
  obtain ⟨r1, C1, hc, hf⟩ := m_bd_ok hf
  refine v_call 3 (k' := 10) (i' := 3) (E := [some (.ref 13)]) (L' := [some (.ref 0), none]) (rest := []) (h1 := (hX C P vl kp Mo R)) (fun _ => rfl) ?_
  refine v_post (kt_10 hfz N P vl kp Mo R d (by omega)  C _ _ hc) ?_
  rintro rv h' ⟨rfl, rfl⟩
  refine v_blk 2 (i' := 5) (L' := [some (.ref 0), some (.int (0 : Int32))]) (st' := []) (h' := (hX C1 P vl kp Mo R)) (fun _ => rfl) ?_
  exact kt_95_5 hfz N P vl kp Mo R (d + 1) hd N (0 : Int32) C1 _ _ hf
set_option maxRecDepth 100000 in
set_option maxHeartbeats 4000000 in
theorem kt_96 {fz : Value} {sc : Nat × (Nat → Int32)} (hfz : fz = .null ∨ fz = .retAddr 60) (N : Nat) (P : Nat → Option Nat) (vl kp : Option Nat) (Mo : Nat → aC) (R : List aC) (d : Nat) (hd : 8 ≤ d) (x1 : Int32) (x2 : Int32) (x3 : Int32) (C : mS) (r : Int32) (C' : mS) (hf : k_96 N P vl R x1 x2 x3 C = some (r, C')) : v_V fz sc d 96 0 [some (.ref 0), some (.int x1), some (.int x2), some (.int x3), none] [] (hX C P vl kp Mo R) (fun rv h' => rv = some (.int r) ∧ h' = hX C' P vl kp Mo R) := by
  unfold k_96 at hf
  obtain ⟨d, rfl⟩ : ∃ z, d = z + 1 := ⟨d - 1, by omega⟩
  obtain ⟨r1, C1, hc, hf⟩ := m_bd_ok hf
  refine v_call 9 (k' := 70) (i' := 9) (E := [some (.ref 1), some (.int x1)]) (L' := [some (.ref 0), some (.int x1), some (.int x2), some (.int x3), none]) (rest := []) (h1 := (hX (va_up C 13 (upd (C 13) 0 (0 : Int32))) P vl kp Mo R)) (fun _ => rfl) ?_
  refine v_post (kt_70 hfz N P vl kp Mo R d (by omega) x1 (va_up C 13 (upd (C 13) 0 (0 : Int32))) _ _ hc) ?_
  rintro rv h' ⟨rfl, rfl⟩
  rcases m_op_ok hf with ⟨ho2, hf⟩ | ⟨a2, ho2, hf⟩
  · refine v_on ho2 ?_
    obtain ⟨rfl, rfl⟩ := m_rt hf
    exact v_ret 5 (fun _ => rfl) ⟨rfl, rfl⟩
  · refine v_os ho2 ?_
    refine v_blk 5 (i' := (a_tsw 0 2 34 [16, 22, 28] x2)) (L' := [some (.ref 0), some (.int x1), some (.int x2), some (.int x3), some (.ref a2)]) (st' := []) (h' := (hX C1 P vl kp Mo R)) (fun _ => rfl) ?_
    by_cases hb : (a_tsw 0 2 34 [16, 22, 28] x2) = 16
    · rw [if_pos hb] at hf
      rw [hb]
      obtain ⟨ci4, ka4, nu4, va4, ho_a2, hf⟩ := m_ob_ok hf
      obtain ⟨r3, C3, hc, hf⟩ := m_bd_ok hf
      refine v_blk 4 (i' := 20) (L' := [some (.ref 0), some (.int x1), some (.int x2), some (.int x3), some (.ref a2)]) (st' := [(.ref 18), (.int x3), (.ref a2)]) (h' := (hX C1 P vl kp Mo R)) (fun _ => rfl) ?_
      by_cases hb : ci4 = 0
      · rw [if_pos hb] at hc
        refine v_vc (E := [some (.ref a2), some (.int x3), some (.ref 18)]) (rest := []) rfl rfl rfl (bdr_ok ho_a2) (by rw [hb]; rfl) rfl rfl rfl ?_
        refine v_post (kt_5 hfz N P vl kp Mo R d (by omega) a2 x3 C1 _ _ hc) ?_
        rintro rv h' ⟨rfl, rfl⟩
        obtain ⟨rfl, rfl⟩ := m_rt hf
        exact v_ret 1 (fun _ => rfl) ⟨rfl, rfl⟩
      rw [if_neg hb] at hc
      by_cases hb : ci4 = 1
      · rw [if_pos hb] at hc
        refine v_vc (E := [some (.ref a2), some (.int x3), some (.ref 18)]) (rest := []) rfl rfl rfl (bdr_ok ho_a2) (by rw [hb]; rfl) rfl rfl rfl ?_
        refine v_post (kt_5 hfz N P vl kp Mo R d (by omega) a2 x3 C1 _ _ hc) ?_
        rintro rv h' ⟨rfl, rfl⟩
        obtain ⟨rfl, rfl⟩ := m_rt hf
        exact v_ret 1 (fun _ => rfl) ⟨rfl, rfl⟩
      rw [if_neg hb] at hc
      by_cases hb : ci4 = 3
      · rw [if_pos hb] at hc
        refine v_vc (E := [some (.ref a2), some (.int x3), some (.ref 18)]) (rest := []) rfl rfl rfl (bdr_ok ho_a2) (by rw [hb]; rfl) rfl rfl rfl ?_
        refine v_post (kt_5 hfz N P vl kp Mo R d (by omega) a2 x3 C1 _ _ hc) ?_
        rintro rv h' ⟨rfl, rfl⟩
        obtain ⟨rfl, rfl⟩ := m_rt hf
        exact v_ret 1 (fun _ => rfl) ⟨rfl, rfl⟩
      rw [if_neg hb] at hc
      by_cases hb : ci4 = 4
      · rw [if_pos hb] at hc
        refine v_vc (E := [some (.ref a2), some (.int x3), some (.ref 18)]) (rest := []) rfl rfl rfl (bdr_ok ho_a2) (by rw [hb]; rfl) rfl rfl rfl ?_
        refine v_post (kt_38 hfz N P vl kp Mo R d (by omega) a2 x3 C1 _ _ hc) ?_
        rintro rv h' ⟨rfl, rfl⟩
        obtain ⟨rfl, rfl⟩ := m_rt hf
        exact v_ret 1 (fun _ => rfl) ⟨rfl, rfl⟩
      rw [if_neg hb] at hc
      by_cases hb : ci4 = 6
      · rw [if_pos hb] at hc
        refine v_vc (E := [some (.ref a2), some (.int x3), some (.ref 18)]) (rest := []) rfl rfl rfl (bdr_ok ho_a2) (by rw [hb]; rfl) rfl rfl rfl ?_
        refine v_post (kt_38 hfz N P vl kp Mo R d (by omega) a2 x3 C1 _ _ hc) ?_
        rintro rv h' ⟨rfl, rfl⟩
        obtain ⟨rfl, rfl⟩ := m_rt hf
        exact v_ret 1 (fun _ => rfl) ⟨rfl, rfl⟩
      rw [if_neg hb] at hc
      by_cases hb : ci4 = 7
      · rw [if_pos hb] at hc
        refine v_vc (E := [some (.ref a2), some (.int x3), some (.ref 18)]) (rest := []) rfl rfl rfl (bdr_ok ho_a2) (by rw [hb]; rfl) rfl rfl rfl ?_
        refine v_post (kt_60 hfz N P vl kp Mo R d (by omega) a2 x3 C1 _ _ hc) ?_
        rintro rv h' ⟨rfl, rfl⟩
        obtain ⟨rfl, rfl⟩ := m_rt hf
        exact v_ret 1 (fun _ => rfl) ⟨rfl, rfl⟩
      rw [if_neg hb] at hc
      by_cases hb : ci4 = 8
      · rw [if_pos hb] at hc
        refine v_vc (E := [some (.ref a2), some (.int x3), some (.ref 18)]) (rest := []) rfl rfl rfl (bdr_ok ho_a2) (by rw [hb]; rfl) rfl rfl rfl ?_
        refine v_post (kt_5 hfz N P vl kp Mo R d (by omega) a2 x3 C1 _ _ hc) ?_
        rintro rv h' ⟨rfl, rfl⟩
        obtain ⟨rfl, rfl⟩ := m_rt hf
        exact v_ret 1 (fun _ => rfl) ⟨rfl, rfl⟩
      rw [if_neg hb] at hc
      cases hc
    rw [if_neg hb] at hf
    by_cases hb : (a_tsw 0 2 34 [16, 22, 28] x2) = 22
    · rw [if_pos hb] at hf
      rw [hb]
      obtain ⟨ci6, ka6, nu6, va6, ho_a2, hf⟩ := m_ob_ok hf
      obtain ⟨r5, C5, hc, hf⟩ := m_bd_ok hf
      refine v_blk 4 (i' := 26) (L' := [some (.ref 0), some (.int x1), some (.int x2), some (.int x3), some (.ref a2)]) (st' := [(.ref 18), (.int x3), (.ref a2)]) (h' := (hX C1 P vl kp Mo R)) (fun _ => rfl) ?_
      by_cases hb : ci6 = 0
      · rw [if_pos hb] at hc
        refine v_vc (E := [some (.ref a2), some (.int x3), some (.ref 18)]) (rest := []) rfl rfl rfl (bdr_ok ho_a2) (by rw [hb]; rfl) rfl rfl rfl ?_
        refine v_post (kt_6 hfz N P vl kp Mo R d (by omega) a2 x3 C1 _ _ hc) ?_
        rintro rv h' ⟨rfl, rfl⟩
        obtain ⟨rfl, rfl⟩ := m_rt hf
        exact v_ret 1 (fun _ => rfl) ⟨rfl, rfl⟩
      rw [if_neg hb] at hc
      by_cases hb : ci6 = 1
      · rw [if_pos hb] at hc
        refine v_vc (E := [some (.ref a2), some (.int x3), some (.ref 18)]) (rest := []) rfl rfl rfl (bdr_ok ho_a2) (by rw [hb]; rfl) rfl rfl rfl ?_
        refine v_post (kt_6 hfz N P vl kp Mo R d (by omega) a2 x3 C1 _ _ hc) ?_
        rintro rv h' ⟨rfl, rfl⟩
        obtain ⟨rfl, rfl⟩ := m_rt hf
        exact v_ret 1 (fun _ => rfl) ⟨rfl, rfl⟩
      rw [if_neg hb] at hc
      by_cases hb : ci6 = 3
      · rw [if_pos hb] at hc
        refine v_vc (E := [some (.ref a2), some (.int x3), some (.ref 18)]) (rest := []) rfl rfl rfl (bdr_ok ho_a2) (by rw [hb]; rfl) rfl rfl rfl ?_
        refine v_post (kt_35 hfz N P vl kp Mo R d (by omega) a2 x3 C1 _ _ hc) ?_
        rintro rv h' ⟨rfl, rfl⟩
        obtain ⟨rfl, rfl⟩ := m_rt hf
        exact v_ret 1 (fun _ => rfl) ⟨rfl, rfl⟩
      rw [if_neg hb] at hc
      by_cases hb : ci6 = 4
      · rw [if_pos hb] at hc
        refine v_vc (E := [some (.ref a2), some (.int x3), some (.ref 18)]) (rest := []) rfl rfl rfl (bdr_ok ho_a2) (by rw [hb]; rfl) rfl rfl rfl ?_
        refine v_post (kt_6 hfz N P vl kp Mo R d (by omega) a2 x3 C1 _ _ hc) ?_
        rintro rv h' ⟨rfl, rfl⟩
        obtain ⟨rfl, rfl⟩ := m_rt hf
        exact v_ret 1 (fun _ => rfl) ⟨rfl, rfl⟩
      rw [if_neg hb] at hc
      by_cases hb : ci6 = 6
      · rw [if_pos hb] at hc
        refine v_vc (E := [some (.ref a2), some (.int x3), some (.ref 18)]) (rest := []) rfl rfl rfl (bdr_ok ho_a2) (by rw [hb]; rfl) rfl rfl rfl ?_
        refine v_post (kt_6 hfz N P vl kp Mo R d (by omega) a2 x3 C1 _ _ hc) ?_
        rintro rv h' ⟨rfl, rfl⟩
        obtain ⟨rfl, rfl⟩ := m_rt hf
        exact v_ret 1 (fun _ => rfl) ⟨rfl, rfl⟩
      rw [if_neg hb] at hc
      by_cases hb : ci6 = 7
      · rw [if_pos hb] at hc
        refine v_vc (E := [some (.ref a2), some (.int x3), some (.ref 18)]) (rest := []) rfl rfl rfl (bdr_ok ho_a2) (by rw [hb]; rfl) rfl rfl rfl ?_
        refine v_post (kt_35 hfz N P vl kp Mo R d (by omega) a2 x3 C1 _ _ hc) ?_
        rintro rv h' ⟨rfl, rfl⟩
        obtain ⟨rfl, rfl⟩ := m_rt hf
        exact v_ret 1 (fun _ => rfl) ⟨rfl, rfl⟩
      rw [if_neg hb] at hc
      by_cases hb : ci6 = 8
      · rw [if_pos hb] at hc
        refine v_vc (E := [some (.ref a2), some (.int x3), some (.ref 18)]) (rest := []) rfl rfl rfl (bdr_ok ho_a2) (by rw [hb]; rfl) rfl rfl rfl ?_
        refine v_post (kt_63 hfz N P vl kp Mo R d (by omega) a2 x3 C1 _ _ hc) ?_
        rintro rv h' ⟨rfl, rfl⟩
        obtain ⟨rfl, rfl⟩ := m_rt hf
        exact v_ret 1 (fun _ => rfl) ⟨rfl, rfl⟩
      rw [if_neg hb] at hc
      cases hc
    rw [if_neg hb] at hf
    by_cases hb : (a_tsw 0 2 34 [16, 22, 28] x2) = 28
    · rw [if_pos hb] at hf
      rw [hb]
      obtain ⟨ci8, ka8, nu8, va8, ho_a2, hf⟩ := m_ob_ok hf
      obtain ⟨r7, C7, hc, hf⟩ := m_bd_ok hf
      refine v_blk 4 (i' := 32) (L' := [some (.ref 0), some (.int x1), some (.int x2), some (.int x3), some (.ref a2)]) (st' := [(.ref 18), (.int x3), (.ref a2)]) (h' := (hX C1 P vl kp Mo R)) (fun _ => rfl) ?_
      by_cases hb : ci8 = 0
      · rw [if_pos hb] at hc
        refine v_vc (E := [some (.ref a2), some (.int x3), some (.ref 18)]) (rest := []) rfl rfl rfl (bdr_ok ho_a2) (by rw [hb]; rfl) rfl rfl rfl ?_
        refine v_post (kt_2 hfz N P vl kp Mo R d (by omega) a2 x3 C1 _ _ hc) ?_
        rintro rv h' ⟨rfl, rfl⟩
        obtain ⟨rfl, rfl⟩ := m_rt hf
        exact v_ret 1 (fun _ => rfl) ⟨rfl, rfl⟩
      rw [if_neg hb] at hc
      by_cases hb : ci8 = 1
      · rw [if_pos hb] at hc
        refine v_vc (E := [some (.ref a2), some (.int x3), some (.ref 18)]) (rest := []) rfl rfl rfl (bdr_ok ho_a2) (by rw [hb]; rfl) rfl rfl rfl ?_
        refine v_post (kt_7 hfz N P vl kp Mo R d (by omega) a2 x3 C1 _ _ hc) ?_
        rintro rv h' ⟨rfl, rfl⟩
        obtain ⟨rfl, rfl⟩ := m_rt hf
        exact v_ret 1 (fun _ => rfl) ⟨rfl, rfl⟩
      rw [if_neg hb] at hc
      by_cases hb : ci8 = 3
      · rw [if_pos hb] at hc
        refine v_vc (E := [some (.ref a2), some (.int x3), some (.ref 18)]) (rest := []) rfl rfl rfl (bdr_ok ho_a2) (by rw [hb]; rfl) rfl rfl rfl ?_
        refine v_post (kt_7 hfz N P vl kp Mo R d (by omega) a2 x3 C1 _ _ hc) ?_
        rintro rv h' ⟨rfl, rfl⟩
        obtain ⟨rfl, rfl⟩ := m_rt hf
        exact v_ret 1 (fun _ => rfl) ⟨rfl, rfl⟩
      rw [if_neg hb] at hc
      by_cases hb : ci8 = 4
      · rw [if_pos hb] at hc
        refine v_vc (E := [some (.ref a2), some (.int x3), some (.ref 18)]) (rest := []) rfl rfl rfl (bdr_ok ho_a2) (by rw [hb]; rfl) rfl rfl rfl ?_
        refine v_post (kt_7 hfz N P vl kp Mo R d (by omega) a2 x3 C1 _ _ hc) ?_
        rintro rv h' ⟨rfl, rfl⟩
        obtain ⟨rfl, rfl⟩ := m_rt hf
        exact v_ret 1 (fun _ => rfl) ⟨rfl, rfl⟩
      rw [if_neg hb] at hc
      by_cases hb : ci8 = 6
      · rw [if_pos hb] at hc
        refine v_vc (E := [some (.ref a2), some (.int x3), some (.ref 18), none]) (rest := []) rfl rfl rfl (bdr_ok ho_a2) (by rw [hb]; rfl) rfl rfl rfl ?_
        refine v_post (kt_57 hfz N P vl kp Mo R d (by omega) a2 x3 C1 _ _ hc) ?_
        rintro rv h' ⟨rfl, rfl⟩
        obtain ⟨rfl, rfl⟩ := m_rt hf
        exact v_ret 1 (fun _ => rfl) ⟨rfl, rfl⟩
      rw [if_neg hb] at hc
      by_cases hb : ci8 = 7
      · rw [if_pos hb] at hc
        refine v_vc (E := [some (.ref a2), some (.int x3), some (.ref 18)]) (rest := []) rfl rfl rfl (bdr_ok ho_a2) (by rw [hb]; rfl) rfl rfl rfl ?_
        refine v_post (kt_7 hfz N P vl kp Mo R d (by omega) a2 x3 C1 _ _ hc) ?_
        rintro rv h' ⟨rfl, rfl⟩
        obtain ⟨rfl, rfl⟩ := m_rt hf
        exact v_ret 1 (fun _ => rfl) ⟨rfl, rfl⟩
      rw [if_neg hb] at hc
      by_cases hb : ci8 = 8
      · rw [if_pos hb] at hc
        refine v_vc (E := [some (.ref a2), some (.int x3), some (.ref 18)]) (rest := []) rfl rfl rfl (bdr_ok ho_a2) (by rw [hb]; rfl) rfl rfl rfl ?_
        refine v_post (kt_7 hfz N P vl kp Mo R d (by omega) a2 x3 C1 _ _ hc) ?_
        rintro rv h' ⟨rfl, rfl⟩
        obtain ⟨rfl, rfl⟩ := m_rt hf
        exact v_ret 1 (fun _ => rfl) ⟨rfl, rfl⟩
      rw [if_neg hb] at hc
      cases hc
    rw [if_neg hb] at hf
    by_cases hb : (a_tsw 0 2 34 [16, 22, 28] x2) = 34
    · rw [if_pos hb] at hf
      rw [hb]
      obtain ⟨rfl, rfl⟩ := m_rt hf
      exact v_ret 2 (fun _ => rfl) ⟨rfl, rfl⟩
    rw [if_neg hb] at hf
    cases hf
