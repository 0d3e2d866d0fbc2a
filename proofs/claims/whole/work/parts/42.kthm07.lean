/-! 42.kthm, piece 7: runs of the class's methods are their mirrored functions (by program) -/
set_option maxRecDepth 100000 in
set_option maxHeartbeats 4000000 in
theorem kt_97 {fz : Value} {sc : Nat × (Nat → Int32)} (hfz : fz = .null ∨ fz = .retAddr 60) (N : Nat) (P : Nat → Option Nat) (vl kp : Option Nat) (Mo : Nat → aC) (R : List aC) (d : Nat) (hd : 0 ≤ d) (x1 : Int32) (C : mS) (r : Int32) (C' : mS) (hf : k_97 N P vl R x1 C = some (r, C')) : v_V fz sc d 97 0 [some (.ref 0), some (.int x1)] [] (hX C P vl kp Mo R) (fun rv h' => rv = some (.int r) ∧ h' = hX C' P vl kp Mo R) := by
  unfold k_97 at hf
  refine v_blk 2 (i' := (bif (a_ic .lt x1 (0 : Int32)) then 10 else 2)) (L' := [some (.ref 0), some (.int x1)]) (st' := []) (h' := (hX C P vl kp Mo R)) (fun _ => rfl) ?_
  rcases Bool.eq_false_or_eq_true (a_ic .lt x1 (0 : Int32)) with hb | hb
  · have hf := a_bt hb hf
    refine v_it hb ?_
    obtain ⟨rfl, rfl⟩ := m_rt hf
    exact v_ret 2 (fun _ => rfl) ⟨rfl, rfl⟩
  · have hf := a_be hb hf
    refine v_ie hb ?_
    refine v_blk 7 (i' := 9) (L' := [some (.ref 0), some (.int x1)]) (st' := [(.int (if (20 : Int32) < ((C 13) 0) then (20 : Int32) else ((C 13) 0))), (.int x1)]) (h' := (hX C P vl kp Mo R)) (fun _ => rfl) ?_
    obtain ⟨y1, hy, hf⟩ := m_li_ok hf
    rw [hy]
    refine v_blk 1 (i' := (bif (a_ic .lt x1 y1) then 12 else 10)) (L' := [some (.ref 0), some (.int x1)]) (st' := []) (h' := (hX C P vl kp Mo R)) (fun _ => rfl) ?_
    rcases Bool.eq_false_or_eq_true (a_ic .lt x1 y1) with hb | hb
    · have hf := a_bt hb hf
      refine v_it hb ?_
      obtain ⟨hg, hf⟩ := a_bif hf
      refine v_grd 6 (i' := 18) (L' := [some (.ref 0), some (.int x1)]) (st' := [(.int ((C 13) (((1 : Int32) + x1)).toNatClampNeg))]) (h' := (hX C P vl kp Mo R)) (fun _ => rfl) hg ?_
      obtain ⟨y2, hy, hf⟩ := m_li_ok hf
      rw [hy]
      obtain ⟨rfl, rfl⟩ := m_rt hf
      exact v_ret 1 (fun _ => rfl) ⟨rfl, rfl⟩
    · have hf := a_be hb hf
      refine v_ie hb ?_
      obtain ⟨rfl, rfl⟩ := m_rt hf
      exact v_ret 2 (fun _ => rfl) ⟨rfl, rfl⟩
set_option maxRecDepth 100000 in
set_option maxHeartbeats 4000000 in
theorem kt_103 {fz : Value} {sc : Nat × (Nat → Int32)} (hfz : fz = .null ∨ fz = .retAddr 60) (N : Nat) (P : Nat → Option Nat) (vl kp : Option Nat) (Mo : Nat → aC) (R : List aC) (d : Nat) (hd : 0 ≤ d) (x0 : Int32) (C : mS) (r : Int32) (C' : mS) (hf : k_103 N P vl R x0 C = some (r, C')) : v_V fz sc d 103 0 [some (.int x0)] [] (hX C P vl kp Mo R) (fun rv h' => rv = some (.int r) ∧ h' = hX C' P vl kp Mo R) := by
  unfold k_103 at hf
  refine v_blk 2 (i' := (bif (a_ic .lt x0 (0 : Int32)) then 7 else 2)) (L' := [some (.int x0)]) (st' := []) (h' := (hX C P vl kp Mo R)) (fun _ => rfl) ?_
  rcases Bool.eq_false_or_eq_true (a_ic .lt x0 (0 : Int32)) with hb | hb
  · have hf := a_bt hb hf
    refine v_it hb ?_
    obtain ⟨rfl, rfl⟩ := m_rt hf
    exact v_ret 2 (fun _ => rfl) ⟨rfl, rfl⟩
  · have hf := a_be hb hf
    refine v_ie hb ?_
    refine v_blk 3 (i' := (bif (a_ic .ge x0 (7 : Int32)) then 7 else 5)) (L' := [some (.int x0)]) (st' := []) (h' := (hX C P vl kp Mo R)) (fun _ => rfl) ?_
    rcases Bool.eq_false_or_eq_true (a_ic .ge x0 (7 : Int32)) with hb | hb
    · have hf := a_bt hb hf
      refine v_it hb ?_
      obtain ⟨rfl, rfl⟩ := m_rt hf
      exact v_ret 2 (fun _ => rfl) ⟨rfl, rfl⟩
    · have hf := a_be hb hf
      refine v_ie hb ?_
      obtain ⟨rfl, rfl⟩ := m_rt hf
      exact v_ret 3 (fun _ => rfl) ⟨rfl, rfl⟩
set_option maxRecDepth 100000 in
set_option maxHeartbeats 4000000 in
theorem kt_107 {fz : Value} {sc : Nat × (Nat → Int32)} (hfz : fz = .null ∨ fz = .retAddr 60) (N : Nat) (P : Nat → Option Nat) (vl kp : Option Nat) (Mo : Nat → aC) (R : List aC) (d : Nat) (hd : 0 ≤ d) (x0 : Option Nat) (x1 : Int32) (C : mS) (r : Int32) (C' : mS) (hf : k_107 N P vl R x0 x1 C = some (r, C')) : v_V fz sc d 107 0 [some (va_rf x0), some (.int x1)] [] (hX C P vl kp Mo R) (fun rv h' => rv = some (.int r) ∧ h' = hX C' P vl kp Mo R) := by
  unfold k_107 at hf
  have hf0 := m_op_ok hf
  clear hf
  rcases hf0 with ⟨rfl, hf⟩ | ⟨a0, rfl, hf⟩
  · skip
    refine v_blk 2 (i' := (a_tsw 0 5 19 [2, 4, 7, 10, 13, 16] x1)) (L' := [some (.null), some (.int x1)]) (st' := []) (h' := (hX C P vl kp Mo R)) (fun _ => rfl) ?_
    by_cases hb : (a_tsw 0 5 19 [2, 4, 7, 10, 13, 16] x1) = 2
    · rw [if_pos hb] at hf
      rw [hb]
      obtain ⟨rfl, rfl⟩ := m_rt hf
      exact v_ret 2 (fun _ => rfl) ⟨rfl, rfl⟩
    rw [if_neg hb] at hf
    by_cases hb : (a_tsw 0 5 19 [2, 4, 7, 10, 13, 16] x1) = 4
    · rw [if_pos hb] at hf
      rw [hb]
      obtain ⟨rfl, rfl⟩ := m_rt hf
      exact v_ret 3 (fun _ => rfl) ⟨rfl, rfl⟩
    rw [if_neg hb] at hf
    by_cases hb : (a_tsw 0 5 19 [2, 4, 7, 10, 13, 16] x1) = 7
    · rw [if_pos hb] at hf
      rw [hb]
      obtain ⟨rfl, rfl⟩ := m_rt hf
      exact v_ret 3 (fun _ => rfl) ⟨rfl, rfl⟩
    rw [if_neg hb] at hf
    by_cases hb : (a_tsw 0 5 19 [2, 4, 7, 10, 13, 16] x1) = 10
    · rw [if_pos hb] at hf
      rw [hb]
      obtain ⟨rfl, rfl⟩ := m_rt hf
      exact v_ret 3 (fun _ => rfl) ⟨rfl, rfl⟩
    rw [if_neg hb] at hf
    by_cases hb : (a_tsw 0 5 19 [2, 4, 7, 10, 13, 16] x1) = 13
    · rw [if_pos hb] at hf
      rw [hb]
      obtain ⟨rfl, rfl⟩ := m_rt hf
      exact v_ret 3 (fun _ => rfl) ⟨rfl, rfl⟩
    rw [if_neg hb] at hf
    by_cases hb : (a_tsw 0 5 19 [2, 4, 7, 10, 13, 16] x1) = 16
    · rw [if_pos hb] at hf
      rw [hb]
      obtain ⟨rfl, rfl⟩ := m_rt hf
      exact v_ret 3 (fun _ => rfl) ⟨rfl, rfl⟩
    rw [if_neg hb] at hf
    by_cases hb : (a_tsw 0 5 19 [2, 4, 7, 10, 13, 16] x1) = 19
    · rw [if_pos hb] at hf
      rw [hb]
      obtain ⟨rfl, rfl⟩ := m_rt hf
      exact v_ret 3 (fun _ => rfl) ⟨rfl, rfl⟩
    rw [if_neg hb] at hf
    cases hf
  · skip
    refine v_blk 2 (i' := (a_tsw 0 5 19 [2, 4, 7, 10, 13, 16] x1)) (L' := [some (.ref a0), some (.int x1)]) (st' := []) (h' := (hX C P vl kp Mo R)) (fun _ => rfl) ?_
    by_cases hb : (a_tsw 0 5 19 [2, 4, 7, 10, 13, 16] x1) = 2
    · rw [if_pos hb] at hf
      rw [hb]
      obtain ⟨rfl, rfl⟩ := m_rt hf
      exact v_ret 2 (fun _ => rfl) ⟨rfl, rfl⟩
    rw [if_neg hb] at hf
    by_cases hb : (a_tsw 0 5 19 [2, 4, 7, 10, 13, 16] x1) = 4
    · rw [if_pos hb] at hf
      rw [hb]
      obtain ⟨ci1, ka1, nu1, va1, ho_a0, hf⟩ := m_ob_ok hf
      refine v_blk 1 (i' := 5) (L' := [some (.ref a0), some (.int x1)]) (st' := [(.ref a0)]) (h' := (hX C P vl kp Mo R)) (fun _ => rfl) ?_
      obtain ⟨hg, hf⟩ := a_bif hf
      refine v_io rfl rfl rfl (bdr_ok ho_a0) hg ?_
      obtain ⟨y2, hy, hf⟩ := m_li_ok hf
      rw [hy]
      obtain ⟨hg, hf⟩ := a_bif hf
      obtain ⟨rfl, rfl⟩ := m_rt hf
      exact v_retg 1 (fun _ => rfl) hg ⟨rfl, rfl⟩
    rw [if_neg hb] at hf
    by_cases hb : (a_tsw 0 5 19 [2, 4, 7, 10, 13, 16] x1) = 7
    · rw [if_pos hb] at hf
      rw [hb]
      obtain ⟨ci3, ka3, nu3, va3, ho_a0, hf⟩ := m_ob_ok hf
      refine v_blk 1 (i' := 8) (L' := [some (.ref a0), some (.int x1)]) (st' := [(.ref a0)]) (h' := (hX C P vl kp Mo R)) (fun _ => rfl) ?_
      obtain ⟨hg, hf⟩ := a_bif hf
      refine v_io rfl rfl rfl (bdr_ok ho_a0) hg ?_
      obtain ⟨y4, hy, hf⟩ := m_li_ok hf
      rw [hy]
      obtain ⟨hg, hf⟩ := a_bif hf
      obtain ⟨rfl, rfl⟩ := m_rt hf
      exact v_retg 1 (fun _ => rfl) hg ⟨rfl, rfl⟩
    rw [if_neg hb] at hf
    by_cases hb : (a_tsw 0 5 19 [2, 4, 7, 10, 13, 16] x1) = 10
    · rw [if_pos hb] at hf
      rw [hb]
      obtain ⟨ci5, ka5, nu5, va5, ho_a0, hf⟩ := m_ob_ok hf
      refine v_blk 1 (i' := 11) (L' := [some (.ref a0), some (.int x1)]) (st' := [(.ref a0)]) (h' := (hX C P vl kp Mo R)) (fun _ => rfl) ?_
      obtain ⟨hg, hf⟩ := a_bif hf
      refine v_io rfl rfl rfl (bdr_ok ho_a0) hg ?_
      obtain ⟨y6, hy, hf⟩ := m_li_ok hf
      rw [hy]
      obtain ⟨hg, hf⟩ := a_bif hf
      obtain ⟨rfl, rfl⟩ := m_rt hf
      exact v_retg 1 (fun _ => rfl) hg ⟨rfl, rfl⟩
    rw [if_neg hb] at hf
    by_cases hb : (a_tsw 0 5 19 [2, 4, 7, 10, 13, 16] x1) = 13
    · rw [if_pos hb] at hf
      rw [hb]
      obtain ⟨ci7, ka7, nu7, va7, ho_a0, hf⟩ := m_ob_ok hf
      refine v_blk 1 (i' := 14) (L' := [some (.ref a0), some (.int x1)]) (st' := [(.ref a0)]) (h' := (hX C P vl kp Mo R)) (fun _ => rfl) ?_
      obtain ⟨hg, hf⟩ := a_bif hf
      refine v_io rfl rfl rfl (bdr_ok ho_a0) hg ?_
      obtain ⟨y8, hy, hf⟩ := m_li_ok hf
      rw [hy]
      obtain ⟨hg, hf⟩ := a_bif hf
      obtain ⟨rfl, rfl⟩ := m_rt hf
      exact v_retg 1 (fun _ => rfl) hg ⟨rfl, rfl⟩
    rw [if_neg hb] at hf
    by_cases hb : (a_tsw 0 5 19 [2, 4, 7, 10, 13, 16] x1) = 16
    · rw [if_pos hb] at hf
      rw [hb]
      obtain ⟨ci9, ka9, nu9, va9, ho_a0, hf⟩ := m_ob_ok hf
      refine v_blk 1 (i' := 17) (L' := [some (.ref a0), some (.int x1)]) (st' := [(.ref a0)]) (h' := (hX C P vl kp Mo R)) (fun _ => rfl) ?_
      obtain ⟨hg, hf⟩ := a_bif hf
      refine v_io rfl rfl rfl (bdr_ok ho_a0) hg ?_
      obtain ⟨y10, hy, hf⟩ := m_li_ok hf
      rw [hy]
      obtain ⟨hg, hf⟩ := a_bif hf
      obtain ⟨rfl, rfl⟩ := m_rt hf
      exact v_retg 1 (fun _ => rfl) hg ⟨rfl, rfl⟩
    rw [if_neg hb] at hf
    by_cases hb : (a_tsw 0 5 19 [2, 4, 7, 10, 13, 16] x1) = 19
    · rw [if_pos hb] at hf
      rw [hb]
      obtain ⟨ci11, ka11, nu11, va11, ho_a0, hf⟩ := m_ob_ok hf
      refine v_blk 1 (i' := 20) (L' := [some (.ref a0), some (.int x1)]) (st' := [(.ref a0)]) (h' := (hX C P vl kp Mo R)) (fun _ => rfl) ?_
      obtain ⟨hg, hf⟩ := a_bif hf
      refine v_io rfl rfl rfl (bdr_ok ho_a0) hg ?_
      obtain ⟨y12, hy, hf⟩ := m_li_ok hf
      rw [hy]
      obtain ⟨hg, hf⟩ := a_bif hf
      obtain ⟨rfl, rfl⟩ := m_rt hf
      exact v_retg 1 (fun _ => rfl) hg ⟨rfl, rfl⟩
    rw [if_neg hb] at hf
    cases hf
set_option maxRecDepth 100000 in
set_option maxHeartbeats 4000000 in
theorem kt_98 {fz : Value} {sc : Nat × (Nat → Int32)} (hfz : fz = .null ∨ fz = .retAddr 60) (N : Nat) (P : Nat → Option Nat) (vl kp : Option Nat) (Mo : Nat → aC) (R : List aC) (d : Nat) (hd : 2 ≤ d) (x1 : Int32) (x2 : Int32) (C : mS) (r : Int32) (C' : mS) (hf : k_98 N P vl R x1 x2 C = some (r, C')) : v_V fz sc d 98 0 [some (.ref 0), some (.int x1), some (.int x2), none] [] (hX C P vl kp Mo R) (fun rv h' => rv = some (.int r) ∧ h' = hX C' P vl kp Mo R) := by
  unfold k_98 at hf
  obtain ⟨d, rfl⟩ : ∃ z, d = z + 1 := ⟨d - 1, by omega⟩
  obtain ⟨r1, C1, hc, hf⟩ := m_bd_ok hf
  refine v_call 4 (k' := 70) (i' := 4) (E := [some (.ref 1), some (.int x1)]) (L' := [some (.ref 0), some (.int x1), some (.int x2), none]) (rest := []) (h1 := (hX C P vl kp Mo R)) (fun _ => rfl) ?_
  refine v_post (kt_70 hfz N P vl kp Mo R d (by omega) x1 C _ _ hc) ?_
  rintro rv h' ⟨rfl, rfl⟩
  rcases m_op_ok hf with ⟨ho2, hf⟩ | ⟨a2, ho2, hf⟩
  · refine v_on ho2 ?_
    obtain ⟨rfl, rfl⟩ := m_rt hf
    exact v_ret 5 (fun _ => rfl) ⟨rfl, rfl⟩
  · refine v_os ho2 ?_
    obtain ⟨r3, C3, hc, hf⟩ := m_bd_ok hf
    refine v_call 5 (k' := 103) (i' := 9) (E := [some (.int x2)]) (L' := [some (.ref 0), some (.int x1), some (.int x2), some (.ref a2)]) (rest := []) (h1 := (hX C1 P vl kp Mo R)) (fun _ => rfl) ?_
    refine v_post (kt_103 hfz N P vl kp Mo R d (by omega) x2 C1 _ _ hc) ?_
    rintro rv h' ⟨rfl, rfl⟩
    refine v_blk 1 (i' := (bif (a_ic .ne r3 (0 : Int32)) then 12 else 10)) (L' := [some (.ref 0), some (.int x1), some (.int x2), some (.ref a2)]) (st' := []) (h' := (hX C3 P vl kp Mo R)) (fun _ => rfl) ?_
    rcases Bool.eq_false_or_eq_true (a_ic .ne r3 (0 : Int32)) with hb | hb
    · have hf := a_bt hb hf
      refine v_it hb ?_
      obtain ⟨r4, C4, hc, hf⟩ := m_bd_ok hf
      refine v_call 3 (k' := 107) (i' := 15) (E := [some (.ref a2), some (.int x2)]) (L' := [some (.ref 0), some (.int x1), some (.int x2), some (.ref a2)]) (rest := []) (h1 := (hX C3 P vl kp Mo R)) (fun _ => rfl) ?_
      refine v_post (kt_107 hfz N P vl kp Mo R d (by omega) (some a2) x2 C3 _ _ hc) ?_
      rintro rv h' ⟨rfl, rfl⟩
      refine v_blk 1 (i' := (bif (a_ic .eq r4 (0 : Int32)) then 19 else 16)) (L' := [some (.ref 0), some (.int x1), some (.int x2), some (.ref a2)]) (st' := []) (h' := (hX C4 P vl kp Mo R)) (fun _ => rfl) ?_
      rcases Bool.eq_false_or_eq_true (a_ic .eq r4 (0 : Int32)) with hb | hb
      · have hf := a_bt hb hf
        refine v_it hb ?_
        obtain ⟨rfl, rfl⟩ := m_rt hf
        exact v_ret 2 (fun _ => rfl) ⟨rfl, rfl⟩
      · have hf := a_be hb hf
        refine v_ie hb ?_
        obtain ⟨ci5, ka5, nu5, va5, ho_a2, hf⟩ := m_ob_ok hf
        refine v_blk 1 (i' := 17) (L' := [some (.ref 0), some (.int x1), some (.int x2), some (.ref a2)]) (st' := [(.ref a2)]) (h' := (hX C4 P vl kp Mo R)) (fun _ => rfl) ?_
        obtain ⟨hg_a2_0_1_3_4_6_7_8, hf⟩ := a_bif hf
        refine v_gf rfl rfl rfl (bdr_ok ho_a2) rfl hg_a2_0_1_3_4_6_7_8 ?_
        obtain ⟨rfl, rfl⟩ := m_rt hf
        exact v_ret 2 (fun _ => rfl) ⟨rfl, rfl⟩
    · have hf := a_be hb hf
      refine v_ie hb ?_
      obtain ⟨rfl, rfl⟩ := m_rt hf
      exact v_ret 2 (fun _ => rfl) ⟨rfl, rfl⟩
set_option maxRecDepth 100000 in
set_option maxHeartbeats 4000000 in
theorem kt_101 {fz : Value} {sc : Nat × (Nat → Int32)} (hfz : fz = .null ∨ fz = .retAddr 60) (N : Nat) (P : Nat → Option Nat) (vl kp : Option Nat) (Mo : Nat → aC) (R : List aC) (d : Nat) (hd : 0 ≤ d) (x1 : Int32) (C : mS) (r : Int32) (C' : mS) (hf : k_101 N P vl R x1 C = some (r, C')) : v_V fz sc d 101 0 [some (.ref 0), some (.int x1)] [] (hX C P vl kp Mo R) (fun rv h' => rv = some (.int r) ∧ h' = hX C' P vl kp Mo R) := by
  unfold k_101 at hf
  refine v_blk 2 (i' := (a_tsw 0 6 31 [2, 6, 10, 14, 18, 22, 26] x1)) (L' := [some (.ref 0), some (.int x1)]) (st' := []) (h' := (hX C P vl kp Mo R)) (fun _ => rfl) ?_
  by_cases hb : (a_tsw 0 6 31 [2, 6, 10, 14, 18, 22, 26] x1) = 2
  · rw [if_pos hb] at hf
    rw [hb]
    obtain ⟨rfl, rfl⟩ := m_rt hf
    exact v_ret 4 (fun _ => rfl) ⟨rfl, rfl⟩
  rw [if_neg hb] at hf
  by_cases hb : (a_tsw 0 6 31 [2, 6, 10, 14, 18, 22, 26] x1) = 6
  · rw [if_pos hb] at hf
    rw [hb]
    obtain ⟨rfl, rfl⟩ := m_rt hf
    exact v_ret 4 (fun _ => rfl) ⟨rfl, rfl⟩
  rw [if_neg hb] at hf
  by_cases hb : (a_tsw 0 6 31 [2, 6, 10, 14, 18, 22, 26] x1) = 10
  · rw [if_pos hb] at hf
    rw [hb]
    obtain ⟨rfl, rfl⟩ := m_rt hf
    exact v_ret 4 (fun _ => rfl) ⟨rfl, rfl⟩
  rw [if_neg hb] at hf
  by_cases hb : (a_tsw 0 6 31 [2, 6, 10, 14, 18, 22, 26] x1) = 14
  · rw [if_pos hb] at hf
    rw [hb]
    obtain ⟨rfl, rfl⟩ := m_rt hf
    exact v_ret 4 (fun _ => rfl) ⟨rfl, rfl⟩
  rw [if_neg hb] at hf
  by_cases hb : (a_tsw 0 6 31 [2, 6, 10, 14, 18, 22, 26] x1) = 18
  · rw [if_pos hb] at hf
    rw [hb]
    obtain ⟨rfl, rfl⟩ := m_rt hf
    exact v_ret 4 (fun _ => rfl) ⟨rfl, rfl⟩
  rw [if_neg hb] at hf
  by_cases hb : (a_tsw 0 6 31 [2, 6, 10, 14, 18, 22, 26] x1) = 22
  · rw [if_pos hb] at hf
    rw [hb]
    obtain ⟨rfl, rfl⟩ := m_rt hf
    exact v_ret 4 (fun _ => rfl) ⟨rfl, rfl⟩
  rw [if_neg hb] at hf
  by_cases hb : (a_tsw 0 6 31 [2, 6, 10, 14, 18, 22, 26] x1) = 26
  · rw [if_pos hb] at hf
    rw [hb]
    obtain ⟨rfl, rfl⟩ := m_rt hf
    exact v_ret 5 (fun _ => rfl) ⟨rfl, rfl⟩
  rw [if_neg hb] at hf
  by_cases hb : (a_tsw 0 6 31 [2, 6, 10, 14, 18, 22, 26] x1) = 31
  · rw [if_pos hb] at hf
    rw [hb]
    obtain ⟨rfl, rfl⟩ := m_rt hf
    exact v_ret 2 (fun _ => rfl) ⟨rfl, rfl⟩
  rw [if_neg hb] at hf
  cases hf
