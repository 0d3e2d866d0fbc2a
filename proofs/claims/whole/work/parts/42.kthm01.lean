/-! 42.kthm, piece 1: runs of the class's methods are their mirrored functions (by program) -/
set_option maxRecDepth 100000 in
set_option maxHeartbeats 4000000 in
theorem kt_14 {fz : Value} {sc : Nat × (Nat → Int32)} (hfz : fz = .null ∨ fz = .retAddr 60) (N : Nat) (P : Nat → Option Nat) (vl kp : Option Nat) (Mo : Nat → aC) (R : List aC) (d : Nat) (hd : 0 ≤ d) (x1 : Int32) (x2 : Int32) (x3 : Int32) (C : mS) (r : Int32) (C' : mS) (hf : k_14 N P vl R x1 x2 x3 C = some (r, C')) : v_V fz sc d 14 0 [some (.ref 13), some (.int x1), some (.int x2), some (.int x3)] [] (hX C P vl kp Mo R) (fun rv h' => rv = none ∧ h' = hX C' P vl kp Mo R) := by
  unfold k_14 at hf
  obtain ⟨hg, hf⟩ := a_bif hf
  refine v_grd 12 (i' := 12) (L' := [some (.ref 13), some (.int x1), some (.int x2), some (.int x3)]) (st' := [(.int ((C 9) (x1).toNatClampNeg)), (.int (0 : Int32)), (.int ((x1 * (4 : Int32)) + x2)), (.ref 15)]) (h' := (hX C P vl kp Mo R)) (fun _ => rfl) hg ?_
  obtain ⟨y1, hy, hf⟩ := m_li_ok hf
  rw [hy]
  refine v_blk 2 (i' := 14) (L' := [some (.ref 13), some (.int x1), some (.int x2), some (.int x3)]) (st' := [(.int (if x3 < y1 then x3 else y1)), (.int (0 : Int32)), (.int ((x1 * (4 : Int32)) + x2)), (.ref 15)]) (h' := (hX C P vl kp Mo R)) (fun _ => rfl) ?_
  obtain ⟨y2, hy, hf⟩ := m_li_ok hf
  rw [hy]
  refine v_blk 1 (i' := 15) (L' := [some (.ref 13), some (.int x1), some (.int x2), some (.int x3)]) (st' := [(.int (if (0 : Int32) < y2 then y2 else (0 : Int32))), (.int ((x1 * (4 : Int32)) + x2)), (.ref 15)]) (h' := (hX C P vl kp Mo R)) (fun _ => rfl) ?_
  obtain ⟨y3, hy, hf⟩ := m_li_ok hf
  rw [hy]
  obtain ⟨hg, hf⟩ := a_bif hf
  refine v_grd 1 (i' := 16) (L' := [some (.ref 13), some (.int x1), some (.int x2), some (.int x3)]) (st' := []) (h' := (hX (va_up C 10 (upd (C 10) (((x1 * (4 : Int32)) + x2)).toNatClampNeg y3)) P vl kp Mo R)) (fun _ => rfl) hg ?_
  obtain ⟨C4, hA, hf⟩ := m_st_ok hf
  rw [hA]
  obtain ⟨rfl, rfl⟩ := m_rt hf
  exact v_ret 1 (fun _ => rfl) ⟨rfl, rfl⟩
set_option maxRecDepth 100000 in
set_option maxHeartbeats 4000000 in
theorem kt_69 {fz : Value} {sc : Nat × (Nat → Int32)} (hfz : fz = .null ∨ fz = .retAddr 60) (N : Nat) (P : Nat → Option Nat) (vl kp : Option Nat) (Mo : Nat → aC) (R : List aC) (d : Nat) (hd : 0 ≤ d) (x1 : Int32) (C : mS) (r : Int32) (C' : mS) (hf : k_69 N P vl R x1 C = some (r, C')) : v_V fz sc d 69 0 [some (.ref 1), some (.int x1)] [] (hX C P vl kp Mo R) (fun rv h' => rv = some (.int r) ∧ h' = hX C' P vl kp Mo R) := by
  unfold k_69 at hf
  refine v_blk 2 (i' := (bif (a_ic .lt x1 (0 : Int32)) then 8 else 2)) (L' := [some (.ref 1), some (.int x1)]) (st' := []) (h' := (hX C P vl kp Mo R)) (fun _ => rfl) ?_
  rcases Bool.eq_false_or_eq_true (a_ic .lt x1 (0 : Int32)) with hb | hb
  · have hf := a_bt hb hf
    refine v_it hb ?_
    obtain ⟨rfl, rfl⟩ := m_rt hf
    exact v_ret 2 (fun _ => rfl) ⟨rfl, rfl⟩
  · have hf := a_be hb hf
    refine v_ie hb ?_
    refine v_blk 4 (i' := (bif (a_ic .ge x1 (C 90 12)) then 8 else 6)) (L' := [some (.ref 1), some (.int x1)]) (st' := []) (h' := (hX C P vl kp Mo R)) (fun _ => rfl) ?_
    rcases Bool.eq_false_or_eq_true (a_ic .ge x1 (C 90 12)) with hb | hb
    · have hf := a_bt hb hf
      refine v_it hb ?_
      obtain ⟨rfl, rfl⟩ := m_rt hf
      exact v_ret 2 (fun _ => rfl) ⟨rfl, rfl⟩
    · have hf := a_be hb hf
      refine v_ie hb ?_
      obtain ⟨rfl, rfl⟩ := m_rt hf
      exact v_ret 3 (fun _ => rfl) ⟨rfl, rfl⟩
set_option maxRecDepth 100000 in
set_option maxHeartbeats 4000000 in
theorem kt_70 {fz : Value} {sc : Nat × (Nat → Int32)} (hfz : fz = .null ∨ fz = .retAddr 60) (N : Nat) (P : Nat → Option Nat) (vl kp : Option Nat) (Mo : Nat → aC) (R : List aC) (d : Nat) (hd : 1 ≤ d) (x1 : Int32) (C : mS) (r : Option Nat) (C' : mS) (hf : k_70 N P vl R x1 C = some (r, C')) : v_V fz sc d 70 0 [some (.ref 1), some (.int x1)] [] (hX C P vl kp Mo R) (fun rv h' => rv = some (va_rf r) ∧ h' = hX C' P vl kp Mo R) := by
  unfold k_70 at hf
  obtain ⟨d, rfl⟩ : ∃ z, d = z + 1 := ⟨d - 1, by omega⟩
  obtain ⟨r1, C1, hc, hf⟩ := m_bd_ok hf
  refine v_call 3 (k' := 69) (i' := 3) (E := [some (.ref 1), some (.int x1)]) (L' := [some (.ref 1), some (.int x1)]) (rest := []) (h1 := (hX C P vl kp Mo R)) (fun _ => rfl) ?_
  refine v_post (kt_69 hfz N P vl kp Mo R d (by omega) x1 C _ _ hc) ?_
  rintro rv h' ⟨rfl, rfl⟩
  refine v_blk 1 (i' := (bif (a_ic .eq r1 (0 : Int32)) then 9 else 4)) (L' := [some (.ref 1), some (.int x1)]) (st' := []) (h' := (hX C1 P vl kp Mo R)) (fun _ => rfl) ?_
  rcases Bool.eq_false_or_eq_true (a_ic .eq r1 (0 : Int32)) with hb | hb
  · have hf := a_bt hb hf
    refine v_it hb ?_
    obtain ⟨rfl, rfl⟩ := m_rt hf
    exact v_ret 2 (fun _ => rfl) ⟨rfl, rfl⟩
  · have hf := a_be hb hf
    refine v_ie hb ?_
    obtain ⟨hg, hf⟩ := a_bif hf
    refine v_grd 4 (i' := 8) (L' := [some (.ref 1), some (.int x1)]) (st' := [(va_rf (P (x1).toNatClampNeg))]) (h' := (hX C1 P vl kp Mo R)) (fun _ => rfl) hg ?_
    rcases m_op_ok hf with ⟨ho2, hf⟩ | ⟨a2, ho2, hf⟩
    · refine v_on ho2 ?_
      obtain ⟨rfl, rfl⟩ := m_rt hf
      exact v_ret 2 (fun _ => rfl) ⟨rfl, rfl⟩
    · refine v_os ho2 ?_
      obtain ⟨rfl, rfl⟩ := m_rt hf
      exact v_ret 2 (fun _ => rfl) ⟨rfl, rfl⟩
set_option maxRecDepth 100000 in
set_option maxHeartbeats 4000000 in
theorem kt_28 {fz : Value} {sc : Nat × (Nat → Int32)} (hfz : fz = .null ∨ fz = .retAddr 60) (N : Nat) (P : Nat → Option Nat) (vl kp : Option Nat) (Mo : Nat → aC) (R : List aC) (d : Nat) (hd : 2 ≤ d) (x1 : Int32) (C : mS) (r : Option Nat) (C' : mS) (hf : k_28 N P vl R x1 C = some (r, C')) : v_V fz sc d 28 0 [some (.ref 13), some (.int x1)] [] (hX C P vl kp Mo R) (fun rv h' => rv = some (va_rf r) ∧ h' = hX C' P vl kp Mo R) := by
  unfold k_28 at hf
  obtain ⟨d, rfl⟩ : ∃ z, d = z + 1 := ⟨d - 1, by omega⟩
  obtain ⟨r1, C1, hc, hf⟩ := m_bd_ok hf
  refine v_call 4 (k' := 70) (i' := 4) (E := [some (.ref 1), some (.int x1)]) (L' := [some (.ref 13), some (.int x1)]) (rest := []) (h1 := (hX C P vl kp Mo R)) (fun _ => rfl) ?_
  refine v_post (kt_70 hfz N P vl kp Mo R d (by omega) x1 C _ _ hc) ?_
  rintro rv h' ⟨rfl, rfl⟩
  rcases m_op_ok hf with ⟨ho2, hf⟩ | ⟨a2, ho2, hf⟩
  · refine v_on ho2 ?_
    obtain ⟨rfl, rfl⟩ := m_rt hf
    exact v_ret 1 (fun _ => rfl) ⟨rfl, rfl⟩
  · refine v_os ho2 ?_
    obtain ⟨rfl, rfl⟩ := m_rt hf
    exact v_ret 1 (fun _ => rfl) ⟨rfl, rfl⟩
set_option maxRecDepth 100000 in
set_option maxHeartbeats 4000000 in
theorem kt_34 {fz : Value} {sc : Nat × (Nat → Int32)} (hfz : fz = .null ∨ fz = .retAddr 60) (N : Nat) (P : Nat → Option Nat) (vl kp : Option Nat) (Mo : Nat → aC) (R : List aC) (d : Nat) (hd : 3 ≤ d) (x0 : Nat) (x2 : Int32) (C : mS) (r : Int32) (C' : mS) (hf : k_34 N P vl R x0 x2 C = some (r, C')) : v_V fz sc d 34 0 [some (.ref x0), some (.ref 13), some (.int x2), none, none] [] (hX C P vl kp Mo R) (fun rv h' => rv = some (.int r) ∧ h' = hX C' P vl kp Mo R) := by
  unfold k_34 at hf
  obtain ⟨d, rfl⟩ : ∃ z, d = z + 1 := ⟨d - 1, by omega⟩
  obtain ⟨r1, C1, hc, hf⟩ := m_bd_ok hf
  refine v_call 8 (k' := 32) (i' := 8) (E := [some (.ref 13), some (.ref x0), some (.int x2), some (.int (C 92 7)), some (.int (C 92 8)), none]) (L' := [some (.ref x0), some (.ref 13), some (.int x2), none, none]) (rest := []) (h1 := (hX C P vl kp Mo R)) (fun _ => rfl) ?_
  refine v_post (kt_32 hfz N P vl kp Mo R d (by omega) (some x0) x2 (C 92 7) (C 92 8) C _ _ hc) ?_
  rintro rv h' ⟨rfl, rfl⟩
  obtain ⟨ci2, ka2, nu2, va2, ho_x0, hf⟩ := m_ob_ok hf
  refine v_blk 3 (i' := 11) (L' := [some (.ref x0), some (.ref 13), some (.int x2), some (.int r1), none]) (st' := [(.ref x0), (.ref 13)]) (h' := (hX C1 P vl kp Mo R)) (fun _ => rfl) ?_
  obtain ⟨hg_x0_0_1_3_4_6_7_8, hf⟩ := a_bif hf
  refine v_gf rfl rfl rfl (bdr_ok ho_x0) rfl hg_x0_0_1_3_4_6_7_8 ?_
  obtain ⟨r3, C3, hc, hf⟩ := m_bd_ok hf
  refine v_call 1 (k' := 28) (i' := 13) (E := [some (.ref 13), some (.int va2)]) (L' := [some (.ref x0), some (.ref 13), some (.int x2), some (.int r1), none]) (rest := []) (h1 := (hX C1 P vl kp Mo R)) (fun _ => rfl) ?_
  refine v_post (kt_28 hfz N P vl kp Mo R d (by omega) va2 C1 _ _ hc) ?_
  rintro rv h' ⟨rfl, rfl⟩
  rcases m_op_ok hf with ⟨ho4, hf⟩ | ⟨a4, ho4, hf⟩
  · refine v_on ho4 ?_
    refine v_blk 2 (i' := 15) (L' := [some (.ref x0), some (.ref 13), some (.int x2), some (.int r1), some (.null)]) (st' := [(.ref x0)]) (h' := (hX C3 P vl kp Mo R)) (fun _ => rfl) ?_
    refine v_gf rfl rfl rfl (bdr_ok ho_x0) rfl hg_x0_0_1_3_4_6_7_8 ?_
    refine v_blk 1 (i' := 17) (L' := [some (.ref x0), some (.ref 13), some (.int x2), some (.int r1), some (.null)]) (st' := [(.ref x0), (.int va2)]) (h' := (hX C3 P vl kp Mo R)) (fun _ => rfl) ?_
    refine v_gf rfl rfl rfl (bdr_ok ho_x0) rfl hg_x0_0_1_3_4_6_7_8 ?_
    refine v_blk 1 (i' := (bif (a_ic .eq va2 nu2) then 22 else 19)) (L' := [some (.ref x0), some (.ref 13), some (.int x2), some (.int r1), some (.null)]) (st' := []) (h' := (hX C3 P vl kp Mo R)) (fun _ => rfl) ?_
    rcases Bool.eq_false_or_eq_true (a_ic .eq va2 nu2) with hb | hb
    · have hf := a_bt hb hf
      refine v_it hb ?_
      obtain ⟨rfl, rfl⟩ := m_rt hf
      exact v_ret 2 (fun _ => rfl) ⟨rfl, rfl⟩
    · have hf := a_be hb hf
      refine v_ie hb ?_
      obtain ⟨rfl, rfl⟩ := m_rt hf
      exact v_ret 5 (fun _ => rfl) ⟨rfl, rfl⟩
  · refine v_os ho4 ?_
    refine v_blk 2 (i' := 15) (L' := [some (.ref x0), some (.ref 13), some (.int x2), some (.int r1), some (.ref a4)]) (st' := [(.ref x0)]) (h' := (hX C3 P vl kp Mo R)) (fun _ => rfl) ?_
    refine v_gf rfl rfl rfl (bdr_ok ho_x0) rfl hg_x0_0_1_3_4_6_7_8 ?_
    refine v_blk 1 (i' := 17) (L' := [some (.ref x0), some (.ref 13), some (.int x2), some (.int r1), some (.ref a4)]) (st' := [(.ref x0), (.int va2)]) (h' := (hX C3 P vl kp Mo R)) (fun _ => rfl) ?_
    refine v_gf rfl rfl rfl (bdr_ok ho_x0) rfl hg_x0_0_1_3_4_6_7_8 ?_
    refine v_blk 1 (i' := (bif (a_ic .eq va2 nu2) then 22 else 19)) (L' := [some (.ref x0), some (.ref 13), some (.int x2), some (.int r1), some (.ref a4)]) (st' := []) (h' := (hX C3 P vl kp Mo R)) (fun _ => rfl) ?_
    rcases Bool.eq_false_or_eq_true (a_ic .eq va2 nu2) with hb | hb
    · have hf := a_bt hb hf
      refine v_it hb ?_
      obtain ⟨rfl, rfl⟩ := m_rt hf
      exact v_ret 2 (fun _ => rfl) ⟨rfl, rfl⟩
    · have hf := a_be hb hf
      refine v_ie hb ?_
      obtain ⟨ci5, ka5, nu5, va5, ho_a4, hf⟩ := m_ob_ok hf
      refine v_blk 1 (i' := 20) (L' := [some (.ref x0), some (.ref 13), some (.int x2), some (.int r1), some (.ref a4)]) (st' := [(.ref a4)]) (h' := (hX C3 P vl kp Mo R)) (fun _ => rfl) ?_
      obtain ⟨hg, hf⟩ := a_bif hf
      refine v_io rfl rfl rfl (bdr_ok ho_a4) hg ?_
      obtain ⟨y6, hy, hf⟩ := m_li_ok hf
      rw [hy]
      refine v_blk 1 (i' := (bif (a_ic .ne y6 (0 : Int32)) then 24 else 22)) (L' := [some (.ref x0), some (.ref 13), some (.int x2), some (.int r1), some (.ref a4)]) (st' := []) (h' := (hX C3 P vl kp Mo R)) (fun _ => rfl) ?_
      rcases Bool.eq_false_or_eq_true (a_ic .ne y6 (0 : Int32)) with hb | hb
      · have hf := a_bt hb hf
        refine v_it hb ?_
        obtain ⟨r7, C7, hc, hf⟩ := m_bd_ok hf
        refine v_call 9 (k' := 32) (i' := 33) (E := [some (.ref 13), some (.ref a4), some (.int x2), some (.int (C3 92 7)), some (.int (C3 92 8)), none]) (L' := [some (.ref x0), some (.ref 13), some (.int x2), some (.int r1), some (.ref a4)]) (rest := [(.int r1)]) (h1 := (hX C3 P vl kp Mo R)) (fun _ => rfl) ?_
        refine v_post (kt_32 hfz N P vl kp Mo R d (by omega) (some a4) x2 (C3 92 7) (C3 92 8) C3 _ _ hc) ?_
        rintro rv h' ⟨rfl, rfl⟩
        refine v_blk 3 (i' := 36) (L' := [some (.ref x0), some (.ref 13), some (.int x2), some (.int r1), some (.ref a4)]) (st' := [(.int ((r1 + r7) / (2 : Int32)))]) (h' := (hX C7 P vl kp Mo R)) (fun _ => rfl) ?_
        obtain ⟨y8, hy, hf⟩ := m_li_ok hf
        rw [hy]
        obtain ⟨rfl, rfl⟩ := m_rt hf
        exact v_ret 1 (fun _ => rfl) ⟨rfl, rfl⟩
      · have hf := a_be hb hf
        refine v_ie hb ?_
        obtain ⟨rfl, rfl⟩ := m_rt hf
        exact v_ret 2 (fun _ => rfl) ⟨rfl, rfl⟩
set_option maxRecDepth 100000 in
set_option maxHeartbeats 4000000 in
theorem kt_37 {fz : Value} {sc : Nat × (Nat → Int32)} (hfz : fz = .null ∨ fz = .retAddr 60) (N : Nat) (P : Nat → Option Nat) (vl kp : Option Nat) (Mo : Nat → aC) (R : List aC) (d : Nat) (hd : 3 ≤ d) (x0 : Nat) (x2 : Int32) (C : mS) (r : Int32) (C' : mS) (hf : k_37 N P vl R x0 x2 C = some (r, C')) : v_V fz sc d 37 0 [some (.ref x0), some (.ref 13), some (.int x2), none] [] (hX C P vl kp Mo R) (fun rv h' => rv = some (.int r) ∧ h' = hX C' P vl kp Mo R) := by
  unfold k_37 at hf
  obtain ⟨d, rfl⟩ : ∃ z, d = z + 1 := ⟨d - 1, by omega⟩
  obtain ⟨r1, C1, hc, hf⟩ := m_bd_ok hf
  refine v_call 8 (k' := 32) (i' := 8) (E := [some (.ref 13), some (.ref x0), some (.int x2), some (.int (C 92 7)), some (.int (C 92 8)), none]) (L' := [some (.ref x0), some (.ref 13), some (.int x2), none]) (rest := []) (h1 := (hX C P vl kp Mo R)) (fun _ => rfl) ?_
  refine v_post (kt_32 hfz N P vl kp Mo R d (by omega) (some x0) x2 (C 92 7) (C 92 8) C _ _ hc) ?_
  rintro rv h' ⟨rfl, rfl⟩
  obtain ⟨ci2, ka2, nu2, va2, ho_x0, hf⟩ := m_ob_ok hf
  refine v_blk 2 (i' := 10) (L' := [some (.ref x0), some (.ref 13), some (.int x2), some (.int r1)]) (st' := [(.ref x0)]) (h' := (hX C1 P vl kp Mo R)) (fun _ => rfl) ?_
  obtain ⟨hg_x0_0_1_3_4_6_7_8, hf⟩ := a_bif hf
  refine v_gf rfl rfl rfl (bdr_ok ho_x0) rfl hg_x0_0_1_3_4_6_7_8 ?_
  refine v_blk 1 (i' := (bif (a_ic .ge va2 (0 : Int32)) then 14 else 12)) (L' := [some (.ref x0), some (.ref 13), some (.int x2), some (.int r1)]) (st' := []) (h' := (hX C1 P vl kp Mo R)) (fun _ => rfl) ?_
  rcases Bool.eq_false_or_eq_true (a_ic .ge va2 (0 : Int32)) with hb | hb
  · have hf := a_bt hb hf
    refine v_it hb ?_
    refine v_blk 2 (i' := 16) (L' := [some (.ref x0), some (.ref 13), some (.int x2), some (.int r1)]) (st' := [(.ref x0), (.int r1)]) (h' := (hX C1 P vl kp Mo R)) (fun _ => rfl) ?_
    refine v_gf rfl rfl rfl (bdr_ok ho_x0) rfl hg_x0_0_1_3_4_6_7_8 ?_
    obtain ⟨hg, hf⟩ := a_bif hf
    refine v_grd 3 (i' := 20) (L' := [some (.ref x0), some (.ref 13), some (.int x2), some (.int r1)]) (st' := [(.int (r1 / (va2 + (1 : Int32))))]) (h' := (hX C1 P vl kp Mo R)) (fun _ => rfl) hg ?_
    obtain ⟨y3, hy, hf⟩ := m_li_ok hf
    rw [hy]
    obtain ⟨rfl, rfl⟩ := m_rt hf
    exact v_ret 1 (fun _ => rfl) ⟨rfl, rfl⟩
  · have hf := a_be hb hf
    refine v_ie hb ?_
    obtain ⟨rfl, rfl⟩ := m_rt hf
    exact v_ret 3 (fun _ => rfl) ⟨rfl, rfl⟩
set_option maxRecDepth 100000 in
set_option maxHeartbeats 4000000 in
theorem kt_21 {fz : Value} {sc : Nat × (Nat → Int32)} (hfz : fz = .null ∨ fz = .retAddr 60) (N : Nat) (P : Nat → Option Nat) (vl kp : Option Nat) (Mo : Nat → aC) (R : List aC) (d : Nat) (hd : 0 ≤ d) (x1 : Int32) (C : mS) (r : Int32) (C' : mS) (hf : k_21 N P vl R x1 C = some (r, C')) : v_V fz sc d 21 0 [some (.ref 13), some (.int x1)] [] (hX C P vl kp Mo R) (fun rv h' => rv = some (.int r) ∧ h' = hX C' P vl kp Mo R) := by
  unfold k_21 at hf
  obtain ⟨hg, hf⟩ := a_bif hf
  refine v_grd 4 (i' := 4) (L' := [some (.ref 13), some (.int x1)]) (st' := [(.int ((C 9) (x1).toNatClampNeg))]) (h' := (hX C P vl kp Mo R)) (fun _ => rfl) hg ?_
  obtain ⟨y1, hy, hf⟩ := m_li_ok hf
  rw [hy]
  obtain ⟨rfl, rfl⟩ := m_rt hf
  exact v_ret 1 (fun _ => rfl) ⟨rfl, rfl⟩
set_option maxRecDepth 100000 in
set_option maxHeartbeats 4000000 in
theorem kt_56 {fz : Value} {sc : Nat × (Nat → Int32)} (hfz : fz = .null ∨ fz = .retAddr 60) (N : Nat) (P : Nat → Option Nat) (vl kp : Option Nat) (Mo : Nat → aC) (R : List aC) (d : Nat) (hd : 4 ≤ d) (x0 : Nat) (x2 : Int32) (C : mS) (r : Int32) (C' : mS) (hf : k_56 N P vl R x0 x2 C = some (r, C')) : v_V fz sc d 56 0 [some (.ref x0), some (.ref 13), some (.int x2)] [] (hX C P vl kp Mo R) (fun rv h' => rv = some (.int r) ∧ h' = hX C' P vl kp Mo R) := by
  unfold k_56 at hf
  obtain ⟨d, rfl⟩ : ∃ z, d = z + 1 := ⟨d - 1, by omega⟩
  obtain ⟨ci1, ka1, nu1, va1, ho_x0, hf⟩ := m_ob_ok hf
  refine v_blk 2 (i' := 2) (L' := [some (.ref x0), some (.ref 13), some (.int x2)]) (st' := [(.ref x0), (.ref 13)]) (h' := (hX C P vl kp Mo R)) (fun _ => rfl) ?_
  obtain ⟨hg_x0_0_1_3_4_6_7_8, hf⟩ := a_bif hf
  refine v_gf rfl rfl rfl (bdr_ok ho_x0) rfl hg_x0_0_1_3_4_6_7_8 ?_
  obtain ⟨r2, C2, hc, hf⟩ := m_bd_ok hf
  refine v_call 1 (k' := 21) (i' := 4) (E := [some (.ref 13), some (.int nu1)]) (L' := [some (.ref x0), some (.ref 13), some (.int x2)]) (rest := []) (h1 := (hX C P vl kp Mo R)) (fun _ => rfl) ?_
  refine v_post (kt_21 hfz N P vl kp Mo R d (by omega) nu1 C _ _ hc) ?_
  rintro rv h' ⟨rfl, rfl⟩
  refine v_blk 2 (i' := 6) (L' := [some (.ref x0), some (.ref 13), some (.int x2)]) (st' := [(.ref x0), (.int (10 : Int32)), (.int r2)]) (h' := (hX C2 P vl kp Mo R)) (fun _ => rfl) ?_
  refine v_gf rfl rfl rfl (bdr_ok ho_x0) rfl hg_x0_0_1_3_4_6_7_8 ?_
  refine v_blk 2 (i' := (bif (a_ic .ge r2 ((10 : Int32) * va1)) then 11 else 9)) (L' := [some (.ref x0), some (.ref 13), some (.int x2)]) (st' := []) (h' := (hX C2 P vl kp Mo R)) (fun _ => rfl) ?_
  rcases Bool.eq_false_or_eq_true (a_ic .ge r2 ((10 : Int32) * va1)) with hb | hb
  · have hf := a_bt hb hf
    refine v_it hb ?_
    obtain ⟨r3, C3, hc, hf⟩ := m_bd_ok hf
    refine v_blk 3 (i' := 14) (L' := [some (.ref x0), some (.ref 13), some (.int x2)]) (st' := [(.int x2), (.ref 13), (.ref x0)]) (h' := (hX C2 P vl kp Mo R)) (fun _ => rfl) ?_
    refine v_s2 (E := [some (.ref x0), some (.ref 13), some (.int x2), none]) (rest := []) rfl rfl rfl (bdr_ok ho_x0) rfl rfl rfl ?_
    refine v_post (kt_37 hfz N P vl kp Mo R d (by omega) x0 x2 C2 _ _ hc) ?_
    rintro rv h' ⟨rfl, rfl⟩
    obtain ⟨rfl, rfl⟩ := m_rt hf
    exact v_ret 1 (fun _ => rfl) ⟨rfl, rfl⟩
  · have hf := a_be hb hf
    refine v_ie hb ?_
    obtain ⟨rfl, rfl⟩ := m_rt hf
    exact v_ret 3 (fun _ => rfl) ⟨rfl, rfl⟩
set_option maxRecDepth 100000 in
set_option maxHeartbeats 4000000 in
theorem kt_59_7b {fz : Value} {sc : Nat × (Nat → Int32)} (hfz : fz = .null ∨ fz = .retAddr 60) (N : Nat) (P : Nat → Option Nat) (vl kp : Option Nat) (Mo : Nat → aC) (R : List aC) (d : Nat) (hd : 4 ≤ d) (rc7 : Nat → Int32 → Int32 → Int32 → mS → Option (Int32 × mS)) (hrc7 : ∀ (x0 : Nat) (x2 : Int32) (x3 : Int32) (x4 : Int32) (C : mS) (r : Int32) (C' : mS), rc7 x0 x2 x3 x4 C = some (r, C') → v_V fz sc d 59 7 [some (.ref x0), some (.ref 13), some (.int x2), some (.int x3), some (.int x4), none] [] (hX C P vl kp Mo R) (fun rv h' => rv = some (.int r) ∧ h' = hX C' P vl kp Mo R)) (x0 : Nat) (x2 : Int32) (x3 : Int32) (x4 : Int32) (C : mS) (r : Int32) (C' : mS) (hf : k_59_7b N P vl R rc7 x0 x2 x3 x4 C = some (r, C')) : v_V fz sc d 59 7 [some (.ref x0), some (.ref 13), some (.int x2), some (.int x3), some (.int x4), none] [] (hX C P vl kp Mo R) (fun rv h' => rv = some (.int r) ∧ h' = hX C' P vl kp Mo R) := by
  unfold k_59_7b at hf
  obtain ⟨d, rfl⟩ : ∃ z, d = z + 1 := ⟨d - 1, by omega⟩
  refine v_blk 3 (i' := (bif (a_ic .ge x4 (4 : Int32)) then 28 else 10)) (L' := [some (.ref x0), some (.ref 13), some (.int x2), some (.int x3), some (.int x4), none]) (st' := []) (h' := (hX C P vl kp Mo R)) (fun _ => rfl) ?_
  rcases Bool.eq_false_or_eq_true (a_ic .ge x4 (4 : Int32)) with hb | hb
  · have hf := a_bt hb hf
    refine v_it hb ?_
    obtain ⟨rfl, rfl⟩ := m_rt hf
    exact v_ret 2 (fun _ => rfl) ⟨rfl, rfl⟩
  · have hf := a_be hb hf
    refine v_ie hb ?_
    obtain ⟨ci4, ka4, nu4, va4, ho_x0, hf⟩ := m_ob_ok hf
    obtain ⟨r3, C3, hc, hf⟩ := m_bd_ok hf
    refine v_blk 3 (i' := 13) (L' := [some (.ref x0), some (.ref 13), some (.int x2), some (.int x3), some (.int x4), none]) (st' := [(.int x4), (.ref 13), (.ref x0)]) (h' := (hX C P vl kp Mo R)) (fun _ => rfl) ?_
    refine v_s2 (E := [some (.ref x0), some (.ref 13), some (.int x4), none, none]) (rest := []) rfl rfl rfl (bdr_ok ho_x0) rfl rfl rfl ?_
    refine v_post (kt_34 hfz N P vl kp Mo R d (by omega) x0 x4 C _ _ hc) ?_
    rintro rv h' ⟨rfl, rfl⟩
    refine v_blk 4 (i' := (bif (a_ic .gt r3 x3) then 24 else 18)) (L' := [some (.ref x0), some (.ref 13), some (.int x2), some (.int x3), some (.int x4), some (.int r3)]) (st' := []) (h' := (hX C3 P vl kp Mo R)) (fun _ => rfl) ?_
    rcases Bool.eq_false_or_eq_true (a_ic .gt r3 x3) with hb | hb
    · have hf := a_bt hb hf
      refine v_it hb ?_
      obtain ⟨rfl, rfl⟩ := m_rt hf
      exact v_ret 2 (fun _ => rfl) ⟨rfl, rfl⟩
    · have hf := a_be hb hf
      refine v_ie hb ?_
      refine v_blk 3 (i' := (bif (a_ic .ne r3 x3) then 26 else 21)) (L' := [some (.ref x0), some (.ref 13), some (.int x2), some (.int x3), some (.int x4), some (.int r3)]) (st' := []) (h' := (hX C3 P vl kp Mo R)) (fun _ => rfl) ?_
      rcases Bool.eq_false_or_eq_true (a_ic .ne r3 x3) with hb | hb
      · have hf := a_bt hb hf
        refine v_it hb ?_
        refine v_blk 2 (i' := 7) (L' := [some (.ref x0), some (.ref 13), some (.int x2), some (.int x3), some (.int (x4 + (1 : Int32))), some (.int r3)]) (st' := []) (h' := (hX C3 P vl kp Mo R)) (fun _ => rfl) ?_
        refine v_weak (L' := [some (.ref x0), some (.ref 13), some (.int x2), some (.int x3), some (.int (x4 + (1 : Int32))), none]) (show a_wk [some (.ref x0), some (.ref 13), some (.int x2), some (.int x3), some (.int (x4 + (1 : Int32))), none] [some (.ref x0), some (.ref 13), some (.int x2), some (.int x3), some (.int (x4 + (1 : Int32))), some (.int r3)] from ⟨rfl, ⟨rfl, ⟨rfl, ⟨rfl, ⟨rfl, ⟨(fun v hv => by cases hv; rfl), trivial⟩⟩⟩⟩⟩⟩) ?_
        exact hrc7 x0 x2 x3 (x4 + (1 : Int32)) C3 _ _ hf
      · have hf := a_be hb hf
        refine v_ie hb ?_
        refine v_blk 3 (i' := (bif (a_ic .ge x4 x2) then 26 else 24)) (L' := [some (.ref x0), some (.ref 13), some (.int x2), some (.int x3), some (.int x4), some (.int r3)]) (st' := []) (h' := (hX C3 P vl kp Mo R)) (fun _ => rfl) ?_
        rcases Bool.eq_false_or_eq_true (a_ic .ge x4 x2) with hb | hb
        · have hf := a_bt hb hf
          refine v_it hb ?_
          refine v_blk 2 (i' := 7) (L' := [some (.ref x0), some (.ref 13), some (.int x2), some (.int x3), some (.int (x4 + (1 : Int32))), some (.int r3)]) (st' := []) (h' := (hX C3 P vl kp Mo R)) (fun _ => rfl) ?_
          refine v_weak (L' := [some (.ref x0), some (.ref 13), some (.int x2), some (.int x3), some (.int (x4 + (1 : Int32))), none]) (show a_wk [some (.ref x0), some (.ref 13), some (.int x2), some (.int x3), some (.int (x4 + (1 : Int32))), none] [some (.ref x0), some (.ref 13), some (.int x2), some (.int x3), some (.int (x4 + (1 : Int32))), some (.int r3)] from ⟨rfl, ⟨rfl, ⟨rfl, ⟨rfl, ⟨rfl, ⟨(fun v hv => by cases hv; rfl), trivial⟩⟩⟩⟩⟩⟩) ?_
          exact hrc7 x0 x2 x3 (x4 + (1 : Int32)) C3 _ _ hf
        · have hf := a_be hb hf
          refine v_ie hb ?_
          obtain ⟨rfl, rfl⟩ := m_rt hf
          exact v_ret 2 (fun _ => rfl) ⟨rfl, rfl⟩
theorem kt_59_7 {fz : Value} {sc : Nat × (Nat → Int32)} (hfz : fz = .null ∨ fz = .retAddr 60) (N : Nat) (P : Nat → Option Nat) (vl kp : Option Nat) (Mo : Nat → aC) (R : List aC) (d : Nat) (hd : 4 ≤ d) : ∀ (n : Nat) (x0 : Nat) (x2 : Int32) (x3 : Int32) (x4 : Int32) (C : mS) (r : Int32) (C' : mS) (hf : k_59_7 N P vl R n x0 x2 x3 x4 C = some (r, C')), v_V fz sc d 59 7 [some (.ref x0), some (.ref 13), some (.int x2), some (.int x3), some (.int x4), none] [] (hX C P vl kp Mo R) (fun rv h' => rv = some (.int r) ∧ h' = hX C' P vl kp Mo R) := by
  intro n
  induction n with
  | zero => intro x0 x2 x3 x4 C r C' hf; cases hf
  | succ n ih =>
    intro x0 x2 x3 x4 C r C' hf
    exact kt_59_7b hfz N P vl kp Mo R d hd (k_59_7 N P vl R n) ih x0 x2 x3 x4 C r C' hf
set_option maxRecDepth 100000 in
set_option maxHeartbeats 4000000 in
theorem kt_59 {fz : Value} {sc : Nat × (Nat → Int32)} (hfz : fz = .null ∨ fz = .retAddr 60) (N : Nat) (P : Nat → Option Nat) (vl kp : Option Nat) (Mo : Nat → aC) (R : List aC) (d : Nat) (hd : 4 ≤ d) (x0 : Nat) (x2 : Int32) (C : mS) (r : Int32) (C' : mS) (hf : k_59 N P vl R x0 x2 C = some (r, C')) : v_V fz sc d 59 0 [some (.ref x0), some (.ref 13), some (.int x2), none, none, none] [] (hX C P vl kp Mo R) (fun rv h' => rv = some (.int r) ∧ h' = hX C' P vl kp Mo R) := by
  unfold k_59 at hf
  obtain ⟨d, rfl⟩ : ∃ z, d = z + 1 := ⟨d - 1, by omega⟩
  obtain ⟨ci2, ka2, nu2, va2, ho_x0, hf⟩ := m_ob_ok hf
  obtain ⟨r1, C1, hc, hf⟩ := m_bd_ok hf
  refine v_blk 3 (i' := 3) (L' := [some (.ref x0), some (.ref 13), some (.int x2), none, none, none]) (st' := [(.int x2), (.ref 13), (.ref x0)]) (h' := (hX C P vl kp Mo R)) (fun _ => rfl) ?_
  refine v_s2 (E := [some (.ref x0), some (.ref 13), some (.int x2), none, none]) (rest := []) rfl rfl rfl (bdr_ok ho_x0) rfl rfl rfl ?_
  refine v_post (kt_34 hfz N P vl kp Mo R d (by omega) x0 x2 C _ _ hc) ?_
  rintro rv h' ⟨rfl, rfl⟩
  refine v_blk 3 (i' := 7) (L' := [some (.ref x0), some (.ref 13), some (.int x2), some (.int r1), some (.int (0 : Int32)), none]) (st' := []) (h' := (hX C1 P vl kp Mo R)) (fun _ => rfl) ?_
  exact kt_59_7 hfz N P vl kp Mo R (d + 1) hd N x0 x2 r1 (0 : Int32) C1 _ _ hf
set_option maxRecDepth 100000 in
set_option maxHeartbeats 4000000 in
theorem kt_27 {fz : Value} {sc : Nat × (Nat → Int32)} (hfz : fz = .null ∨ fz = .retAddr 60) (N : Nat) (P : Nat → Option Nat) (vl kp : Option Nat) (Mo : Nat → aC) (R : List aC) (d : Nat) (hd : 0 ≤ d) (x1 : Int32) (x2 : Int32) (C : mS) (r : Int32) (C' : mS) (hf : k_27 N P vl R x1 x2 C = some (r, C')) : v_V fz sc d 27 0 [some (.ref 13), some (.int x1), some (.int x2)] [] (hX C P vl kp Mo R) (fun rv h' => rv = some (.int r) ∧ h' = hX C' P vl kp Mo R) := by
  unfold k_27 at hf
  obtain ⟨hg, hf⟩ := a_bif hf
  refine v_grd 9 (i' := 9) (L' := [some (.ref 13), some (.int x1), some (.int x2)]) (st' := [(.int ((C 3) (((x1 * (4 : Int32)) + x2)).toNatClampNeg))]) (h' := (hX C P vl kp Mo R)) (fun _ => rfl) hg ?_
  obtain ⟨y1, hy, hf⟩ := m_li_ok hf
  rw [hy]
  obtain ⟨rfl, rfl⟩ := m_rt hf
  exact v_ret 1 (fun _ => rfl) ⟨rfl, rfl⟩
set_option maxRecDepth 100000 in
set_option maxHeartbeats 4000000 in
theorem kt_62 {fz : Value} {sc : Nat × (Nat → Int32)} (hfz : fz = .null ∨ fz = .retAddr 60) (N : Nat) (P : Nat → Option Nat) (vl kp : Option Nat) (Mo : Nat → aC) (R : List aC) (d : Nat) (hd : 1 ≤ d) (x0 : Nat) (x2 : Int32) (C : mS) (r : Int32) (C' : mS) (hf : k_62 N P vl R x0 x2 C = some (r, C')) : v_V fz sc d 62 0 [some (.ref x0), some (.ref 13), some (.int x2)] [] (hX C P vl kp Mo R) (fun rv h' => rv = some (.int r) ∧ h' = hX C' P vl kp Mo R) := by
  unfold k_62 at hf
  obtain ⟨d, rfl⟩ : ∃ z, d = z + 1 := ⟨d - 1, by omega⟩
  obtain ⟨ci1, ka1, nu1, va1, ho_x0, hf⟩ := m_ob_ok hf
  refine v_blk 2 (i' := 2) (L' := [some (.ref x0), some (.ref 13), some (.int x2)]) (st' := [(.ref x0), (.ref 13)]) (h' := (hX C P vl kp Mo R)) (fun _ => rfl) ?_
  obtain ⟨hg_x0_0_1_3_4_6_7_8, hf⟩ := a_bif hf
  refine v_gf rfl rfl rfl (bdr_ok ho_x0) rfl hg_x0_0_1_3_4_6_7_8 ?_
  obtain ⟨r2, C2, hc, hf⟩ := m_bd_ok hf
  refine v_call 2 (k' := 27) (i' := 5) (E := [some (.ref 13), some (.int nu1), some (.int x2)]) (L' := [some (.ref x0), some (.ref 13), some (.int x2)]) (rest := []) (h1 := (hX C P vl kp Mo R)) (fun _ => rfl) ?_
  refine v_post (kt_27 hfz N P vl kp Mo R d (by omega) nu1 x2 C _ _ hc) ?_
  rintro rv h' ⟨rfl, rfl⟩
  obtain ⟨rfl, rfl⟩ := m_rt hf
  exact v_ret 1 (fun _ => rfl) ⟨rfl, rfl⟩
set_option maxRecDepth 100000 in
set_option maxHeartbeats 4000000 in
theorem kt_13_10b {fz : Value} {sc : Nat × (Nat → Int32)} (hfz : fz = .null ∨ fz = .retAddr 60) (N : Nat) (P : Nat → Option Nat) (vl kp : Option Nat) (Mo : Nat → aC) (R : List aC) (d : Nat) (hd : 5 ≤ d) (rc10 : Int32 → Nat → Int32 → mS → Option (Int32 × mS)) (hrc10 : ∀ (x1 : Int32) (x2 : Nat) (x3 : Int32) (C : mS) (r : Int32) (C' : mS), rc10 x1 x2 x3 C = some (r, C') → v_V fz sc d 13 10 [some (.ref 13), some (.int x1), some (.ref x2), some (.int x3)] [] (hX C P vl kp Mo R) (fun rv h' => rv = none ∧ h' = hX C' P vl kp Mo R)) (x1 : Int32) (x2 : Nat) (x3 : Int32) (C : mS) (r : Int32) (C' : mS) (hf : k_13_10b N P vl R rc10 x1 x2 x3 C = some (r, C')) : v_V fz sc d 13 10 [some (.ref 13), some (.int x1), some (.ref x2), some (.int x3)] [] (hX C P vl kp Mo R) (fun rv h' => rv = none ∧ h' = hX C' P vl kp Mo R) := by
  unfold k_13_10b at hf
  obtain ⟨d, rfl⟩ : ∃ z, d = z + 1 := ⟨d - 1, by omega⟩
  refine v_blk 3 (i' := (bif (a_ic .ge x3 (4 : Int32)) then 23 else 13)) (L' := [some (.ref 13), some (.int x1), some (.ref x2), some (.int x3)]) (st' := []) (h' := (hX C P vl kp Mo R)) (fun _ => rfl) ?_
  rcases Bool.eq_false_or_eq_true (a_ic .ge x3 (4 : Int32)) with hb | hb
  · have hf := a_bt hb hf
    refine v_it hb ?_
    obtain ⟨rfl, rfl⟩ := m_rt hf
    exact v_ret 1 (fun _ => rfl) ⟨rfl, rfl⟩
  · have hf := a_be hb hf
    refine v_ie hb ?_
    obtain ⟨ci4, ka4, nu4, va4, ho_x2, hf⟩ := m_ob_ok hf
    obtain ⟨r3, C3, hc, hf⟩ := m_bd_ok hf
    refine v_blk 6 (i' := 19) (L' := [some (.ref 13), some (.int x1), some (.ref x2), some (.int x3)]) (st' := [(.int x3), (.ref 13), (.ref x2), (.int x3), (.int x1), (.ref 13)]) (h' := (hX C P vl kp Mo R)) (fun _ => rfl) ?_
    by_cases hb : ci4 = 0
    · rw [if_pos hb] at hc
      refine v_vc (E := [some (.ref x2), some (.ref 13), some (.int x3), none, none]) (rest := [(.int x3), (.int x1), (.ref 13)]) rfl rfl rfl (bdr_ok ho_x2) (by rw [hb]; rfl) rfl rfl rfl ?_
      refine v_post (kt_1 hfz N P vl kp Mo R d (by omega) x2 x3 C _ _ hc) ?_
      rintro rv h' ⟨rfl, rfl⟩
      obtain ⟨r5, C5, hc, hf⟩ := m_bd_ok hf
      refine v_call 1 (k' := 14) (i' := 21) (E := [some (.ref 13), some (.int x1), some (.int x3), some (.int r3)]) (L' := [some (.ref 13), some (.int x1), some (.ref x2), some (.int x3)]) (rest := []) (h1 := (hX C3 P vl kp Mo R)) (fun _ => rfl) ?_
      refine v_post (kt_14 hfz N P vl kp Mo R d (by omega) x1 x3 r3 C3 _ _ hc) ?_
      rintro rv h' ⟨rfl, rfl⟩
      refine v_blk 2 (i' := 10) (L' := [some (.ref 13), some (.int x1), some (.ref x2), some (.int (x3 + (1 : Int32)))]) (st' := []) (h' := (hX C5 P vl kp Mo R)) (fun _ => rfl) ?_
      exact hrc10 x1 x2 (x3 + (1 : Int32)) C5 _ _ hf
    rw [if_neg hb] at hc
    by_cases hb : ci4 = 1
    · rw [if_pos hb] at hc
      refine v_vc (E := [some (.ref x2), some (.ref 13), some (.int x3)]) (rest := [(.int x3), (.int x1), (.ref 13)]) rfl rfl rfl (bdr_ok ho_x2) (by rw [hb]; rfl) rfl rfl rfl ?_
      refine v_post (kt_4 hfz N P vl kp Mo R d (by omega) x2 x3 C _ _ hc) ?_
      rintro rv h' ⟨rfl, rfl⟩
      obtain ⟨r5, C5, hc, hf⟩ := m_bd_ok hf
      refine v_call 1 (k' := 14) (i' := 21) (E := [some (.ref 13), some (.int x1), some (.int x3), some (.int r3)]) (L' := [some (.ref 13), some (.int x1), some (.ref x2), some (.int x3)]) (rest := []) (h1 := (hX C3 P vl kp Mo R)) (fun _ => rfl) ?_
      refine v_post (kt_14 hfz N P vl kp Mo R d (by omega) x1 x3 r3 C3 _ _ hc) ?_
      rintro rv h' ⟨rfl, rfl⟩
      refine v_blk 2 (i' := 10) (L' := [some (.ref 13), some (.int x1), some (.ref x2), some (.int (x3 + (1 : Int32)))]) (st' := []) (h' := (hX C5 P vl kp Mo R)) (fun _ => rfl) ?_
      exact hrc10 x1 x2 (x3 + (1 : Int32)) C5 _ _ hf
    rw [if_neg hb] at hc
    by_cases hb : ci4 = 3
    · rw [if_pos hb] at hc
      refine v_vc (E := [some (.ref x2), some (.ref 13), some (.int x3), none, none]) (rest := [(.int x3), (.int x1), (.ref 13)]) rfl rfl rfl (bdr_ok ho_x2) (by rw [hb]; rfl) rfl rfl rfl ?_
      refine v_post (kt_34 hfz N P vl kp Mo R d (by omega) x2 x3 C _ _ hc) ?_
      rintro rv h' ⟨rfl, rfl⟩
      obtain ⟨r5, C5, hc, hf⟩ := m_bd_ok hf
      refine v_call 1 (k' := 14) (i' := 21) (E := [some (.ref 13), some (.int x1), some (.int x3), some (.int r3)]) (L' := [some (.ref 13), some (.int x1), some (.ref x2), some (.int x3)]) (rest := []) (h1 := (hX C3 P vl kp Mo R)) (fun _ => rfl) ?_
      refine v_post (kt_14 hfz N P vl kp Mo R d (by omega) x1 x3 r3 C3 _ _ hc) ?_
      rintro rv h' ⟨rfl, rfl⟩
      refine v_blk 2 (i' := 10) (L' := [some (.ref 13), some (.int x1), some (.ref x2), some (.int (x3 + (1 : Int32)))]) (st' := []) (h' := (hX C5 P vl kp Mo R)) (fun _ => rfl) ?_
      exact hrc10 x1 x2 (x3 + (1 : Int32)) C5 _ _ hf
    rw [if_neg hb] at hc
    by_cases hb : ci4 = 4
    · rw [if_pos hb] at hc
      refine v_vc (E := [some (.ref x2), some (.ref 13), some (.int x3), none]) (rest := [(.int x3), (.int x1), (.ref 13)]) rfl rfl rfl (bdr_ok ho_x2) (by rw [hb]; rfl) rfl rfl rfl ?_
      refine v_post (kt_37 hfz N P vl kp Mo R d (by omega) x2 x3 C _ _ hc) ?_
      rintro rv h' ⟨rfl, rfl⟩
      obtain ⟨r5, C5, hc, hf⟩ := m_bd_ok hf
      refine v_call 1 (k' := 14) (i' := 21) (E := [some (.ref 13), some (.int x1), some (.int x3), some (.int r3)]) (L' := [some (.ref 13), some (.int x1), some (.ref x2), some (.int x3)]) (rest := []) (h1 := (hX C3 P vl kp Mo R)) (fun _ => rfl) ?_
      refine v_post (kt_14 hfz N P vl kp Mo R d (by omega) x1 x3 r3 C3 _ _ hc) ?_
      rintro rv h' ⟨rfl, rfl⟩
      refine v_blk 2 (i' := 10) (L' := [some (.ref 13), some (.int x1), some (.ref x2), some (.int (x3 + (1 : Int32)))]) (st' := []) (h' := (hX C5 P vl kp Mo R)) (fun _ => rfl) ?_
      exact hrc10 x1 x2 (x3 + (1 : Int32)) C5 _ _ hf
    rw [if_neg hb] at hc
    by_cases hb : ci4 = 6
    · rw [if_pos hb] at hc
      refine v_vc (E := [some (.ref x2), some (.ref 13), some (.int x3)]) (rest := [(.int x3), (.int x1), (.ref 13)]) rfl rfl rfl (bdr_ok ho_x2) (by rw [hb]; rfl) rfl rfl rfl ?_
      refine v_post (kt_56 hfz N P vl kp Mo R d (by omega) x2 x3 C _ _ hc) ?_
      rintro rv h' ⟨rfl, rfl⟩
      obtain ⟨r5, C5, hc, hf⟩ := m_bd_ok hf
      refine v_call 1 (k' := 14) (i' := 21) (E := [some (.ref 13), some (.int x1), some (.int x3), some (.int r3)]) (L' := [some (.ref 13), some (.int x1), some (.ref x2), some (.int x3)]) (rest := []) (h1 := (hX C3 P vl kp Mo R)) (fun _ => rfl) ?_
      refine v_post (kt_14 hfz N P vl kp Mo R d (by omega) x1 x3 r3 C3 _ _ hc) ?_
      rintro rv h' ⟨rfl, rfl⟩
      refine v_blk 2 (i' := 10) (L' := [some (.ref 13), some (.int x1), some (.ref x2), some (.int (x3 + (1 : Int32)))]) (st' := []) (h' := (hX C5 P vl kp Mo R)) (fun _ => rfl) ?_
      exact hrc10 x1 x2 (x3 + (1 : Int32)) C5 _ _ hf
    rw [if_neg hb] at hc
    by_cases hb : ci4 = 7
    · rw [if_pos hb] at hc
      refine v_vc (E := [some (.ref x2), some (.ref 13), some (.int x3), none, none, none]) (rest := [(.int x3), (.int x1), (.ref 13)]) rfl rfl rfl (bdr_ok ho_x2) (by rw [hb]; rfl) rfl rfl rfl ?_
      refine v_post (kt_59 hfz N P vl kp Mo R d (by omega) x2 x3 C _ _ hc) ?_
      rintro rv h' ⟨rfl, rfl⟩
      obtain ⟨r5, C5, hc, hf⟩ := m_bd_ok hf
      refine v_call 1 (k' := 14) (i' := 21) (E := [some (.ref 13), some (.int x1), some (.int x3), some (.int r3)]) (L' := [some (.ref 13), some (.int x1), some (.ref x2), some (.int x3)]) (rest := []) (h1 := (hX C3 P vl kp Mo R)) (fun _ => rfl) ?_
      refine v_post (kt_14 hfz N P vl kp Mo R d (by omega) x1 x3 r3 C3 _ _ hc) ?_
      rintro rv h' ⟨rfl, rfl⟩
      refine v_blk 2 (i' := 10) (L' := [some (.ref 13), some (.int x1), some (.ref x2), some (.int (x3 + (1 : Int32)))]) (st' := []) (h' := (hX C5 P vl kp Mo R)) (fun _ => rfl) ?_
      exact hrc10 x1 x2 (x3 + (1 : Int32)) C5 _ _ hf
    rw [if_neg hb] at hc
    by_cases hb : ci4 = 8
    · rw [if_pos hb] at hc
      refine v_vc (E := [some (.ref x2), some (.ref 13), some (.int x3)]) (rest := [(.int x3), (.int x1), (.ref 13)]) rfl rfl rfl (bdr_ok ho_x2) (by rw [hb]; rfl) rfl rfl rfl ?_
      refine v_post (kt_62 hfz N P vl kp Mo R d (by omega) x2 x3 C _ _ hc) ?_
      rintro rv h' ⟨rfl, rfl⟩
      obtain ⟨r5, C5, hc, hf⟩ := m_bd_ok hf
      refine v_call 1 (k' := 14) (i' := 21) (E := [some (.ref 13), some (.int x1), some (.int x3), some (.int r3)]) (L' := [some (.ref 13), some (.int x1), some (.ref x2), some (.int x3)]) (rest := []) (h1 := (hX C3 P vl kp Mo R)) (fun _ => rfl) ?_
      refine v_post (kt_14 hfz N P vl kp Mo R d (by omega) x1 x3 r3 C3 _ _ hc) ?_
      rintro rv h' ⟨rfl, rfl⟩
      refine v_blk 2 (i' := 10) (L' := [some (.ref 13), some (.int x1), some (.ref x2), some (.int (x3 + (1 : Int32)))]) (st' := []) (h' := (hX C5 P vl kp Mo R)) (fun _ => rfl) ?_
      exact hrc10 x1 x2 (x3 + (1 : Int32)) C5 _ _ hf
    rw [if_neg hb] at hc
    cases hc
theorem kt_13_10 {fz : Value} {sc : Nat × (Nat → Int32)} (hfz : fz = .null ∨ fz = .retAddr 60) (N : Nat) (P : Nat → Option Nat) (vl kp : Option Nat) (Mo : Nat → aC) (R : List aC) (d : Nat) (hd : 5 ≤ d) : ∀ (n : Nat) (x1 : Int32) (x2 : Nat) (x3 : Int32) (C : mS) (r : Int32) (C' : mS) (hf : k_13_10 N P vl R n x1 x2 x3 C = some (r, C')), v_V fz sc d 13 10 [some (.ref 13), some (.int x1), some (.ref x2), some (.int x3)] [] (hX C P vl kp Mo R) (fun rv h' => rv = none ∧ h' = hX C' P vl kp Mo R) := by
  intro n
  induction n with
  | zero => intro x1 x2 x3 C r C' hf; cases hf
  | succ n ih =>
    intro x1 x2 x3 C r C' hf
    exact kt_13_10b hfz N P vl kp Mo R d hd (k_13_10 N P vl R n) ih x1 x2 x3 C r C' hf
set_option maxRecDepth 100000 in
set_option maxHeartbeats 4000000 in
theorem kt_13 {fz : Value} {sc : Nat × (Nat → Int32)} (hfz : fz = .null ∨ fz = .retAddr 60) (N : Nat) (P : Nat → Option Nat) (vl kp : Option Nat) (Mo : Nat → aC) (R : List aC) (d : Nat) (hd : 5 ≤ d) (x1 : Int32) (C : mS) (r : Int32) (C' : mS) (hf : k_13 N P vl R x1 C = some (r, C')) : v_V fz sc d 13 0 [some (.ref 13), some (.int x1), none, none] [] (hX C P vl kp Mo R) (fun rv h' => rv = none ∧ h' = hX C' P vl kp Mo R) := by
  unfold k_13 at hf
  obtain ⟨d, rfl⟩ : ∃ z, d = z + 1 := ⟨d - 1, by omega⟩
  obtain ⟨r1, C1, hc, hf⟩ := m_bd_ok hf
  refine v_call 4 (k' := 70) (i' := 4) (E := [some (.ref 1), some (.int x1)]) (L' := [some (.ref 13), some (.int x1), none, none]) (rest := []) (h1 := (hX C P vl kp Mo R)) (fun _ => rfl) ?_
  refine v_post (kt_70 hfz N P vl kp Mo R d (by omega) x1 C _ _ hc) ?_
  rintro rv h' ⟨rfl, rfl⟩
  rcases m_op_ok hf with ⟨ho2, hf⟩ | ⟨a2, ho2, hf⟩
  · refine v_on ho2 ?_
    obtain ⟨rfl, rfl⟩ := m_rt hf
    exact v_ret 4 (fun _ => rfl) ⟨rfl, rfl⟩
  · refine v_os ho2 ?_
    refine v_blk 5 (i' := 10) (L' := [some (.ref 13), some (.int x1), some (.ref a2), some (.int (0 : Int32))]) (st' := []) (h' := (hX C1 P vl kp Mo R)) (fun _ => rfl) ?_
    exact kt_13_10 hfz N P vl kp Mo R (d + 1) hd N x1 a2 (0 : Int32) C1 _ _ hf
set_option maxRecDepth 100000 in
set_option maxHeartbeats 4000000 in
theorem kt_73 {fz : Value} {sc : Nat × (Nat → Int32)} (hfz : fz = .null ∨ fz = .retAddr 60) (N : Nat) (P : Nat → Option Nat) (vl kp : Option Nat) (Mo : Nat → aC) (R : List aC) (d : Nat) (hd : 0 ≤ d) (x1 : Int32) (C : mS) (r : Int32) (C' : mS) (hf : k_73 N P vl R x1 C = some (r, C')) : v_V fz sc d 73 0 [some (.ref 1), some (.int x1)] [] (hX C P vl kp Mo R) (fun rv h' => rv = some (.int r) ∧ h' = hX C' P vl kp Mo R) := by
  unfold k_73 at hf
  refine v_blk 2 (i' := (bif (a_ic .lt x1 (0 : Int32)) then 11 else 2)) (L' := [some (.ref 1), some (.int x1)]) (st' := []) (h' := (hX C P vl kp Mo R)) (fun _ => rfl) ?_
  rcases Bool.eq_false_or_eq_true (a_ic .lt x1 (0 : Int32)) with hb | hb
  · have hf := a_bt hb hf
    refine v_it hb ?_
    obtain ⟨rfl, rfl⟩ := m_rt hf
    exact v_ret 2 (fun _ => rfl) ⟨rfl, rfl⟩
  · have hf := a_be hb hf
    refine v_ie hb ?_
    refine v_blk 4 (i' := (bif (a_ic .ge x1 (C 90 7)) then 11 else 6)) (L' := [some (.ref 1), some (.int x1)]) (st' := []) (h' := (hX C P vl kp Mo R)) (fun _ => rfl) ?_
    rcases Bool.eq_false_or_eq_true (a_ic .ge x1 (C 90 7)) with hb | hb
    · have hf := a_bt hb hf
      refine v_it hb ?_
      obtain ⟨rfl, rfl⟩ := m_rt hf
      exact v_ret 2 (fun _ => rfl) ⟨rfl, rfl⟩
    · have hf := a_be hb hf
      refine v_ie hb ?_
      obtain ⟨hg, hf⟩ := a_bif hf
      refine v_grd 4 (i' := 10) (L' := [some (.ref 1), some (.int x1)]) (st' := [(.int ((C 1) (x1).toNatClampNeg))]) (h' := (hX C P vl kp Mo R)) (fun _ => rfl) hg ?_
      obtain ⟨y1, hy, hf⟩ := m_li_ok hf
      rw [hy]
      obtain ⟨rfl, rfl⟩ := m_rt hf
      exact v_ret 2 (fun _ => rfl) ⟨rfl, rfl⟩
set_option maxRecDepth 100000 in
set_option maxHeartbeats 4000000 in
theorem kt_20 {fz : Value} {sc : Nat × (Nat → Int32)} (hfz : fz = .null ∨ fz = .retAddr 60) (N : Nat) (P : Nat → Option Nat) (vl kp : Option Nat) (Mo : Nat → aC) (R : List aC) (d : Nat) (hd : 1 ≤ d) (C : mS) (r : Int32) (C' : mS) (hf : k_20 N P vl R  C = some (r, C')) : v_V fz sc d 20 0 [some (.ref 13)] [] (hX C P vl kp Mo R) (fun rv h' => rv = some (.int r) ∧ h' = hX C' P vl kp Mo R) := by
  unfold k_20 at hf
  obtain ⟨d, rfl⟩ : ∃ z, d = z + 1 := ⟨d - 1, by omega⟩
  obtain ⟨r1, C1, hc, hf⟩ := m_bd_ok hf
  refine v_call 5 (k' := 73) (i' := 5) (E := [some (.ref 1), some (.int (C 92 6))]) (L' := [some (.ref 13)]) (rest := []) (h1 := (hX C P vl kp Mo R)) (fun _ => rfl) ?_
  refine v_post (kt_73 hfz N P vl kp Mo R d (by omega) (C 92 6) C _ _ hc) ?_
  rintro rv h' ⟨rfl, rfl⟩
  obtain ⟨rfl, rfl⟩ := m_rt hf
  exact v_ret 1 (fun _ => rfl) ⟨rfl, rfl⟩
set_option maxRecDepth 100000 in
set_option maxHeartbeats 4000000 in
theorem kt_15_58 {fz : Value} {sc : Nat × (Nat → Int32)} (hfz : fz = .null ∨ fz = .retAddr 60) (N : Nat) (P : Nat → Option Nat) (vl kp : Option Nat) (Mo : Nat → aC) (R : List aC) (d : Nat) (hd : 2 ≤ d) (x1 : Int32) (t1 : Int32) (C : mS) (r : Int32) (C' : mS) (hf : k_15_58 N P vl R x1 t1 C = some (r, C')) : v_V fz sc d 15 58 [some (.ref 13), some (.int x1), none, none] [(.int t1), (.ref 13)] (hX C P vl kp Mo R) (fun rv h' => rv = none ∧ h' = hX C' P vl kp Mo R) := by
  unfold k_15_58 at hf
  obtain ⟨d, rfl⟩ : ∃ z, d = z + 1 := ⟨d - 1, by omega⟩
  obtain ⟨hg, hf⟩ := a_bif hf
  refine v_grd 1 (i' := 59) (L' := [some (.ref 13), some (.int x1), none, none]) (st' := []) (h' := (hX (va_up C 92 (upd (C 92) 5 t1)) P vl kp Mo R)) (fun _ => rfl) hg ?_
  obtain ⟨C3, hA, hf⟩ := m_st_ok hf
  rw [hA]
  refine v_blk 4 (i' := (bif (a_ic .eq (C3 92 5) (0 : Int32)) then 65 else 63)) (L' := [some (.ref 13), some (.int x1), none, none]) (st' := [(.ref 13)]) (h' := (hX C3 P vl kp Mo R)) (fun _ => rfl) ?_
  rcases Bool.eq_false_or_eq_true (a_ic .eq (C3 92 5) (0 : Int32)) with hb | hb
  · have hf := a_bt hb hf
    refine v_it hb ?_
    obtain ⟨r4, C4, hc, hf⟩ := m_bd_ok hf
    refine v_call 2 (k' := 20) (i' := 67) (E := [some (.ref 13)]) (L' := [some (.ref 13), some (.int x1), none, none]) (rest := [(.ref 13)]) (h1 := (hX C3 P vl kp Mo R)) (fun _ => rfl) ?_
    refine v_post (kt_20 hfz N P vl kp Mo R d (by omega)  C3 _ _ hc) ?_
    rintro rv h' ⟨rfl, rfl⟩
    obtain ⟨rfl, rfl⟩ := m_rt hf
    exact v_ret 2 (fun _ => rfl) ⟨rfl, rfl⟩
  · have hf := a_be hb hf
    refine v_ie hb ?_
    obtain ⟨rfl, rfl⟩ := m_rt hf
    exact v_ret 4 (fun _ => rfl) ⟨rfl, rfl⟩
set_option maxRecDepth 100000 in
set_option maxHeartbeats 4000000 in
theorem kt_15_14b {fz : Value} {sc : Nat × (Nat → Int32)} (hfz : fz = .null ∨ fz = .retAddr 60) (N : Nat) (P : Nat → Option Nat) (vl kp : Option Nat) (Mo : Nat → aC) (R : List aC) (d : Nat) (hd : 2 ≤ d) (rc4 : Int32 → Int32 → mS → Option (Int32 × mS)) (hrc4 : ∀ (x1 : Int32) (x2 : Int32) (C : mS) (r : Int32) (C' : mS), rc4 x1 x2 C = some (r, C') → v_V fz sc d 15 4 [some (.ref 13), some (.int x1), some (.int x2), none] [] (hX C P vl kp Mo R) (fun rv h' => rv = none ∧ h' = hX C' P vl kp Mo R)) (rc14 : Int32 → Int32 → Int32 → mS → Option (Int32 × mS)) (hrc14 : ∀ (x1 : Int32) (x2 : Int32) (x3 : Int32) (C : mS) (r : Int32) (C' : mS), rc14 x1 x2 x3 C = some (r, C') → v_V fz sc d 15 14 [some (.ref 13), some (.int x1), some (.int x2), some (.int x3)] [] (hX C P vl kp Mo R) (fun rv h' => rv = none ∧ h' = hX C' P vl kp Mo R)) (x1 : Int32) (x2 : Int32) (x3 : Int32) (C : mS) (r : Int32) (C' : mS) (hf : k_15_14b N P vl R rc4 rc14 x1 x2 x3 C = some (r, C')) : v_V fz sc d 15 14 [some (.ref 13), some (.int x1), some (.int x2), some (.int x3)] [] (hX C P vl kp Mo R) (fun rv h' => rv = none ∧ h' = hX C' P vl kp Mo R) := by
  unfold k_15_14b at hf
  obtain ⟨d, rfl⟩ : ∃ z, d = z + 1 := ⟨d - 1, by omega⟩
  refine v_blk 5 (i' := (bif (a_ic .ge x3 (C 90 12)) then 36 else 19)) (L' := [some (.ref 13), some (.int x1), some (.int x2), some (.int x3)]) (st' := []) (h' := (hX C P vl kp Mo R)) (fun _ => rfl) ?_
  rcases Bool.eq_false_or_eq_true (a_ic .ge x3 (C 90 12)) with hb | hb
  · have hf := a_bt hb hf
    refine v_it hb ?_
    obtain ⟨hg, hf⟩ := a_bif hf
    refine v_grd 4 (i' := 40) (L' := [some (.ref 13), some (.int x1), some (.int x2), some (.int x3)]) (st' := [(.int ((C 11) (x2).toNatClampNeg))]) (h' := (hX C P vl kp Mo R)) (fun _ => rfl) hg ?_
    obtain ⟨y5, hy, hf⟩ := m_li_ok hf
    rw [hy]
    obtain ⟨hg, hf⟩ := a_bif hf
    refine v_grd 4 (i' := 44) (L' := [some (.ref 13), some (.int x1), some (.int x2), some (.int x3)]) (st' := [(.int ((C 11) (x1).toNatClampNeg)), (.int y5)]) (h' := (hX C P vl kp Mo R)) (fun _ => rfl) hg ?_
    obtain ⟨y6, hy, hf⟩ := m_li_ok hf
    rw [hy]
    refine v_blk 1 (i' := (bif (a_ic .le y5 y6) then 47 else 45)) (L' := [some (.ref 13), some (.int x1), some (.int x2), some (.int x3)]) (st' := []) (h' := (hX C P vl kp Mo R)) (fun _ => rfl) ?_
    rcases Bool.eq_false_or_eq_true (a_ic .le y5 y6) with hb | hb
    · have hf := a_bt hb hf
      refine v_it hb ?_
      refine v_blk 2 (i' := 4) (L' := [some (.ref 13), some (.int x1), some (.int (x2 + (1 : Int32))), some (.int x3)]) (st' := []) (h' := (hX C P vl kp Mo R)) (fun _ => rfl) ?_
      refine v_weak (L' := [some (.ref 13), some (.int x1), some (.int (x2 + (1 : Int32))), none]) (show a_wk [some (.ref 13), some (.int x1), some (.int (x2 + (1 : Int32))), none] [some (.ref 13), some (.int x1), some (.int (x2 + (1 : Int32))), some (.int x3)] from ⟨rfl, ⟨rfl, ⟨rfl, ⟨(fun v hv => by cases hv; rfl), trivial⟩⟩⟩⟩) ?_
      exact hrc4 x1 (x2 + (1 : Int32)) C _ _ hf
    · have hf := a_be hb hf
      refine v_ie hb ?_
      refine v_blk 4 (i' := 4) (L' := [some (.ref 13), some (.int x2), some (.int (x2 + (1 : Int32))), some (.int x3)]) (st' := []) (h' := (hX C P vl kp Mo R)) (fun _ => rfl) ?_
      refine v_weak (L' := [some (.ref 13), some (.int x2), some (.int (x2 + (1 : Int32))), none]) (show a_wk [some (.ref 13), some (.int x2), some (.int (x2 + (1 : Int32))), none] [some (.ref 13), some (.int x2), some (.int (x2 + (1 : Int32))), some (.int x3)] from ⟨rfl, ⟨rfl, ⟨rfl, ⟨(fun v hv => by cases hv; rfl), trivial⟩⟩⟩⟩) ?_
      exact hrc4 x2 (x2 + (1 : Int32)) C _ _ hf
  · have hf := a_be hb hf
    refine v_ie hb ?_
    obtain ⟨hg, hf⟩ := a_bif hf
    refine v_grd 5 (i' := 24) (L' := [some (.ref 13), some (.int x1), some (.int x2), some (.int x3)]) (st' := [(.int ((C 11) (x2).toNatClampNeg)), (.int x2), (.ref 16)]) (h' := (hX C P vl kp Mo R)) (fun _ => rfl) hg ?_
    obtain ⟨y7, hy, hf⟩ := m_li_ok hf
    rw [hy]
    obtain ⟨hg, hf⟩ := a_bif hf
    refine v_grd 8 (i' := 32) (L' := [some (.ref 13), some (.int x1), some (.int x2), some (.int x3)]) (st' := [(.int ((C 10) (((x3 * (4 : Int32)) + x2)).toNatClampNeg)), (.int y7), (.int x2), (.ref 16)]) (h' := (hX C P vl kp Mo R)) (fun _ => rfl) hg ?_
    obtain ⟨y8, hy, hf⟩ := m_li_ok hf
    rw [hy]
    obtain ⟨hg, hf⟩ := a_bif hf
    refine v_grd 2 (i' := 34) (L' := [some (.ref 13), some (.int x1), some (.int x2), some (.int x3)]) (st' := []) (h' := (hX (va_up C 11 (upd (C 11) (x2).toNatClampNeg (y7 + y8))) P vl kp Mo R)) (fun _ => rfl) hg ?_
    obtain ⟨C9, hA, hf⟩ := m_st_ok hf
    rw [hA]
    refine v_blk 2 (i' := 14) (L' := [some (.ref 13), some (.int x1), some (.int x2), some (.int (x3 + (1 : Int32)))]) (st' := []) (h' := (hX C9 P vl kp Mo R)) (fun _ => rfl) ?_
    exact hrc14 x1 x2 (x3 + (1 : Int32)) C9 _ _ hf
theorem kt_15_14 {fz : Value} {sc : Nat × (Nat → Int32)} (hfz : fz = .null ∨ fz = .retAddr 60) (N : Nat) (P : Nat → Option Nat) (vl kp : Option Nat) (Mo : Nat → aC) (R : List aC) (d : Nat) (hd : 2 ≤ d) (rc4 : Int32 → Int32 → mS → Option (Int32 × mS)) (hrc4 : ∀ (x1 : Int32) (x2 : Int32) (C : mS) (r : Int32) (C' : mS), rc4 x1 x2 C = some (r, C') → v_V fz sc d 15 4 [some (.ref 13), some (.int x1), some (.int x2), none] [] (hX C P vl kp Mo R) (fun rv h' => rv = none ∧ h' = hX C' P vl kp Mo R)) : ∀ (n : Nat) (x1 : Int32) (x2 : Int32) (x3 : Int32) (C : mS) (r : Int32) (C' : mS) (hf : k_15_14 N P vl R rc4 n x1 x2 x3 C = some (r, C')), v_V fz sc d 15 14 [some (.ref 13), some (.int x1), some (.int x2), some (.int x3)] [] (hX C P vl kp Mo R) (fun rv h' => rv = none ∧ h' = hX C' P vl kp Mo R) := by
  intro n
  induction n with
  | zero => intro x1 x2 x3 C r C' hf; cases hf
  | succ n ih =>
    intro x1 x2 x3 C r C' hf
    exact kt_15_14b hfz N P vl kp Mo R d hd rc4 hrc4 (k_15_14 N P vl R rc4 n) ih x1 x2 x3 C r C' hf
set_option maxRecDepth 100000 in
set_option maxHeartbeats 4000000 in
theorem kt_15_4b {fz : Value} {sc : Nat × (Nat → Int32)} (hfz : fz = .null ∨ fz = .retAddr 60) (N : Nat) (P : Nat → Option Nat) (vl kp : Option Nat) (Mo : Nat → aC) (R : List aC) (d : Nat) (hd : 2 ≤ d) (rc4 : Int32 → Int32 → mS → Option (Int32 × mS)) (hrc4 : ∀ (x1 : Int32) (x2 : Int32) (C : mS) (r : Int32) (C' : mS), rc4 x1 x2 C = some (r, C') → v_V fz sc d 15 4 [some (.ref 13), some (.int x1), some (.int x2), none] [] (hX C P vl kp Mo R) (fun rv h' => rv = none ∧ h' = hX C' P vl kp Mo R)) (x1 : Int32) (x2 : Int32) (C : mS) (r : Int32) (C' : mS) (hf : k_15_4b N P vl R rc4 x1 x2 C = some (r, C')) : v_V fz sc d 15 4 [some (.ref 13), some (.int x1), some (.int x2), none] [] (hX C P vl kp Mo R) (fun rv h' => rv = none ∧ h' = hX C' P vl kp Mo R) := by
  unfold k_15_4b at hf
  obtain ⟨d, rfl⟩ : ∃ z, d = z + 1 := ⟨d - 1, by omega⟩
  refine v_blk 3 (i' := (bif (a_ic .ge x2 (4 : Int32)) then 49 else 7)) (L' := [some (.ref 13), some (.int x1), some (.int x2), none]) (st' := []) (h' := (hX C P vl kp Mo R)) (fun _ => rfl) ?_
  rcases Bool.eq_false_or_eq_true (a_ic .ge x2 (4 : Int32)) with hb | hb
  · have hf := a_bt hb hf
    refine v_it hb ?_
    obtain ⟨hg, hf⟩ := a_bif hf
    refine v_grd 5 (i' := 54) (L' := [some (.ref 13), some (.int x1), some (.int x2), none]) (st' := [(.int ((C 11) (x1).toNatClampNeg)), (.ref 13)]) (h' := (hX C P vl kp Mo R)) (fun _ => rfl) hg ?_
    obtain ⟨y1, hy, hf⟩ := m_li_ok hf
    rw [hy]
    refine v_blk 1 (i' := (bif (a_ic .le y1 (0 : Int32)) then 57 else 55)) (L' := [some (.ref 13), some (.int x1), some (.int x2), none]) (st' := [(.ref 13)]) (h' := (hX C P vl kp Mo R)) (fun _ => rfl) ?_
    rcases Bool.eq_false_or_eq_true (a_ic .le y1 (0 : Int32)) with hb | hb
    · have hf := a_bt hb hf
      refine v_it hb ?_
      refine v_blk 1 (i' := 58) (L' := [some (.ref 13), some (.int x1), some (.int x2), none]) (st' := [(.int (0 : Int32)), (.ref 13)]) (h' := (hX C P vl kp Mo R)) (fun _ => rfl) ?_
      refine v_weak (L' := [some (.ref 13), some (.int x1), none, none]) (show a_wk [some (.ref 13), some (.int x1), none, none] [some (.ref 13), some (.int x1), some (.int x2), none] from ⟨rfl, ⟨rfl, ⟨(fun v hv => by cases hv; rfl), ⟨(fun v hv => by cases hv), trivial⟩⟩⟩⟩) ?_
      exact kt_15_58 hfz N P vl kp Mo R (d + 1) hd x1 (0 : Int32) C _ _ hf
    · have hf := a_be hb hf
      refine v_ie hb ?_
      refine v_blk 2 (i' := 58) (L' := [some (.ref 13), some (.int x1), some (.int x2), none]) (st' := [(.int (1 : Int32)), (.ref 13)]) (h' := (hX C P vl kp Mo R)) (fun _ => rfl) ?_
      refine v_weak (L' := [some (.ref 13), some (.int x1), none, none]) (show a_wk [some (.ref 13), some (.int x1), none, none] [some (.ref 13), some (.int x1), some (.int x2), none] from ⟨rfl, ⟨rfl, ⟨(fun v hv => by cases hv; rfl), ⟨(fun v hv => by cases hv), trivial⟩⟩⟩⟩) ?_
      exact kt_15_58 hfz N P vl kp Mo R (d + 1) hd x1 (1 : Int32) C _ _ hf
  · have hf := a_be hb hf
    refine v_ie hb ?_
    obtain ⟨hg, hf⟩ := a_bif hf
    refine v_grd 5 (i' := 12) (L' := [some (.ref 13), some (.int x1), some (.int x2), none]) (st' := []) (h' := (hX (va_up C 11 (upd (C 11) (x2).toNatClampNeg (0 : Int32))) P vl kp Mo R)) (fun _ => rfl) hg ?_
    obtain ⟨C2, hA, hf⟩ := m_st_ok hf
    rw [hA]
    refine v_blk 2 (i' := 14) (L' := [some (.ref 13), some (.int x1), some (.int x2), some (.int (0 : Int32))]) (st' := []) (h' := (hX C2 P vl kp Mo R)) (fun _ => rfl) ?_
    exact kt_15_14 hfz N P vl kp Mo R (d + 1) hd rc4 hrc4 N x1 x2 (0 : Int32) C2 _ _ hf
theorem kt_15_4 {fz : Value} {sc : Nat × (Nat → Int32)} (hfz : fz = .null ∨ fz = .retAddr 60) (N : Nat) (P : Nat → Option Nat) (vl kp : Option Nat) (Mo : Nat → aC) (R : List aC) (d : Nat) (hd : 2 ≤ d) : ∀ (n : Nat) (x1 : Int32) (x2 : Int32) (C : mS) (r : Int32) (C' : mS) (hf : k_15_4 N P vl R n x1 x2 C = some (r, C')), v_V fz sc d 15 4 [some (.ref 13), some (.int x1), some (.int x2), none] [] (hX C P vl kp Mo R) (fun rv h' => rv = none ∧ h' = hX C' P vl kp Mo R) := by
  intro n
  induction n with
  | zero => intro x1 x2 C r C' hf; cases hf
  | succ n ih =>
    intro x1 x2 C r C' hf
    exact kt_15_4b hfz N P vl kp Mo R d hd (k_15_4 N P vl R n) ih x1 x2 C r C' hf
set_option maxRecDepth 100000 in
set_option maxHeartbeats 4000000 in
theorem kt_15 {fz : Value} {sc : Nat × (Nat → Int32)} (hfz : fz = .null ∨ fz = .retAddr 60) (N : Nat) (P : Nat → Option Nat) (vl kp : Option Nat) (Mo : Nat → aC) (R : List aC) (d : Nat) (hd : 2 ≤ d) (C : mS) (r : Int32) (C' : mS) (hf : k_15 N P vl R  C = some (r, C')) : v_V fz sc d 15 0 [some (.ref 13), none, none, none] [] (hX C P vl kp Mo R) (fun rv h' => rv = none ∧ h' = hX C' P vl kp Mo R) := by
  unfold k_15 at hf
  obtain ⟨d, rfl⟩ : ∃ z, d = z + 1 := ⟨d - 1, by omega⟩
  refine v_blk 4 (i' := 4) (L' := [some (.ref 13), some (.int (0 : Int32)), some (.int (0 : Int32)), none]) (st' := []) (h' := (hX C P vl kp Mo R)) (fun _ => rfl) ?_
  exact kt_15_4 hfz N P vl kp Mo R (d + 1) hd N (0 : Int32) (0 : Int32) C _ _ hf
