/-! 42.kthm, piece 0: runs of the class's methods are their mirrored functions (by program) -/
set_option maxRecDepth 100000 in
set_option maxHeartbeats 4000000 in
theorem kt_66_35 {fz : Value} {sc : Nat × (Nat → Int32)} (hfz : fz = .null ∨ fz = .retAddr 60) (N : Nat) (P : Nat → Option Nat) (vl kp : Option Nat) (Mo : Nat → aC) (R : List aC) (d : Nat) (hd : 0 ≤ d) (rc4 : Nat → Int32 → Int32 → Int32 → mS → Option (Int32 × mS)) (hrc4 : ∀ (x0 : Nat) (x2 : Int32) (x4 : Int32) (x5 : Int32) (C : mS) (r : Int32) (C' : mS), rc4 x0 x2 x4 x5 C = some (r, C') → v_V fz sc d 66 4 [some (.ref x0), none, some (.int x2), some (.ref 17), some (.int x4), some (.int x5), none, none, none, none] [] (hX C P vl kp Mo R) (fun rv h' => rv = some (.int r) ∧ h' = hX C' P vl kp Mo R)) (x0 : Nat) (x2 : Int32) (x4 : Int32) (x5 : Int32) (x6 : Int32) (t0 : Int32) (C : mS) (r : Int32) (C' : mS) (hf : k_66_35 N P vl R rc4 x0 x2 x4 x5 x6 t0 C = some (r, C')) : v_V fz sc d 66 35 [some (.ref x0), none, some (.int x2), some (.ref 17), some (.int x4), some (.int x5), some (.int x6), none, none, none] [(.int t0)] (hX C P vl kp Mo R) (fun rv h' => rv = some (.int r) ∧ h' = hX C' P vl kp Mo R) := by
  unfold k_66_35 at hf
  refine v_blk 7 (i' := 42) (L' := [some (.ref x0), none, some (.int x2), some (.ref 17), some (.int x4), some (.int x5), some (.int x6), none, none, some (.int t0)]) (st' := [(.int (x6 / (100 : Int32))), (.int (x4 <<< ((1 : Int32) &&& 31)))]) (h' := (hX C P vl kp Mo R)) (fun _ => rfl) ?_
  obtain ⟨y8, hy, hf⟩ := m_li_ok hf
  rw [hy]
  refine v_blk 2 (i' := 44) (L' := [some (.ref x0), none, some (.int x2), some (.ref 17), some (.int x4), some (.int x5), some (.int x6), none, none, some (.int t0)]) (st' := [(.int (y8 - y8 / (3 : Int32) * (3 : Int32))), (.int (x4 <<< ((1 : Int32) &&& 31)))]) (h' := (hX C P vl kp Mo R)) (fun _ => rfl) ?_
  obtain ⟨y9, hy, hf⟩ := m_li_ok hf
  rw [hy]
  refine v_blk 2 (i' := (bif (a_ic .ne y9 t0) then 48 else 46)) (L' := [some (.ref x0), none, some (.int x2), some (.ref 17), some (.int x4), some (.int x5), some (.int x6), none, none, some (.int t0)]) (st' := [(.int (x4 <<< ((1 : Int32) &&& 31)))]) (h' := (hX C P vl kp Mo R)) (fun _ => rfl) ?_
  rcases Bool.eq_false_or_eq_true (a_ic .ne y9 t0) with hb | hb
  · have hf := a_bt hb hf
    refine v_it hb ?_
    refine v_blk 6 (i' := 4) (L' := [some (.ref x0), none, some (.int x2), some (.ref 17), some (.int ((x4 <<< ((1 : Int32) &&& 31)) ||| (0 : Int32))), some (.int (x5 + (1 : Int32))), some (.int x6), none, none, some (.int t0)]) (st' := []) (h' := (hX C P vl kp Mo R)) (fun _ => rfl) ?_
    refine v_weak (L' := [some (.ref x0), none, some (.int x2), some (.ref 17), some (.int ((x4 <<< ((1 : Int32) &&& 31)) ||| (0 : Int32))), some (.int (x5 + (1 : Int32))), none, none, none, none]) (show a_wk [some (.ref x0), none, some (.int x2), some (.ref 17), some (.int ((x4 <<< ((1 : Int32) &&& 31)) ||| (0 : Int32))), some (.int (x5 + (1 : Int32))), none, none, none, none] [some (.ref x0), none, some (.int x2), some (.ref 17), some (.int ((x4 <<< ((1 : Int32) &&& 31)) ||| (0 : Int32))), some (.int (x5 + (1 : Int32))), some (.int x6), none, none, some (.int t0)] from ⟨rfl, ⟨(fun v hv => by cases hv), ⟨rfl, ⟨rfl, ⟨rfl, ⟨rfl, ⟨(fun v hv => by cases hv; rfl), ⟨(fun v hv => by cases hv), ⟨(fun v hv => by cases hv), ⟨(fun v hv => by cases hv; rfl), trivial⟩⟩⟩⟩⟩⟩⟩⟩⟩⟩) ?_
    exact hrc4 x0 x2 ((x4 <<< ((1 : Int32) &&& 31)) ||| (0 : Int32)) (x5 + (1 : Int32)) C _ _ hf
  · have hf := a_be hb hf
    refine v_ie hb ?_
    refine v_blk 7 (i' := 4) (L' := [some (.ref x0), none, some (.int x2), some (.ref 17), some (.int ((x4 <<< ((1 : Int32) &&& 31)) ||| (1 : Int32))), some (.int (x5 + (1 : Int32))), some (.int x6), none, none, some (.int t0)]) (st' := []) (h' := (hX C P vl kp Mo R)) (fun _ => rfl) ?_
    refine v_weak (L' := [some (.ref x0), none, some (.int x2), some (.ref 17), some (.int ((x4 <<< ((1 : Int32) &&& 31)) ||| (1 : Int32))), some (.int (x5 + (1 : Int32))), none, none, none, none]) (show a_wk [some (.ref x0), none, some (.int x2), some (.ref 17), some (.int ((x4 <<< ((1 : Int32) &&& 31)) ||| (1 : Int32))), some (.int (x5 + (1 : Int32))), none, none, none, none] [some (.ref x0), none, some (.int x2), some (.ref 17), some (.int ((x4 <<< ((1 : Int32) &&& 31)) ||| (1 : Int32))), some (.int (x5 + (1 : Int32))), some (.int x6), none, none, some (.int t0)] from ⟨rfl, ⟨(fun v hv => by cases hv), ⟨rfl, ⟨rfl, ⟨rfl, ⟨rfl, ⟨(fun v hv => by cases hv; rfl), ⟨(fun v hv => by cases hv), ⟨(fun v hv => by cases hv), ⟨(fun v hv => by cases hv; rfl), trivial⟩⟩⟩⟩⟩⟩⟩⟩⟩⟩) ?_
    exact hrc4 x0 x2 ((x4 <<< ((1 : Int32) &&& 31)) ||| (1 : Int32)) (x5 + (1 : Int32)) C _ _ hf
set_option maxRecDepth 100000 in
set_option maxHeartbeats 4000000 in
theorem kt_66_4b {fz : Value} {sc : Nat × (Nat → Int32)} (hfz : fz = .null ∨ fz = .retAddr 60) (N : Nat) (P : Nat → Option Nat) (vl kp : Option Nat) (Mo : Nat → aC) (R : List aC) (d : Nat) (hd : 0 ≤ d) (rc4 : Nat → Int32 → Int32 → Int32 → mS → Option (Int32 × mS)) (hrc4 : ∀ (x0 : Nat) (x2 : Int32) (x4 : Int32) (x5 : Int32) (C : mS) (r : Int32) (C' : mS), rc4 x0 x2 x4 x5 C = some (r, C') → v_V fz sc d 66 4 [some (.ref x0), none, some (.int x2), some (.ref 17), some (.int x4), some (.int x5), none, none, none, none] [] (hX C P vl kp Mo R) (fun rv h' => rv = some (.int r) ∧ h' = hX C' P vl kp Mo R)) (x0 : Nat) (x2 : Int32) (x4 : Int32) (x5 : Int32) (C : mS) (r : Int32) (C' : mS) (hf : k_66_4b N P vl R rc4 x0 x2 x4 x5 C = some (r, C')) : v_V fz sc d 66 4 [some (.ref x0), none, some (.int x2), some (.ref 17), some (.int x4), some (.int x5), none, none, none, none] [] (hX C P vl kp Mo R) (fun rv h' => rv = some (.int r) ∧ h' = hX C' P vl kp Mo R) := by
  unfold k_66_4b at hf
  refine v_blk 3 (i' := (bif (a_ic .ge x5 x2) then 83 else 7)) (L' := [some (.ref x0), none, some (.int x2), some (.ref 17), some (.int x4), some (.int x5), none, none, none, none]) (st' := []) (h' := (hX C P vl kp Mo R)) (fun _ => rfl) ?_
  rcases Bool.eq_false_or_eq_true (a_ic .ge x5 x2) with hb | hb
  · have hf := a_bt hb hf
    refine v_it hb ?_
    refine v_blk 5 (i' := (bif (a_ic .ne (x4 &&& (1 : Int32)) (1 : Int32)) then 90 else 88)) (L' := [some (.ref x0), none, some (.int x2), some (.ref 17), some (.int x4), some (.int x5), none, none, none, none]) (st' := []) (h' := (hX C P vl kp Mo R)) (fun _ => rfl) ?_
    rcases Bool.eq_false_or_eq_true (a_ic .ne (x4 &&& (1 : Int32)) (1 : Int32)) with hb | hb
    · have hf := a_bt hb hf
      refine v_it hb ?_
      obtain ⟨rfl, rfl⟩ := m_rt hf
      exact v_ret 2 (fun _ => rfl) ⟨rfl, rfl⟩
    · have hf := a_be hb hf
      refine v_ie hb ?_
      obtain ⟨rfl, rfl⟩ := m_rt hf
      exact v_ret 3 (fun _ => rfl) ⟨rfl, rfl⟩
  · have hf := a_be hb hf
    refine v_ie hb ?_
    obtain ⟨cr1, er1, ar1, ru1, gi1, ho_x0, hf⟩ := m_vo_ok hf
    refine v_blk 1 (i' := 8) (L' := [some (.ref x0), none, some (.int x2), some (.ref 17), some (.int x4), some (.int x5), none, none, none, none]) (st' := [(.ref x0)]) (h' := (hX C P vl kp Mo R)) (fun _ => rfl) ?_
    refine v_gf rfl rfl rfl (vly_ok ho_x0) rfl rfl ?_
    obtain ⟨n2, f2, ho_cr1, hf⟩ := m_ia_ok hf
    refine v_blk 1 (i' := 10) (L' := [some (.ref x0), none, some (.int x2), some (.ref 17), some (.int x4), some (.int x5), none, none, none, none]) (st' := [(.int x5), (.ref cr1)]) (h' := (hX C P vl kp Mo R)) (fun _ => rfl) ?_
    obtain ⟨hg, hf⟩ := a_bif hf
    refine v_il rfl rfl rfl (iar_ok ho_cr1) hg ?_
    obtain ⟨y3, hy, hf⟩ := m_li_ok hf
    rw [hy]
    refine v_blk 3 (i' := (bif (a_ic .lt y3 (0 : Int32)) then 52 else 14)) (L' := [some (.ref x0), none, some (.int x2), some (.ref 17), some (.int x4), some (.int x5), some (.int y3), none, none, none]) (st' := []) (h' := (hX C P vl kp Mo R)) (fun _ => rfl) ?_
    rcases Bool.eq_false_or_eq_true (a_ic .lt y3 (0 : Int32)) with hb | hb
    · have hf := a_bt hb hf
      refine v_it hb ?_
      refine v_blk 3 (i' := (bif (a_ic .ne y3 (-1 : Int32)) then 60 else 55)) (L' := [some (.ref x0), none, some (.int x2), some (.ref 17), some (.int x4), some (.int x5), some (.int y3), none, none, none]) (st' := []) (h' := (hX C P vl kp Mo R)) (fun _ => rfl) ?_
      rcases Bool.eq_false_or_eq_true (a_ic .ne y3 (-1 : Int32)) with hb | hb
      · have hf := a_bt hb hf
        refine v_it hb ?_
        refine v_blk 11 (i' := (bif (a_ic .ne y3 (-2 : Int32)) then 77 else 71)) (L' := [some (.ref x0), none, some (.int x2), some (.ref 17), some (.int (x4 >>> ((1 : Int32) &&& 31))), some (.int x5), some (.int y3), some (.int (x4 &&& (1 : Int32))), none, none]) (st' := []) (h' := (hX C P vl kp Mo R)) (fun _ => rfl) ?_
        rcases Bool.eq_false_or_eq_true (a_ic .ne y3 (-2 : Int32)) with hb | hb
        · have hf := a_bt hb hf
          refine v_it hb ?_
          refine v_blk 6 (i' := 4) (L' := [some (.ref x0), none, some (.int x2), some (.ref 17), some (.int ((x4 >>> ((1 : Int32) &&& 31)) ||| (x4 &&& (1 : Int32)))), some (.int (x5 + (1 : Int32))), some (.int y3), some (.int (x4 &&& (1 : Int32))), none, none]) (st' := []) (h' := (hX C P vl kp Mo R)) (fun _ => rfl) ?_
          refine v_weak (L' := [some (.ref x0), none, some (.int x2), some (.ref 17), some (.int ((x4 >>> ((1 : Int32) &&& 31)) ||| (x4 &&& (1 : Int32)))), some (.int (x5 + (1 : Int32))), none, none, none, none]) (show a_wk [some (.ref x0), none, some (.int x2), some (.ref 17), some (.int ((x4 >>> ((1 : Int32) &&& 31)) ||| (x4 &&& (1 : Int32)))), some (.int (x5 + (1 : Int32))), none, none, none, none] [some (.ref x0), none, some (.int x2), some (.ref 17), some (.int ((x4 >>> ((1 : Int32) &&& 31)) ||| (x4 &&& (1 : Int32)))), some (.int (x5 + (1 : Int32))), some (.int y3), some (.int (x4 &&& (1 : Int32))), none, none] from ⟨rfl, ⟨(fun v hv => by cases hv), ⟨rfl, ⟨rfl, ⟨rfl, ⟨rfl, ⟨(fun v hv => by cases hv; rfl), ⟨(fun v hv => by cases hv; rfl), ⟨(fun v hv => by cases hv), ⟨(fun v hv => by cases hv), trivial⟩⟩⟩⟩⟩⟩⟩⟩⟩⟩) ?_
          exact hrc4 x0 x2 ((x4 >>> ((1 : Int32) &&& 31)) ||| (x4 &&& (1 : Int32))) (x5 + (1 : Int32)) C _ _ hf
        · have hf := a_be hb hf
          refine v_ie hb ?_
          refine v_blk 4 (i' := 75) (L' := [some (.ref x0), none, some (.int x2), some (.ref 17), some (.int (x4 >>> ((1 : Int32) &&& 31))), some (.int x5), some (.int y3), some (.int (x4 &&& (1 : Int32))), none, none]) (st' := [(.int ((x4 &&& (1 : Int32)) ||| (-2 : Int32))), (.int (x4 >>> ((1 : Int32) &&& 31)))]) (h' := (hX C P vl kp Mo R)) (fun _ => rfl) ?_
          obtain ⟨y4, hy, hf⟩ := m_li_ok hf
          rw [hy]
          refine v_blk 5 (i' := 4) (L' := [some (.ref x0), none, some (.int x2), some (.ref 17), some (.int ((x4 >>> ((1 : Int32) &&& 31)) &&& y4)), some (.int (x5 + (1 : Int32))), some (.int y3), some (.int (x4 &&& (1 : Int32))), none, none]) (st' := []) (h' := (hX C P vl kp Mo R)) (fun _ => rfl) ?_
          refine v_weak (L' := [some (.ref x0), none, some (.int x2), some (.ref 17), some (.int ((x4 >>> ((1 : Int32) &&& 31)) &&& y4)), some (.int (x5 + (1 : Int32))), none, none, none, none]) (show a_wk [some (.ref x0), none, some (.int x2), some (.ref 17), some (.int ((x4 >>> ((1 : Int32) &&& 31)) &&& y4)), some (.int (x5 + (1 : Int32))), none, none, none, none] [some (.ref x0), none, some (.int x2), some (.ref 17), some (.int ((x4 >>> ((1 : Int32) &&& 31)) &&& y4)), some (.int (x5 + (1 : Int32))), some (.int y3), some (.int (x4 &&& (1 : Int32))), none, none] from ⟨rfl, ⟨(fun v hv => by cases hv), ⟨rfl, ⟨rfl, ⟨rfl, ⟨rfl, ⟨(fun v hv => by cases hv; rfl), ⟨(fun v hv => by cases hv; rfl), ⟨(fun v hv => by cases hv), ⟨(fun v hv => by cases hv), trivial⟩⟩⟩⟩⟩⟩⟩⟩⟩⟩) ?_
          exact hrc4 x0 x2 ((x4 >>> ((1 : Int32) &&& 31)) &&& y4) (x5 + (1 : Int32)) C _ _ hf
      · have hf := a_be hb hf
        refine v_ie hb ?_
        refine v_blk 7 (i' := 4) (L' := [some (.ref x0), none, some (.int x2), some (.ref 17), some (.int (x4 ^^^ (1 : Int32))), some (.int (x5 + (1 : Int32))), some (.int y3), none, none, none]) (st' := []) (h' := (hX C P vl kp Mo R)) (fun _ => rfl) ?_
        refine v_weak (L' := [some (.ref x0), none, some (.int x2), some (.ref 17), some (.int (x4 ^^^ (1 : Int32))), some (.int (x5 + (1 : Int32))), none, none, none, none]) (show a_wk [some (.ref x0), none, some (.int x2), some (.ref 17), some (.int (x4 ^^^ (1 : Int32))), some (.int (x5 + (1 : Int32))), none, none, none, none] [some (.ref x0), none, some (.int x2), some (.ref 17), some (.int (x4 ^^^ (1 : Int32))), some (.int (x5 + (1 : Int32))), some (.int y3), none, none, none] from ⟨rfl, ⟨(fun v hv => by cases hv), ⟨rfl, ⟨rfl, ⟨rfl, ⟨rfl, ⟨(fun v hv => by cases hv; rfl), ⟨(fun v hv => by cases hv), ⟨(fun v hv => by cases hv), ⟨(fun v hv => by cases hv), trivial⟩⟩⟩⟩⟩⟩⟩⟩⟩⟩) ?_
        exact hrc4 x0 x2 (x4 ^^^ (1 : Int32)) (x5 + (1 : Int32)) C _ _ hf
    · have hf := a_be hb hf
      refine v_ie hb ?_
      refine v_blk 4 (i' := 18) (L' := [some (.ref x0), none, some (.int x2), some (.ref 17), some (.int x4), some (.int x5), some (.int y3), none, none, none]) (st' := [(.int (y3 / (300 : Int32))), (.ref 17)]) (h' := (hX C P vl kp Mo R)) (fun _ => rfl) ?_
      obtain ⟨y5, hy, hf⟩ := m_li_ok hf
      rw [hy]
      obtain ⟨hg, hf⟩ := a_bif hf
      refine v_grd 1 (i' := 19) (L' := [some (.ref x0), none, some (.int x2), some (.ref 17), some (.int x4), some (.int x5), some (.int y3), none, none, none]) (st' := [(.int ((C 12) (y5).toNatClampNeg))]) (h' := (hX C P vl kp Mo R)) (fun _ => rfl) hg ?_
      obtain ⟨y6, hy, hf⟩ := m_li_ok hf
      rw [hy]
      refine v_blk 4 (i' := 23) (L' := [some (.ref x0), none, some (.int x2), some (.ref 17), some (.int x4), some (.int x5), some (.int y3), some (.int y6), none, none]) (st' := [(.int (y3 - y3 / (100 : Int32) * (100 : Int32)))]) (h' := (hX C P vl kp Mo R)) (fun _ => rfl) ?_
      obtain ⟨y7, hy, hf⟩ := m_li_ok hf
      rw [hy]
      refine v_blk 4 (i' := (bif (a_ic .ge y6 y7) then 29 else 27)) (L' := [some (.ref x0), none, some (.int x2), some (.ref 17), some (.int x4), some (.int x5), some (.int y3), some (.int y6), some (.int y7), none]) (st' := []) (h' := (hX C P vl kp Mo R)) (fun _ => rfl) ?_
      rcases Bool.eq_false_or_eq_true (a_ic .ge y6 y7) with hb | hb
      · have hf := a_bt hb hf
        refine v_it hb ?_
        refine v_blk 3 (i' := (bif (a_ic .le y6 y7) then 34 else 32)) (L' := [some (.ref x0), none, some (.int x2), some (.ref 17), some (.int x4), some (.int x5), some (.int y3), some (.int y6), some (.int y7), none]) (st' := []) (h' := (hX C P vl kp Mo R)) (fun _ => rfl) ?_
        rcases Bool.eq_false_or_eq_true (a_ic .le y6 y7) with hb | hb
        · have hf := a_bt hb hf
          refine v_it hb ?_
          refine v_blk 1 (i' := 35) (L' := [some (.ref x0), none, some (.int x2), some (.ref 17), some (.int x4), some (.int x5), some (.int y3), some (.int y6), some (.int y7), none]) (st' := [(.int (1 : Int32))]) (h' := (hX C P vl kp Mo R)) (fun _ => rfl) ?_
          refine v_weak (L' := [some (.ref x0), none, some (.int x2), some (.ref 17), some (.int x4), some (.int x5), some (.int y3), none, none, none]) (show a_wk [some (.ref x0), none, some (.int x2), some (.ref 17), some (.int x4), some (.int x5), some (.int y3), none, none, none] [some (.ref x0), none, some (.int x2), some (.ref 17), some (.int x4), some (.int x5), some (.int y3), some (.int y6), some (.int y7), none] from ⟨rfl, ⟨(fun v hv => by cases hv), ⟨rfl, ⟨rfl, ⟨rfl, ⟨rfl, ⟨rfl, ⟨(fun v hv => by cases hv; rfl), ⟨(fun v hv => by cases hv; rfl), ⟨(fun v hv => by cases hv), trivial⟩⟩⟩⟩⟩⟩⟩⟩⟩⟩) ?_
          exact kt_66_35 hfz N P vl kp Mo R d hd rc4 hrc4 x0 x2 x4 x5 y3 (1 : Int32) C _ _ hf
        · have hf := a_be hb hf
          refine v_ie hb ?_
          refine v_blk 2 (i' := 35) (L' := [some (.ref x0), none, some (.int x2), some (.ref 17), some (.int x4), some (.int x5), some (.int y3), some (.int y6), some (.int y7), none]) (st' := [(.int (2 : Int32))]) (h' := (hX C P vl kp Mo R)) (fun _ => rfl) ?_
          refine v_weak (L' := [some (.ref x0), none, some (.int x2), some (.ref 17), some (.int x4), some (.int x5), some (.int y3), none, none, none]) (show a_wk [some (.ref x0), none, some (.int x2), some (.ref 17), some (.int x4), some (.int x5), some (.int y3), none, none, none] [some (.ref x0), none, some (.int x2), some (.ref 17), some (.int x4), some (.int x5), some (.int y3), some (.int y6), some (.int y7), none] from ⟨rfl, ⟨(fun v hv => by cases hv), ⟨rfl, ⟨rfl, ⟨rfl, ⟨rfl, ⟨rfl, ⟨(fun v hv => by cases hv; rfl), ⟨(fun v hv => by cases hv; rfl), ⟨(fun v hv => by cases hv), trivial⟩⟩⟩⟩⟩⟩⟩⟩⟩⟩) ?_
          exact kt_66_35 hfz N P vl kp Mo R d hd rc4 hrc4 x0 x2 x4 x5 y3 (2 : Int32) C _ _ hf
      · have hf := a_be hb hf
        refine v_ie hb ?_
        refine v_blk 2 (i' := 35) (L' := [some (.ref x0), none, some (.int x2), some (.ref 17), some (.int x4), some (.int x5), some (.int y3), some (.int y6), some (.int y7), none]) (st' := [(.int (0 : Int32))]) (h' := (hX C P vl kp Mo R)) (fun _ => rfl) ?_
        refine v_weak (L' := [some (.ref x0), none, some (.int x2), some (.ref 17), some (.int x4), some (.int x5), some (.int y3), none, none, none]) (show a_wk [some (.ref x0), none, some (.int x2), some (.ref 17), some (.int x4), some (.int x5), some (.int y3), none, none, none] [some (.ref x0), none, some (.int x2), some (.ref 17), some (.int x4), some (.int x5), some (.int y3), some (.int y6), some (.int y7), none] from ⟨rfl, ⟨(fun v hv => by cases hv), ⟨rfl, ⟨rfl, ⟨rfl, ⟨rfl, ⟨rfl, ⟨(fun v hv => by cases hv; rfl), ⟨(fun v hv => by cases hv; rfl), ⟨(fun v hv => by cases hv), trivial⟩⟩⟩⟩⟩⟩⟩⟩⟩⟩) ?_
        exact kt_66_35 hfz N P vl kp Mo R d hd rc4 hrc4 x0 x2 x4 x5 y3 (0 : Int32) C _ _ hf
theorem kt_66_4 {fz : Value} {sc : Nat × (Nat → Int32)} (hfz : fz = .null ∨ fz = .retAddr 60) (N : Nat) (P : Nat → Option Nat) (vl kp : Option Nat) (Mo : Nat → aC) (R : List aC) (d : Nat) (hd : 0 ≤ d) : ∀ (n : Nat) (x0 : Nat) (x2 : Int32) (x4 : Int32) (x5 : Int32) (C : mS) (r : Int32) (C' : mS) (hf : k_66_4 N P vl R n x0 x2 x4 x5 C = some (r, C')), v_V fz sc d 66 4 [some (.ref x0), none, some (.int x2), some (.ref 17), some (.int x4), some (.int x5), none, none, none, none] [] (hX C P vl kp Mo R) (fun rv h' => rv = some (.int r) ∧ h' = hX C' P vl kp Mo R) := by
  intro n
  induction n with
  | zero => intro x0 x2 x4 x5 C r C' hf; cases hf
  | succ n ih =>
    intro x0 x2 x4 x5 C r C' hf
    exact kt_66_4b hfz N P vl kp Mo R d hd (k_66_4 N P vl R n) ih x0 x2 x4 x5 C r C' hf
set_option maxRecDepth 100000 in
set_option maxHeartbeats 4000000 in
theorem kt_66 {fz : Value} {sc : Nat × (Nat → Int32)} (hfz : fz = .null ∨ fz = .retAddr 60) (N : Nat) (P : Nat → Option Nat) (vl kp : Option Nat) (Mo : Nat → aC) (R : List aC) (d : Nat) (hd : 0 ≤ d) (x0 : Nat) (x1 : Int32) (x2 : Int32) (C : mS) (r : Int32) (C' : mS) (hf : k_66 N P vl R x0 x1 x2 C = some (r, C')) : v_V fz sc d 66 0 [some (.ref x0), some (.int x1), some (.int x2), some (.ref 17), none, none, none, none, none, none] [] (hX C P vl kp Mo R) (fun rv h' => rv = some (.int r) ∧ h' = hX C' P vl kp Mo R) := by
  unfold k_66 at hf
  refine v_blk 4 (i' := 4) (L' := [some (.ref x0), some (.int x1), some (.int x2), some (.ref 17), some (.int (0 : Int32)), some (.int x1), none, none, none, none]) (st' := []) (h' := (hX C P vl kp Mo R)) (fun _ => rfl) ?_
  refine v_weak (L' := [some (.ref x0), none, some (.int x2), some (.ref 17), some (.int (0 : Int32)), some (.int x1), none, none, none, none]) (show a_wk [some (.ref x0), none, some (.int x2), some (.ref 17), some (.int (0 : Int32)), some (.int x1), none, none, none, none] [some (.ref x0), some (.int x1), some (.int x2), some (.ref 17), some (.int (0 : Int32)), some (.int x1), none, none, none, none] from ⟨rfl, ⟨(fun v hv => by cases hv; rfl), ⟨rfl, ⟨rfl, ⟨rfl, ⟨rfl, ⟨(fun v hv => by cases hv), ⟨(fun v hv => by cases hv), ⟨(fun v hv => by cases hv), ⟨(fun v hv => by cases hv), trivial⟩⟩⟩⟩⟩⟩⟩⟩⟩⟩) ?_
  exact kt_66_4 hfz N P vl kp Mo R d hd N x0 x2 (0 : Int32) x1 C _ _ hf
set_option maxRecDepth 100000 in
set_option maxHeartbeats 4000000 in
theorem kt_65_6b {fz : Value} {sc : Nat × (Nat → Int32)} (hfz : fz = .null ∨ fz = .retAddr 60) (N : Nat) (P : Nat → Option Nat) (vl kp : Option Nat) (Mo : Nat → aC) (R : List aC) (d : Nat) (hd : 1 ≤ d) (rc6 : Nat → Int32 → Int32 → Int32 → mS → Option (Int32 × mS)) (hrc6 : ∀ (x0 : Nat) (x2 : Int32) (x3 : Int32) (x4 : Int32) (C : mS) (r : Int32) (C' : mS), rc6 x0 x2 x3 x4 C = some (r, C') → v_V fz sc d 65 6 [some (.ref x0), some (.ref 17), some (.int x2), some (.int x3), some (.int x4)] [] (hX C P vl kp Mo R) (fun rv h' => rv = some (.int r) ∧ h' = hX C' P vl kp Mo R)) (x0 : Nat) (x2 : Int32) (x3 : Int32) (x4 : Int32) (C : mS) (r : Int32) (C' : mS) (hf : k_65_6b N P vl R rc6 x0 x2 x3 x4 C = some (r, C')) : v_V fz sc d 65 6 [some (.ref x0), some (.ref 17), some (.int x2), some (.int x3), some (.int x4)] [] (hX C P vl kp Mo R) (fun rv h' => rv = some (.int r) ∧ h' = hX C' P vl kp Mo R) := by
  unfold k_65_6b at hf
  obtain ⟨d, rfl⟩ : ∃ z, d = z + 1 := ⟨d - 1, by omega⟩
  obtain ⟨cr1, er1, ar1, ru1, gi1, ho_x0, hf⟩ := m_vo_ok hf
  refine v_blk 2 (i' := 8) (L' := [some (.ref x0), some (.ref 17), some (.int x2), some (.int x3), some (.int x4)]) (st' := [(.ref x0), (.int x4)]) (h' := (hX C P vl kp Mo R)) (fun _ => rfl) ?_
  refine v_gf rfl rfl rfl (vly_ok ho_x0) rfl rfl ?_
  obtain ⟨n2, f2, ho_er1, hf⟩ := m_ia_ok hf
  refine v_al rfl rfl rfl (iar_ok ho_er1) ?_
  refine v_blk 1 (i' := (bif (a_ic .ge x4 (Int32.ofNat n2)) then 34 else 11)) (L' := [some (.ref x0), some (.ref 17), some (.int x2), some (.int x3), some (.int x4)]) (st' := []) (h' := (hX C P vl kp Mo R)) (fun _ => rfl) ?_
  rcases Bool.eq_false_or_eq_true (a_ic .ge x4 (Int32.ofNat n2)) with hb | hb
  · have hf := a_bt hb hf
    refine v_it hb ?_
    obtain ⟨rfl, rfl⟩ := m_rt hf
    exact v_ret 2 (fun _ => rfl) ⟨rfl, rfl⟩
  · have hf := a_be hb hf
    refine v_ie hb ?_
    refine v_blk 3 (i' := 14) (L' := [some (.ref x0), some (.ref 17), some (.int x2), some (.int x3), some (.int x4)]) (st' := [(.ref x0), (.int x3), (.ref x0)]) (h' := (hX C P vl kp Mo R)) (fun _ => rfl) ?_
    refine v_gf rfl rfl rfl (vly_ok ho_x0) rfl rfl ?_
    refine v_blk 1 (i' := 16) (L' := [some (.ref x0), some (.ref 17), some (.int x2), some (.int x3), some (.int x4)]) (st' := [(.int x4), (.ref er1), (.int x3), (.ref x0)]) (h' := (hX C P vl kp Mo R)) (fun _ => rfl) ?_
    obtain ⟨hg, hf⟩ := a_bif hf
    refine v_il rfl rfl rfl (iar_ok ho_er1) hg ?_
    obtain ⟨y3, hy, hf⟩ := m_li_ok hf
    rw [hy]
    obtain ⟨r4, C4, hc, hf⟩ := m_bd_ok hf
    refine v_blk 1 (i' := 18) (L' := [some (.ref x0), some (.ref 17), some (.int x2), some (.int x3), some (.int x4)]) (st' := [(.ref 17), (.int y3), (.int x3), (.ref x0)]) (h' := (hX C P vl kp Mo R)) (fun _ => rfl) ?_
    refine v_vc (E := [some (.ref x0), some (.int x3), some (.int y3), some (.ref 17), none, none, none, none, none, none]) (rest := []) rfl rfl rfl (vly_ok ho_x0) rfl rfl rfl rfl ?_
    refine v_post (kt_66 hfz N P vl kp Mo R d (by omega) x0 x3 y3 C _ _ hc) ?_
    rintro rv h' ⟨rfl, rfl⟩
    refine v_blk 1 (i' := (bif (a_ic .eq r4 (0 : Int32)) then 27 else 20)) (L' := [some (.ref x0), some (.ref 17), some (.int x2), some (.int x3), some (.int x4)]) (st' := []) (h' := (hX C4 P vl kp Mo R)) (fun _ => rfl) ?_
    rcases Bool.eq_false_or_eq_true (a_ic .eq r4 (0 : Int32)) with hb | hb
    · have hf := a_bt hb hf
      refine v_it hb ?_
      refine v_blk 1 (i' := 28) (L' := [some (.ref x0), some (.ref 17), some (.int x2), some (.int x3), some (.int x4)]) (st' := [(.ref x0)]) (h' := (hX C4 P vl kp Mo R)) (fun _ => rfl) ?_
      refine v_gf rfl rfl rfl (vly_ok ho_x0) rfl rfl ?_
      refine v_blk 1 (i' := 30) (L' := [some (.ref x0), some (.ref 17), some (.int x2), some (.int x3), some (.int x4)]) (st' := [(.int x4), (.ref er1)]) (h' := (hX C4 P vl kp Mo R)) (fun _ => rfl) ?_
      obtain ⟨hg, hf⟩ := a_bif hf
      refine v_il rfl rfl rfl (iar_ok ho_er1) hg ?_
      obtain ⟨y5, hy, hf⟩ := m_li_ok hf
      rw [hy]
      refine v_blk 3 (i' := 6) (L' := [some (.ref x0), some (.ref 17), some (.int x2), some (.int y5), some (.int (x4 + (1 : Int32)))]) (st' := []) (h' := (hX C4 P vl kp Mo R)) (fun _ => rfl) ?_
      exact hrc6 x0 x2 y5 (x4 + (1 : Int32)) C4 _ _ hf
    · have hf := a_be hb hf
      refine v_ie hb ?_
      refine v_blk 2 (i' := 22) (L' := [some (.ref x0), some (.ref 17), some (.int x2), some (.int x3), some (.int x4)]) (st' := [(.ref x0), (.int x2)]) (h' := (hX C4 P vl kp Mo R)) (fun _ => rfl) ?_
      refine v_gf rfl rfl rfl (vly_ok ho_x0) rfl rfl ?_
      obtain ⟨n6, f6, ho_ar1, hf⟩ := m_ia_ok hf
      refine v_blk 1 (i' := 24) (L' := [some (.ref x0), some (.ref 17), some (.int x2), some (.int x3), some (.int x4)]) (st' := [(.int x4), (.ref ar1), (.int x2)]) (h' := (hX C4 P vl kp Mo R)) (fun _ => rfl) ?_
      obtain ⟨hg, hf⟩ := a_bif hf
      refine v_il rfl rfl rfl (iar_ok ho_ar1) hg ?_
      obtain ⟨y7, hy, hf⟩ := m_li_ok hf
      rw [hy]
      refine v_blk 3 (i' := 28) (L' := [some (.ref x0), some (.ref 17), some (.int (x2 + y7)), some (.int x3), some (.int x4)]) (st' := [(.ref x0)]) (h' := (hX C4 P vl kp Mo R)) (fun _ => rfl) ?_
      refine v_gf rfl rfl rfl (vly_ok ho_x0) rfl rfl ?_
      refine v_blk 1 (i' := 30) (L' := [some (.ref x0), some (.ref 17), some (.int (x2 + y7)), some (.int x3), some (.int x4)]) (st' := [(.int x4), (.ref er1)]) (h' := (hX C4 P vl kp Mo R)) (fun _ => rfl) ?_
      obtain ⟨hg, hf⟩ := a_bif hf
      refine v_il rfl rfl rfl (iar_ok ho_er1) hg ?_
      obtain ⟨y8, hy, hf⟩ := m_li_ok hf
      rw [hy]
      refine v_blk 3 (i' := 6) (L' := [some (.ref x0), some (.ref 17), some (.int (x2 + y7)), some (.int y8), some (.int (x4 + (1 : Int32)))]) (st' := []) (h' := (hX C4 P vl kp Mo R)) (fun _ => rfl) ?_
      exact hrc6 x0 (x2 + y7) y8 (x4 + (1 : Int32)) C4 _ _ hf
theorem kt_65_6 {fz : Value} {sc : Nat × (Nat → Int32)} (hfz : fz = .null ∨ fz = .retAddr 60) (N : Nat) (P : Nat → Option Nat) (vl kp : Option Nat) (Mo : Nat → aC) (R : List aC) (d : Nat) (hd : 1 ≤ d) : ∀ (n : Nat) (x0 : Nat) (x2 : Int32) (x3 : Int32) (x4 : Int32) (C : mS) (r : Int32) (C' : mS) (hf : k_65_6 N P vl R n x0 x2 x3 x4 C = some (r, C')), v_V fz sc d 65 6 [some (.ref x0), some (.ref 17), some (.int x2), some (.int x3), some (.int x4)] [] (hX C P vl kp Mo R) (fun rv h' => rv = some (.int r) ∧ h' = hX C' P vl kp Mo R) := by
  intro n
  induction n with
  | zero => intro x0 x2 x3 x4 C r C' hf; cases hf
  | succ n ih =>
    intro x0 x2 x3 x4 C r C' hf
    exact kt_65_6b hfz N P vl kp Mo R d hd (k_65_6 N P vl R n) ih x0 x2 x3 x4 C r C' hf
set_option maxRecDepth 100000 in
set_option maxHeartbeats 4000000 in
theorem kt_65 {fz : Value} {sc : Nat × (Nat → Int32)} (hfz : fz = .null ∨ fz = .retAddr 60) (N : Nat) (P : Nat → Option Nat) (vl kp : Option Nat) (Mo : Nat → aC) (R : List aC) (d : Nat) (hd : 1 ≤ d) (x0 : Nat) (C : mS) (r : Int32) (C' : mS) (hf : k_65 N P vl R x0 C = some (r, C')) : v_V fz sc d 65 0 [some (.ref x0), some (.ref 17), none, none, none] [] (hX C P vl kp Mo R) (fun rv h' => rv = some (.int r) ∧ h' = hX C' P vl kp Mo R) := by
  unfold k_65 at hf
  obtain ⟨d, rfl⟩ : ∃ z, d = z + 1 := ⟨d - 1, by omega⟩
  refine v_blk 6 (i' := 6) (L' := [some (.ref x0), some (.ref 17), some (.int (0 : Int32)), some (.int (0 : Int32)), some (.int (0 : Int32))]) (st' := []) (h' := (hX C P vl kp Mo R)) (fun _ => rfl) ?_
  exact kt_65_6 hfz N P vl kp Mo R (d + 1) hd N x0 (0 : Int32) (0 : Int32) (0 : Int32) C _ _ hf
set_option maxRecDepth 100000 in
set_option maxHeartbeats 4000000 in
theorem kt_32 {fz : Value} {sc : Nat × (Nat → Int32)} (hfz : fz = .null ∨ fz = .retAddr 60) (N : Nat) (P : Nat → Option Nat) (vl kp : Option Nat) (Mo : Nat → aC) (R : List aC) (d : Nat) (hd : 2 ≤ d) (x1 : Option Nat) (x2 : Int32) (x3 : Int32) (x4 : Int32) (C : mS) (r : Int32) (C' : mS) (hf : k_32 N P vl R x1 x2 x3 x4 C = some (r, C')) : v_V fz sc d 32 0 [some (.ref 13), some (va_rf x1), some (.int x2), some (.int x3), some (.int x4), none] [] (hX C P vl kp Mo R) (fun rv h' => rv = some (.int r) ∧ h' = hX C' P vl kp Mo R) := by
  unfold k_32 at hf
  obtain ⟨d, rfl⟩ : ∃ z, d = z + 1 := ⟨d - 1, by omega⟩
  have hf0 := m_op_ok hf
  clear hf
  rcases hf0 with ⟨rfl, hf⟩ | ⟨a0, rfl, hf⟩
  · skip
    refine v_blk 3 (i' := 3) (L' := [some (.ref 13), some (.null), some (.int x2), some (.int x3), some (.int x4), none]) (st' := [(va_rf vl)]) (h' := (hX C P vl kp Mo R)) (fun _ => rfl) ?_
    rcases m_op_ok hf with ⟨ho1, hf⟩ | ⟨a1, ho1, hf⟩
    · refine v_on ho1 ?_
      obtain ⟨rfl, rfl⟩ := m_rt hf
      exact v_ret 5 (fun _ => rfl) ⟨rfl, rfl⟩
    · refine v_os ho1 ?_
      obtain ⟨rfl, rfl⟩ := m_rt hf
      exact v_ret 7 (fun _ => rfl) ⟨rfl, rfl⟩
  · skip
    refine v_blk 3 (i' := 3) (L' := [some (.ref 13), some (.ref a0), some (.int x2), some (.int x3), some (.int x4), none]) (st' := [(va_rf vl)]) (h' := (hX C P vl kp Mo R)) (fun _ => rfl) ?_
    rcases m_op_ok hf with ⟨ho2, hf⟩ | ⟨a2, ho2, hf⟩
    · refine v_on ho2 ?_
      obtain ⟨rfl, rfl⟩ := m_rt hf
      exact v_ret 5 (fun _ => rfl) ⟨rfl, rfl⟩
    · refine v_os ho2 ?_
      refine v_blk 21 (i' := 26) (L' := [some (.ref 13), some (.ref a0), some (.int x2), some (.int x3), some (.int x4), some (.ref a2)]) (st' := [(.int (x3 - x3 / (7 : Int32) * (7 : Int32))), (.int (2 : Int32)), (.ref 17)]) (h' := (hX (va_up C 12 (upd (upd (C 12) 0 x2) 1 x4)) P vl kp Mo R)) (fun _ => rfl) ?_
      obtain ⟨y3, hy, hf⟩ := m_li_ok hf
      rw [hy]
      obtain ⟨ci4, ka4, nu4, va4, ho_a0, hf⟩ := m_ob_ok hf
      refine v_blk 5 (i' := 31) (L' := [some (.ref 13), some (.ref a0), some (.int x2), some (.int x3), some (.int x4), some (.ref a2)]) (st' := [(.ref a0), (.int (3 : Int32)), (.ref 17)]) (h' := (hX (va_up C 12 (upd (upd (upd (C 12) 0 x2) 1 x4) 2 y3)) P vl kp Mo R)) (fun _ => rfl) ?_
      obtain ⟨hg_a0_0_1_3_4_6_7_8, hf⟩ := a_bif hf
      refine v_gf rfl rfl rfl (bdr_ok ho_a0) rfl hg_a0_0_1_3_4_6_7_8 ?_
      refine v_blk 5 (i' := 37) (L' := [some (.ref 13), some (.ref a0), some (.int x2), some (.int x3), some (.int x4), some (.ref a2)]) (st' := [(.ref a0), (.int (4 : Int32)), (.ref 17)]) (h' := (hX (va_up C 12 (upd (upd (upd (upd (C 12) 0 x2) 1 x4) 2 y3) 3 nu4)) P vl kp Mo R)) (fun _ => rfl) ?_
      refine v_gf rfl rfl rfl (bdr_ok ho_a0) rfl hg_a0_0_1_3_4_6_7_8 ?_
      obtain ⟨cr6, er6, ar6, ru6, gi6, ho_a2, hf⟩ := m_vo_ok hf
      obtain ⟨r5, C5, hc, hf⟩ := m_bd_ok hf
      refine v_blk 4 (i' := 42) (L' := [some (.ref 13), some (.ref a0), some (.int x2), some (.int x3), some (.int x4), some (.ref a2)]) (st' := [(.ref 17), (.ref a2)]) (h' := (hX (va_up C 12 (upd (upd (upd (upd (upd (C 12) 0 x2) 1 x4) 2 y3) 3 nu4) 4 ka4)) P vl kp Mo R)) (fun _ => rfl) ?_
      refine v_vc (E := [some (.ref a2), some (.ref 17), none, none, none]) (rest := []) rfl rfl rfl (vly_ok ho_a2) rfl rfl rfl rfl ?_
      refine v_post (kt_65 hfz N P vl kp Mo R d (by omega) a2 (va_up C 12 (upd (upd (upd (upd (upd (C 12) 0 x2) 1 x4) 2 y3) 3 nu4) 4 ka4)) _ _ hc) ?_
      rintro rv h' ⟨rfl, rfl⟩
      obtain ⟨rfl, rfl⟩ := m_rt hf
      exact v_ret 1 (fun _ => rfl) ⟨rfl, rfl⟩
set_option maxRecDepth 100000 in
set_option maxHeartbeats 4000000 in
theorem kt_1_12b {fz : Value} {sc : Nat × (Nat → Int32)} (hfz : fz = .null ∨ fz = .retAddr 60) (N : Nat) (P : Nat → Option Nat) (vl kp : Option Nat) (Mo : Nat → aC) (R : List aC) (d : Nat) (hd : 3 ≤ d) (rc12 : Nat → Int32 → Int32 → Int32 → mS → Option (Int32 × mS)) (hrc12 : ∀ (x0 : Nat) (x2 : Int32) (x3 : Int32) (x4 : Int32) (C : mS) (r : Int32) (C' : mS), rc12 x0 x2 x3 x4 C = some (r, C') → v_V fz sc d 1 12 [some (.ref x0), some (.ref 13), some (.int x2), some (.int x3), some (.int x4)] [] (hX C P vl kp Mo R) (fun rv h' => rv = some (.int r) ∧ h' = hX C' P vl kp Mo R)) (x0 : Nat) (x2 : Int32) (x3 : Int32) (x4 : Int32) (C : mS) (r : Int32) (C' : mS) (hf : k_1_12b N P vl R rc12 x0 x2 x3 x4 C = some (r, C')) : v_V fz sc d 1 12 [some (.ref x0), some (.ref 13), some (.int x2), some (.int x3), some (.int x4)] [] (hX C P vl kp Mo R) (fun rv h' => rv = some (.int r) ∧ h' = hX C' P vl kp Mo R) := by
  unfold k_1_12b at hf
  obtain ⟨d, rfl⟩ : ∃ z, d = z + 1 := ⟨d - 1, by omega⟩
  refine v_blk 3 (i' := (bif (a_ic .ge x4 (4 : Int32)) then 29 else 15)) (L' := [some (.ref x0), some (.ref 13), some (.int x2), some (.int x3), some (.int x4)]) (st' := []) (h' := (hX C P vl kp Mo R)) (fun _ => rfl) ?_
  rcases Bool.eq_false_or_eq_true (a_ic .ge x4 (4 : Int32)) with hb | hb
  · have hf := a_bt hb hf
    refine v_it hb ?_
    obtain ⟨r2, C2, hc, hf⟩ := m_bd_ok hf
    refine v_call 8 (k' := 32) (i' := 37) (E := [some (.ref 13), some (.ref x0), some (.int x2), some (.int (C 92 7)), some (.int (C 92 8)), none]) (L' := [some (.ref x0), some (.ref 13), some (.int x2), some (.int x3), some (.int x4)]) (rest := []) (h1 := (hX C P vl kp Mo R)) (fun _ => rfl) ?_
    refine v_post (kt_32 hfz N P vl kp Mo R d (by omega) (some x0) x2 (C 92 7) (C 92 8) C _ _ hc) ?_
    rintro rv h' ⟨rfl, rfl⟩
    obtain ⟨ci3, ka3, nu3, va3, ho_x0, hf⟩ := m_ob_ok hf
    refine v_blk 1 (i' := 38) (L' := [some (.ref x0), some (.ref 13), some (.int x2), some (.int x3), some (.int x4)]) (st' := [(.ref x0), (.int r2)]) (h' := (hX C2 P vl kp Mo R)) (fun _ => rfl) ?_
    obtain ⟨hg_x0_0_1_3_4_6_7_8, hf⟩ := a_bif hf
    refine v_gf rfl rfl rfl (bdr_ok ho_x0) rfl hg_x0_0_1_3_4_6_7_8 ?_
    refine v_blk 4 (i' := 43) (L' := [some (.ref x0), some (.ref 13), some (.int x2), some (.int x3), some (.int x4)]) (st' := [(.int ((va3 * x3) / (10 : Int32))), (.int r2)]) (h' := (hX C2 P vl kp Mo R)) (fun _ => rfl) ?_
    obtain ⟨y4, hy, hf⟩ := m_li_ok hf
    rw [hy]
    obtain ⟨rfl, rfl⟩ := m_rt hf
    exact v_ret 2 (fun _ => rfl) ⟨rfl, rfl⟩
  · have hf := a_be hb hf
    refine v_ie hb ?_
    obtain ⟨r5, C5, hc, hf⟩ := m_bd_ok hf
    refine v_call 10 (k' := 32) (i' := 25) (E := [some (.ref 13), some (.ref x0), some (.int x4), some (.int ((C 92 7) + (1 : Int32))), some (.int x2), none]) (L' := [some (.ref x0), some (.ref 13), some (.int x2), some (.int x3), some (.int x4)]) (rest := [(.int x3)]) (h1 := (hX C P vl kp Mo R)) (fun _ => rfl) ?_
    refine v_post (kt_32 hfz N P vl kp Mo R d (by omega) (some x0) x4 ((C 92 7) + (1 : Int32)) x2 C _ _ hc) ?_
    rintro rv h' ⟨rfl, rfl⟩
    refine v_blk 1 (i' := 26) (L' := [some (.ref x0), some (.ref 13), some (.int x2), some (.int x3), some (.int x4)]) (st' := [(.int (if x3 < r5 then r5 else x3))]) (h' := (hX C5 P vl kp Mo R)) (fun _ => rfl) ?_
    obtain ⟨y6, hy, hf⟩ := m_li_ok hf
    rw [hy]
    refine v_blk 3 (i' := 12) (L' := [some (.ref x0), some (.ref 13), some (.int x2), some (.int y6), some (.int (x4 + (1 : Int32)))]) (st' := []) (h' := (hX C5 P vl kp Mo R)) (fun _ => rfl) ?_
    exact hrc12 x0 x2 y6 (x4 + (1 : Int32)) C5 _ _ hf
theorem kt_1_12 {fz : Value} {sc : Nat × (Nat → Int32)} (hfz : fz = .null ∨ fz = .retAddr 60) (N : Nat) (P : Nat → Option Nat) (vl kp : Option Nat) (Mo : Nat → aC) (R : List aC) (d : Nat) (hd : 3 ≤ d) : ∀ (n : Nat) (x0 : Nat) (x2 : Int32) (x3 : Int32) (x4 : Int32) (C : mS) (r : Int32) (C' : mS) (hf : k_1_12 N P vl R n x0 x2 x3 x4 C = some (r, C')), v_V fz sc d 1 12 [some (.ref x0), some (.ref 13), some (.int x2), some (.int x3), some (.int x4)] [] (hX C P vl kp Mo R) (fun rv h' => rv = some (.int r) ∧ h' = hX C' P vl kp Mo R) := by
  intro n
  induction n with
  | zero => intro x0 x2 x3 x4 C r C' hf; cases hf
  | succ n ih =>
    intro x0 x2 x3 x4 C r C' hf
    exact kt_1_12b hfz N P vl kp Mo R d hd (k_1_12 N P vl R n) ih x0 x2 x3 x4 C r C' hf
set_option maxRecDepth 100000 in
set_option maxHeartbeats 4000000 in
theorem kt_1 {fz : Value} {sc : Nat × (Nat → Int32)} (hfz : fz = .null ∨ fz = .retAddr 60) (N : Nat) (P : Nat → Option Nat) (vl kp : Option Nat) (Mo : Nat → aC) (R : List aC) (d : Nat) (hd : 3 ≤ d) (x0 : Nat) (x2 : Int32) (C : mS) (r : Int32) (C' : mS) (hf : k_1 N P vl R x0 x2 C = some (r, C')) : v_V fz sc d 1 0 [some (.ref x0), some (.ref 13), some (.int x2), none, none] [] (hX C P vl kp Mo R) (fun rv h' => rv = some (.int r) ∧ h' = hX C' P vl kp Mo R) := by
  unfold k_1 at hf
  obtain ⟨d, rfl⟩ : ∃ z, d = z + 1 := ⟨d - 1, by omega⟩
  obtain ⟨r1, C1, hc, hf⟩ := m_bd_ok hf
  refine v_call 9 (k' := 32) (i' := 9) (E := [some (.ref 13), some (.ref x0), some (.int (0 : Int32)), some (.int ((C 92 7) + (1 : Int32))), some (.int x2), none]) (L' := [some (.ref x0), some (.ref 13), some (.int x2), none, none]) (rest := []) (h1 := (hX C P vl kp Mo R)) (fun _ => rfl) ?_
  refine v_post (kt_32 hfz N P vl kp Mo R d (by omega) (some x0) (0 : Int32) ((C 92 7) + (1 : Int32)) x2 C _ _ hc) ?_
  rintro rv h' ⟨rfl, rfl⟩
  refine v_blk 3 (i' := 12) (L' := [some (.ref x0), some (.ref 13), some (.int x2), some (.int r1), some (.int (1 : Int32))]) (st' := []) (h' := (hX C1 P vl kp Mo R)) (fun _ => rfl) ?_
  exact kt_1_12 hfz N P vl kp Mo R (d + 1) hd N x0 x2 r1 (1 : Int32) C1 _ _ hf
set_option maxRecDepth 100000 in
set_option maxHeartbeats 4000000 in
theorem kt_8 {fz : Value} {sc : Nat × (Nat → Int32)} (hfz : fz = .null ∨ fz = .retAddr 60) (N : Nat) (P : Nat → Option Nat) (vl kp : Option Nat) (Mo : Nat → aC) (R : List aC) (d : Nat) (hd : 0 ≤ d) (x1 : Int32) (C : mS) (r : Int32) (C' : mS) (hf : k_8 N P vl R x1 C = some (r, C')) : v_V fz sc d 8 0 [some (.ref 18), some (.int x1)] [] (hX C P vl kp Mo R) (fun rv h' => rv = none ∧ h' = hX C' P vl kp Mo R) := by
  unfold k_8 at hf
  refine v_blk 11 (i' := (bif (a_ic .le ((upd (C 13) 0 (((C 13) 0) + (1 : Int32))) 0) (0 : Int32)) then 23 else 11)) (L' := [some (.ref 18), some (.int x1)]) (st' := []) (h' := (hX (va_up C 13 (upd (C 13) 0 (((C 13) 0) + (1 : Int32)))) P vl kp Mo R)) (fun _ => rfl) ?_
  rcases Bool.eq_false_or_eq_true (a_ic .le ((upd (C 13) 0 (((C 13) 0) + (1 : Int32))) 0) (0 : Int32)) with hb | hb
  · have hf := a_bt hb hf
    refine v_it hb ?_
    obtain ⟨C1, hA, hf⟩ := m_st_ok hf
    rw [hA]
    obtain ⟨rfl, rfl⟩ := m_rt hf
    exact v_ret 1 (fun _ => rfl) ⟨rfl, rfl⟩
  · have hf := a_be hb hf
    refine v_ie hb ?_
    obtain ⟨C2, hA, hf⟩ := m_st_ok hf
    rw [hA]
    refine v_blk 6 (i' := (bif (a_ic .ge ((C2 13) 0) (21 : Int32)) then 23 else 17)) (L' := [some (.ref 18), some (.int x1)]) (st' := []) (h' := (hX C2 P vl kp Mo R)) (fun _ => rfl) ?_
    rcases Bool.eq_false_or_eq_true (a_ic .ge ((C2 13) 0) (21 : Int32)) with hb | hb
    · have hf := a_bt hb hf
      refine v_it hb ?_
      obtain ⟨rfl, rfl⟩ := m_rt hf
      exact v_ret 1 (fun _ => rfl) ⟨rfl, rfl⟩
    · have hf := a_be hb hf
      refine v_ie hb ?_
      obtain ⟨hg, hf⟩ := a_bif hf
      refine v_grd 6 (i' := 23) (L' := [some (.ref 18), some (.int x1)]) (st' := []) (h' := (hX (va_up C2 13 (upd (C2 13) (((C2 13) 0)).toNatClampNeg x1)) P vl kp Mo R)) (fun _ => rfl) hg ?_
      obtain ⟨C3, hA, hf⟩ := m_st_ok hf
      rw [hA]
      obtain ⟨rfl, rfl⟩ := m_rt hf
      exact v_ret 1 (fun _ => rfl) ⟨rfl, rfl⟩
set_option maxRecDepth 100000 in
set_option maxHeartbeats 4000000 in
theorem kt_5 {fz : Value} {sc : Nat × (Nat → Int32)} (hfz : fz = .null ∨ fz = .retAddr 60) (N : Nat) (P : Nat → Option Nat) (vl kp : Option Nat) (Mo : Nat → aC) (R : List aC) (d : Nat) (hd : 1 ≤ d) (x0 : Nat) (x1 : Int32) (C : mS) (r : Int32) (C' : mS) (hf : k_5 N P vl R x0 x1 C = some (r, C')) : v_V fz sc d 5 0 [some (.ref x0), some (.int x1), some (.ref 18)] [] (hX C P vl kp Mo R) (fun rv h' => rv = some (.int r) ∧ h' = hX C' P vl kp Mo R) := by
  unfold k_5 at hf
  obtain ⟨d, rfl⟩ : ∃ z, d = z + 1 := ⟨d - 1, by omega⟩
  obtain ⟨r1, C1, hc, hf⟩ := m_bd_ok hf
  refine v_call 3 (k' := 8) (i' := 3) (E := [some (.ref 18), some (.int (1 : Int32))]) (L' := [some (.ref x0), some (.int x1), some (.ref 18)]) (rest := []) (h1 := (hX C P vl kp Mo R)) (fun _ => rfl) ?_
  refine v_post (kt_8 hfz N P vl kp Mo R d (by omega) (1 : Int32) C _ _ hc) ?_
  rintro rv h' ⟨rfl, rfl⟩
  obtain ⟨ci2, ka2, nu2, va2, ho_x0, hf⟩ := m_ob_ok hf
  refine v_blk 2 (i' := 5) (L' := [some (.ref x0), some (.int x1), some (.ref 18)]) (st' := [(.ref x0), (.int x1)]) (h' := (hX C1 P vl kp Mo R)) (fun _ => rfl) ?_
  obtain ⟨hg_x0_0_1_3_4_6_7_8, hf⟩ := a_bif hf
  refine v_gf rfl rfl rfl (bdr_ok ho_x0) rfl hg_x0_0_1_3_4_6_7_8 ?_
  obtain ⟨rfl, rfl⟩ := m_rt hf
  exact v_ret 2 (fun _ => rfl) ⟨rfl, rfl⟩
set_option maxRecDepth 100000 in
set_option maxHeartbeats 4000000 in
theorem kt_38 {fz : Value} {sc : Nat × (Nat → Int32)} (hfz : fz = .null ∨ fz = .retAddr 60) (N : Nat) (P : Nat → Option Nat) (vl kp : Option Nat) (Mo : Nat → aC) (R : List aC) (d : Nat) (hd : 2 ≤ d) (x0 : Nat) (x1 : Int32) (C : mS) (r : Int32) (C' : mS) (hf : k_38 N P vl R x0 x1 C = some (r, C')) : v_V fz sc d 38 0 [some (.ref x0), some (.int x1), some (.ref 18)] [] (hX C P vl kp Mo R) (fun rv h' => rv = some (.int r) ∧ h' = hX C' P vl kp Mo R) := by
  unfold k_38 at hf
  obtain ⟨d, rfl⟩ : ∃ z, d = z + 1 := ⟨d - 1, by omega⟩
  obtain ⟨r1, C1, hc, hf⟩ := m_bd_ok hf
  refine v_call 3 (k' := 8) (i' := 3) (E := [some (.ref 18), some (.int (11 : Int32))]) (L' := [some (.ref x0), some (.int x1), some (.ref 18)]) (rest := []) (h1 := (hX C P vl kp Mo R)) (fun _ => rfl) ?_
  refine v_post (kt_8 hfz N P vl kp Mo R d (by omega) (11 : Int32) C _ _ hc) ?_
  rintro rv h' ⟨rfl, rfl⟩
  obtain ⟨ci3, ka3, nu3, va3, ho_x0, hf⟩ := m_ob_ok hf
  obtain ⟨r2, C2, hc, hf⟩ := m_bd_ok hf
  refine v_blk 5 (i' := 8) (L' := [some (.ref x0), some (.int x1), some (.ref 18)]) (st' := [(.ref 18), (.int (x1 * (3 : Int32))), (.ref x0)]) (h' := (hX C1 P vl kp Mo R)) (fun _ => rfl) ?_
  refine v_s2 (E := [some (.ref x0), some (.int (x1 * (3 : Int32))), some (.ref 18)]) (rest := []) rfl rfl rfl (bdr_ok ho_x0) rfl rfl rfl ?_
  refine v_post (kt_5 hfz N P vl kp Mo R d (by omega) x0 (x1 * (3 : Int32)) C1 _ _ hc) ?_
  rintro rv h' ⟨rfl, rfl⟩
  obtain ⟨rfl, rfl⟩ := m_rt hf
  exact v_ret 1 (fun _ => rfl) ⟨rfl, rfl⟩
set_option maxRecDepth 100000 in
set_option maxHeartbeats 4000000 in
theorem kt_60 {fz : Value} {sc : Nat × (Nat → Int32)} (hfz : fz = .null ∨ fz = .retAddr 60) (N : Nat) (P : Nat → Option Nat) (vl kp : Option Nat) (Mo : Nat → aC) (R : List aC) (d : Nat) (hd : 2 ≤ d) (x0 : Nat) (x1 : Int32) (C : mS) (r : Int32) (C' : mS) (hf : k_60 N P vl R x0 x1 C = some (r, C')) : v_V fz sc d 60 0 [some (.ref x0), some (.int x1), some (.ref 18)] [] (hX C P vl kp Mo R) (fun rv h' => rv = some (.int r) ∧ h' = hX C' P vl kp Mo R) := by
  unfold k_60 at hf
  obtain ⟨d, rfl⟩ : ∃ z, d = z + 1 := ⟨d - 1, by omega⟩
  obtain ⟨r1, C1, hc, hf⟩ := m_bd_ok hf
  refine v_call 3 (k' := 8) (i' := 3) (E := [some (.ref 18), some (.int (51 : Int32))]) (L' := [some (.ref x0), some (.int x1), some (.ref 18)]) (rest := []) (h1 := (hX C P vl kp Mo R)) (fun _ => rfl) ?_
  refine v_post (kt_8 hfz N P vl kp Mo R d (by omega) (51 : Int32) C _ _ hc) ?_
  rintro rv h' ⟨rfl, rfl⟩
  obtain ⟨ci3, ka3, nu3, va3, ho_x0, hf⟩ := m_ob_ok hf
  obtain ⟨r2, C2, hc, hf⟩ := m_bd_ok hf
  refine v_blk 3 (i' := 6) (L' := [some (.ref x0), some (.int x1), some (.ref 18)]) (st' := [(.ref 18), (.int x1), (.ref x0)]) (h' := (hX C1 P vl kp Mo R)) (fun _ => rfl) ?_
  refine v_s7 (E := [some (.ref x0), some (.int x1), some (.ref 18)]) (rest := []) rfl rfl rfl (bdr_ok ho_x0) rfl rfl rfl ?_
  refine v_post (kt_5 hfz N P vl kp Mo R d (by omega) x0 x1 C1 _ _ hc) ?_
  rintro rv h' ⟨rfl, rfl⟩
  refine v_blk 1 (i' := 8) (L' := [some (.ref x0), some (.int x1), some (.ref 18)]) (st' := [(.ref x0), (.int r2)]) (h' := (hX C2 P vl kp Mo R)) (fun _ => rfl) ?_
  obtain ⟨hg_x0_0_1_3_4_6_7_8, hf⟩ := a_bif hf
  refine v_gf rfl rfl rfl (bdr_ok ho_x0) rfl hg_x0_0_1_3_4_6_7_8 ?_
  obtain ⟨rfl, rfl⟩ := m_rt hf
  exact v_ret 2 (fun _ => rfl) ⟨rfl, rfl⟩
set_option maxRecDepth 100000 in
set_option maxHeartbeats 4000000 in
theorem kt_6 {fz : Value} {sc : Nat × (Nat → Int32)} (hfz : fz = .null ∨ fz = .retAddr 60) (N : Nat) (P : Nat → Option Nat) (vl kp : Option Nat) (Mo : Nat → aC) (R : List aC) (d : Nat) (hd : 3 ≤ d) (x0 : Nat) (x1 : Int32) (C : mS) (r : Int32) (C' : mS) (hf : k_6 N P vl R x0 x1 C = some (r, C')) : v_V fz sc d 6 0 [some (.ref x0), some (.int x1), some (.ref 18)] [] (hX C P vl kp Mo R) (fun rv h' => rv = some (.int r) ∧ h' = hX C' P vl kp Mo R) := by
  unfold k_6 at hf
  obtain ⟨d, rfl⟩ : ∃ z, d = z + 1 := ⟨d - 1, by omega⟩
  obtain ⟨r1, C1, hc, hf⟩ := m_bd_ok hf
  refine v_call 3 (k' := 8) (i' := 3) (E := [some (.ref 18), some (.int (2 : Int32))]) (L' := [some (.ref x0), some (.int x1), some (.ref 18)]) (rest := []) (h1 := (hX C P vl kp Mo R)) (fun _ => rfl) ?_
  refine v_post (kt_8 hfz N P vl kp Mo R d (by omega) (2 : Int32) C _ _ hc) ?_
  rintro rv h' ⟨rfl, rfl⟩
  obtain ⟨ci3, ka3, nu3, va3, ho_x0, hf⟩ := m_ob_ok hf
  obtain ⟨r2, C2, hc, hf⟩ := m_bd_ok hf
  refine v_blk 3 (i' := 6) (L' := [some (.ref x0), some (.int x1), some (.ref 18)]) (st' := [(.ref 18), (.int x1), (.ref x0)]) (h' := (hX C1 P vl kp Mo R)) (fun _ => rfl) ?_
  by_cases hb : ci3 = 0
  · rw [if_pos hb] at hc
    refine v_vc (E := [some (.ref x0), some (.int x1), some (.ref 18)]) (rest := []) rfl rfl rfl (bdr_ok ho_x0) (by rw [hb]; rfl) rfl rfl rfl ?_
    refine v_post (kt_5 hfz N P vl kp Mo R d (by omega) x0 x1 C1 _ _ hc) ?_
    rintro rv h' ⟨rfl, rfl⟩
    refine v_blk 1 (i' := 8) (L' := [some (.ref x0), some (.int x1), some (.ref 18)]) (st' := [(.ref x0), (.int r2)]) (h' := (hX C2 P vl kp Mo R)) (fun _ => rfl) ?_
    obtain ⟨hg_x0_0_1_3_4_6_7_8, hf⟩ := a_bif hf
    refine v_gf rfl rfl rfl (bdr_ok ho_x0) rfl hg_x0_0_1_3_4_6_7_8 ?_
    obtain ⟨rfl, rfl⟩ := m_rt hf
    exact v_ret 2 (fun _ => rfl) ⟨rfl, rfl⟩
  rw [if_neg hb] at hc
  by_cases hb : ci3 = 1
  · rw [if_pos hb] at hc
    refine v_vc (E := [some (.ref x0), some (.int x1), some (.ref 18)]) (rest := []) rfl rfl rfl (bdr_ok ho_x0) (by rw [hb]; rfl) rfl rfl rfl ?_
    refine v_post (kt_5 hfz N P vl kp Mo R d (by omega) x0 x1 C1 _ _ hc) ?_
    rintro rv h' ⟨rfl, rfl⟩
    refine v_blk 1 (i' := 8) (L' := [some (.ref x0), some (.int x1), some (.ref 18)]) (st' := [(.ref x0), (.int r2)]) (h' := (hX C2 P vl kp Mo R)) (fun _ => rfl) ?_
    obtain ⟨hg_x0_0_1_3_4_6_7_8, hf⟩ := a_bif hf
    refine v_gf rfl rfl rfl (bdr_ok ho_x0) rfl hg_x0_0_1_3_4_6_7_8 ?_
    obtain ⟨rfl, rfl⟩ := m_rt hf
    exact v_ret 2 (fun _ => rfl) ⟨rfl, rfl⟩
  rw [if_neg hb] at hc
  by_cases hb : ci3 = 3
  · rw [if_pos hb] at hc
    refine v_vc (E := [some (.ref x0), some (.int x1), some (.ref 18)]) (rest := []) rfl rfl rfl (bdr_ok ho_x0) (by rw [hb]; rfl) rfl rfl rfl ?_
    refine v_post (kt_5 hfz N P vl kp Mo R d (by omega) x0 x1 C1 _ _ hc) ?_
    rintro rv h' ⟨rfl, rfl⟩
    refine v_blk 1 (i' := 8) (L' := [some (.ref x0), some (.int x1), some (.ref 18)]) (st' := [(.ref x0), (.int r2)]) (h' := (hX C2 P vl kp Mo R)) (fun _ => rfl) ?_
    obtain ⟨hg_x0_0_1_3_4_6_7_8, hf⟩ := a_bif hf
    refine v_gf rfl rfl rfl (bdr_ok ho_x0) rfl hg_x0_0_1_3_4_6_7_8 ?_
    obtain ⟨rfl, rfl⟩ := m_rt hf
    exact v_ret 2 (fun _ => rfl) ⟨rfl, rfl⟩
  rw [if_neg hb] at hc
  by_cases hb : ci3 = 4
  · rw [if_pos hb] at hc
    refine v_vc (E := [some (.ref x0), some (.int x1), some (.ref 18)]) (rest := []) rfl rfl rfl (bdr_ok ho_x0) (by rw [hb]; rfl) rfl rfl rfl ?_
    refine v_post (kt_38 hfz N P vl kp Mo R d (by omega) x0 x1 C1 _ _ hc) ?_
    rintro rv h' ⟨rfl, rfl⟩
    refine v_blk 1 (i' := 8) (L' := [some (.ref x0), some (.int x1), some (.ref 18)]) (st' := [(.ref x0), (.int r2)]) (h' := (hX C2 P vl kp Mo R)) (fun _ => rfl) ?_
    obtain ⟨hg_x0_0_1_3_4_6_7_8, hf⟩ := a_bif hf
    refine v_gf rfl rfl rfl (bdr_ok ho_x0) rfl hg_x0_0_1_3_4_6_7_8 ?_
    obtain ⟨rfl, rfl⟩ := m_rt hf
    exact v_ret 2 (fun _ => rfl) ⟨rfl, rfl⟩
  rw [if_neg hb] at hc
  by_cases hb : ci3 = 6
  · rw [if_pos hb] at hc
    refine v_vc (E := [some (.ref x0), some (.int x1), some (.ref 18)]) (rest := []) rfl rfl rfl (bdr_ok ho_x0) (by rw [hb]; rfl) rfl rfl rfl ?_
    refine v_post (kt_38 hfz N P vl kp Mo R d (by omega) x0 x1 C1 _ _ hc) ?_
    rintro rv h' ⟨rfl, rfl⟩
    refine v_blk 1 (i' := 8) (L' := [some (.ref x0), some (.int x1), some (.ref 18)]) (st' := [(.ref x0), (.int r2)]) (h' := (hX C2 P vl kp Mo R)) (fun _ => rfl) ?_
    obtain ⟨hg_x0_0_1_3_4_6_7_8, hf⟩ := a_bif hf
    refine v_gf rfl rfl rfl (bdr_ok ho_x0) rfl hg_x0_0_1_3_4_6_7_8 ?_
    obtain ⟨rfl, rfl⟩ := m_rt hf
    exact v_ret 2 (fun _ => rfl) ⟨rfl, rfl⟩
  rw [if_neg hb] at hc
  by_cases hb : ci3 = 7
  · rw [if_pos hb] at hc
    refine v_vc (E := [some (.ref x0), some (.int x1), some (.ref 18)]) (rest := []) rfl rfl rfl (bdr_ok ho_x0) (by rw [hb]; rfl) rfl rfl rfl ?_
    refine v_post (kt_60 hfz N P vl kp Mo R d (by omega) x0 x1 C1 _ _ hc) ?_
    rintro rv h' ⟨rfl, rfl⟩
    refine v_blk 1 (i' := 8) (L' := [some (.ref x0), some (.int x1), some (.ref 18)]) (st' := [(.ref x0), (.int r2)]) (h' := (hX C2 P vl kp Mo R)) (fun _ => rfl) ?_
    obtain ⟨hg_x0_0_1_3_4_6_7_8, hf⟩ := a_bif hf
    refine v_gf rfl rfl rfl (bdr_ok ho_x0) rfl hg_x0_0_1_3_4_6_7_8 ?_
    obtain ⟨rfl, rfl⟩ := m_rt hf
    exact v_ret 2 (fun _ => rfl) ⟨rfl, rfl⟩
  rw [if_neg hb] at hc
  by_cases hb : ci3 = 8
  · rw [if_pos hb] at hc
    refine v_vc (E := [some (.ref x0), some (.int x1), some (.ref 18)]) (rest := []) rfl rfl rfl (bdr_ok ho_x0) (by rw [hb]; rfl) rfl rfl rfl ?_
    refine v_post (kt_5 hfz N P vl kp Mo R d (by omega) x0 x1 C1 _ _ hc) ?_
    rintro rv h' ⟨rfl, rfl⟩
    refine v_blk 1 (i' := 8) (L' := [some (.ref x0), some (.int x1), some (.ref 18)]) (st' := [(.ref x0), (.int r2)]) (h' := (hX C2 P vl kp Mo R)) (fun _ => rfl) ?_
    obtain ⟨hg_x0_0_1_3_4_6_7_8, hf⟩ := a_bif hf
    refine v_gf rfl rfl rfl (bdr_ok ho_x0) rfl hg_x0_0_1_3_4_6_7_8 ?_
    obtain ⟨rfl, rfl⟩ := m_rt hf
    exact v_ret 2 (fun _ => rfl) ⟨rfl, rfl⟩
  rw [if_neg hb] at hc
  cases hc
set_option maxRecDepth 100000 in
set_option maxHeartbeats 4000000 in
theorem kt_35 {fz : Value} {sc : Nat × (Nat → Int32)} (hfz : fz = .null ∨ fz = .retAddr 60) (N : Nat) (P : Nat → Option Nat) (vl kp : Option Nat) (Mo : Nat → aC) (R : List aC) (d : Nat) (hd : 4 ≤ d) (x0 : Nat) (x1 : Int32) (C : mS) (r : Int32) (C' : mS) (hf : k_35 N P vl R x0 x1 C = some (r, C')) : v_V fz sc d 35 0 [some (.ref x0), some (.int x1), some (.ref 18)] [] (hX C P vl kp Mo R) (fun rv h' => rv = some (.int r) ∧ h' = hX C' P vl kp Mo R) := by
  unfold k_35 at hf
  obtain ⟨d, rfl⟩ : ∃ z, d = z + 1 := ⟨d - 1, by omega⟩
  obtain ⟨r1, C1, hc, hf⟩ := m_bd_ok hf
  refine v_call 3 (k' := 8) (i' := 3) (E := [some (.ref 18), some (.int (21 : Int32))]) (L' := [some (.ref x0), some (.int x1), some (.ref 18)]) (rest := []) (h1 := (hX C P vl kp Mo R)) (fun _ => rfl) ?_
  refine v_post (kt_8 hfz N P vl kp Mo R d (by omega) (21 : Int32) C _ _ hc) ?_
  rintro rv h' ⟨rfl, rfl⟩
  obtain ⟨ci3, ka3, nu3, va3, ho_x0, hf⟩ := m_ob_ok hf
  obtain ⟨r2, C2, hc, hf⟩ := m_bd_ok hf
  refine v_blk 3 (i' := 6) (L' := [some (.ref x0), some (.int x1), some (.ref 18)]) (st' := [(.ref 18), (.int x1), (.ref x0)]) (h' := (hX C1 P vl kp Mo R)) (fun _ => rfl) ?_
  refine v_s2 (E := [some (.ref x0), some (.int x1), some (.ref 18)]) (rest := []) rfl rfl rfl (bdr_ok ho_x0) rfl rfl rfl ?_
  refine v_post (kt_6 hfz N P vl kp Mo R d (by omega) x0 x1 C1 _ _ hc) ?_
  rintro rv h' ⟨rfl, rfl⟩
  obtain ⟨rfl, rfl⟩ := m_rt hf
  exact v_ret 2 (fun _ => rfl) ⟨rfl, rfl⟩
set_option maxRecDepth 100000 in
set_option maxHeartbeats 4000000 in
theorem kt_63 {fz : Value} {sc : Nat × (Nat → Int32)} (hfz : fz = .null ∨ fz = .retAddr 60) (N : Nat) (P : Nat → Option Nat) (vl kp : Option Nat) (Mo : Nat → aC) (R : List aC) (d : Nat) (hd : 5 ≤ d) (x0 : Nat) (x1 : Int32) (C : mS) (r : Int32) (C' : mS) (hf : k_63 N P vl R x0 x1 C = some (r, C')) : v_V fz sc d 63 0 [some (.ref x0), some (.int x1), some (.ref 18)] [] (hX C P vl kp Mo R) (fun rv h' => rv = some (.int r) ∧ h' = hX C' P vl kp Mo R) := by
  unfold k_63 at hf
  obtain ⟨d, rfl⟩ : ∃ z, d = z + 1 := ⟨d - 1, by omega⟩
  obtain ⟨r1, C1, hc, hf⟩ := m_bd_ok hf
  refine v_call 3 (k' := 8) (i' := 3) (E := [some (.ref 18), some (.int (61 : Int32))]) (L' := [some (.ref x0), some (.int x1), some (.ref 18)]) (rest := []) (h1 := (hX C P vl kp Mo R)) (fun _ => rfl) ?_
  refine v_post (kt_8 hfz N P vl kp Mo R d (by omega) (61 : Int32) C _ _ hc) ?_
  rintro rv h' ⟨rfl, rfl⟩
  obtain ⟨ci3, ka3, nu3, va3, ho_x0, hf⟩ := m_ob_ok hf
  obtain ⟨r2, C2, hc, hf⟩ := m_bd_ok hf
  refine v_blk 3 (i' := 6) (L' := [some (.ref x0), some (.int x1), some (.ref 18)]) (st' := [(.ref 18), (.int x1), (.ref x0)]) (h' := (hX C1 P vl kp Mo R)) (fun _ => rfl) ?_
  refine v_s2 (E := [some (.ref x0), some (.int x1), some (.ref 18)]) (rest := []) rfl rfl rfl (bdr_ok ho_x0) rfl rfl rfl ?_
  refine v_post (kt_35 hfz N P vl kp Mo R d (by omega) x0 x1 C1 _ _ hc) ?_
  rintro rv h' ⟨rfl, rfl⟩
  refine v_blk 1 (i' := 8) (L' := [some (.ref x0), some (.int x1), some (.ref 18)]) (st' := [(.ref x0), (.int r2)]) (h' := (hX C2 P vl kp Mo R)) (fun _ => rfl) ?_
  obtain ⟨hg_x0_0_1_3_4_6_7_8, hf⟩ := a_bif hf
  refine v_gf rfl rfl rfl (bdr_ok ho_x0) rfl hg_x0_0_1_3_4_6_7_8 ?_
  obtain ⟨rfl, rfl⟩ := m_rt hf
  exact v_ret 2 (fun _ => rfl) ⟨rfl, rfl⟩
set_option maxRecDepth 100000 in
set_option maxHeartbeats 4000000 in
theorem kt_7 {fz : Value} {sc : Nat × (Nat → Int32)} (hfz : fz = .null ∨ fz = .retAddr 60) (N : Nat) (P : Nat → Option Nat) (vl kp : Option Nat) (Mo : Nat → aC) (R : List aC) (d : Nat) (hd : 6 ≤ d) (x0 : Nat) (x1 : Int32) (C : mS) (r : Int32) (C' : mS) (hf : k_7 N P vl R x0 x1 C = some (r, C')) : v_V fz sc d 7 0 [some (.ref x0), some (.int x1), some (.ref 18)] [] (hX C P vl kp Mo R) (fun rv h' => rv = some (.int r) ∧ h' = hX C' P vl kp Mo R) := by
  unfold k_7 at hf
  obtain ⟨d, rfl⟩ : ∃ z, d = z + 1 := ⟨d - 1, by omega⟩
  obtain ⟨r1, C1, hc, hf⟩ := m_bd_ok hf
  refine v_call 3 (k' := 8) (i' := 3) (E := [some (.ref 18), some (.int (3 : Int32))]) (L' := [some (.ref x0), some (.int x1), some (.ref 18)]) (rest := []) (h1 := (hX C P vl kp Mo R)) (fun _ => rfl) ?_
  refine v_post (kt_8 hfz N P vl kp Mo R d (by omega) (3 : Int32) C _ _ hc) ?_
  rintro rv h' ⟨rfl, rfl⟩
  obtain ⟨ci3, ka3, nu3, va3, ho_x0, hf⟩ := m_ob_ok hf
  obtain ⟨r2, C2, hc, hf⟩ := m_bd_ok hf
  refine v_blk 3 (i' := 6) (L' := [some (.ref x0), some (.int x1), some (.ref 18)]) (st' := [(.ref 18), (.int x1), (.ref x0)]) (h' := (hX C1 P vl kp Mo R)) (fun _ => rfl) ?_
  by_cases hb : ci3 = 0
  · rw [if_pos hb] at hc
    refine v_vc (E := [some (.ref x0), some (.int x1), some (.ref 18)]) (rest := []) rfl rfl rfl (bdr_ok ho_x0) (by rw [hb]; rfl) rfl rfl rfl ?_
    refine v_post (kt_6 hfz N P vl kp Mo R d (by omega) x0 x1 C1 _ _ hc) ?_
    rintro rv h' ⟨rfl, rfl⟩
    obtain ⟨rfl, rfl⟩ := m_rt hf
    exact v_ret 3 (fun _ => rfl) ⟨rfl, rfl⟩
  rw [if_neg hb] at hc
  by_cases hb : ci3 = 1
  · rw [if_pos hb] at hc
    refine v_vc (E := [some (.ref x0), some (.int x1), some (.ref 18)]) (rest := []) rfl rfl rfl (bdr_ok ho_x0) (by rw [hb]; rfl) rfl rfl rfl ?_
    refine v_post (kt_6 hfz N P vl kp Mo R d (by omega) x0 x1 C1 _ _ hc) ?_
    rintro rv h' ⟨rfl, rfl⟩
    obtain ⟨rfl, rfl⟩ := m_rt hf
    exact v_ret 3 (fun _ => rfl) ⟨rfl, rfl⟩
  rw [if_neg hb] at hc
  by_cases hb : ci3 = 3
  · rw [if_pos hb] at hc
    refine v_vc (E := [some (.ref x0), some (.int x1), some (.ref 18)]) (rest := []) rfl rfl rfl (bdr_ok ho_x0) (by rw [hb]; rfl) rfl rfl rfl ?_
    refine v_post (kt_35 hfz N P vl kp Mo R d (by omega) x0 x1 C1 _ _ hc) ?_
    rintro rv h' ⟨rfl, rfl⟩
    obtain ⟨rfl, rfl⟩ := m_rt hf
    exact v_ret 3 (fun _ => rfl) ⟨rfl, rfl⟩
  rw [if_neg hb] at hc
  by_cases hb : ci3 = 4
  · rw [if_pos hb] at hc
    refine v_vc (E := [some (.ref x0), some (.int x1), some (.ref 18)]) (rest := []) rfl rfl rfl (bdr_ok ho_x0) (by rw [hb]; rfl) rfl rfl rfl ?_
    refine v_post (kt_6 hfz N P vl kp Mo R d (by omega) x0 x1 C1 _ _ hc) ?_
    rintro rv h' ⟨rfl, rfl⟩
    obtain ⟨rfl, rfl⟩ := m_rt hf
    exact v_ret 3 (fun _ => rfl) ⟨rfl, rfl⟩
  rw [if_neg hb] at hc
  by_cases hb : ci3 = 6
  · rw [if_pos hb] at hc
    refine v_vc (E := [some (.ref x0), some (.int x1), some (.ref 18)]) (rest := []) rfl rfl rfl (bdr_ok ho_x0) (by rw [hb]; rfl) rfl rfl rfl ?_
    refine v_post (kt_6 hfz N P vl kp Mo R d (by omega) x0 x1 C1 _ _ hc) ?_
    rintro rv h' ⟨rfl, rfl⟩
    obtain ⟨rfl, rfl⟩ := m_rt hf
    exact v_ret 3 (fun _ => rfl) ⟨rfl, rfl⟩
  rw [if_neg hb] at hc
  by_cases hb : ci3 = 7
  · rw [if_pos hb] at hc
    refine v_vc (E := [some (.ref x0), some (.int x1), some (.ref 18)]) (rest := []) rfl rfl rfl (bdr_ok ho_x0) (by rw [hb]; rfl) rfl rfl rfl ?_
    refine v_post (kt_35 hfz N P vl kp Mo R d (by omega) x0 x1 C1 _ _ hc) ?_
    rintro rv h' ⟨rfl, rfl⟩
    obtain ⟨rfl, rfl⟩ := m_rt hf
    exact v_ret 3 (fun _ => rfl) ⟨rfl, rfl⟩
  rw [if_neg hb] at hc
  by_cases hb : ci3 = 8
  · rw [if_pos hb] at hc
    refine v_vc (E := [some (.ref x0), some (.int x1), some (.ref 18)]) (rest := []) rfl rfl rfl (bdr_ok ho_x0) (by rw [hb]; rfl) rfl rfl rfl ?_
    refine v_post (kt_63 hfz N P vl kp Mo R d (by omega) x0 x1 C1 _ _ hc) ?_
    rintro rv h' ⟨rfl, rfl⟩
    obtain ⟨rfl, rfl⟩ := m_rt hf
    exact v_ret 3 (fun _ => rfl) ⟨rfl, rfl⟩
  rw [if_neg hb] at hc
  cases hc
set_option maxRecDepth 100000 in
set_option maxHeartbeats 4000000 in
theorem kt_2 {fz : Value} {sc : Nat × (Nat → Int32)} (hfz : fz = .null ∨ fz = .retAddr 60) (N : Nat) (P : Nat → Option Nat) (vl kp : Option Nat) (Mo : Nat → aC) (R : List aC) (d : Nat) (hd : 7 ≤ d) (x0 : Nat) (x1 : Int32) (C : mS) (r : Int32) (C' : mS) (hf : k_2 N P vl R x0 x1 C = some (r, C')) : v_V fz sc d 2 0 [some (.ref x0), some (.int x1), some (.ref 18)] [] (hX C P vl kp Mo R) (fun rv h' => rv = some (.int r) ∧ h' = hX C' P vl kp Mo R) := by
  unfold k_2 at hf
  obtain ⟨d, rfl⟩ : ∃ z, d = z + 1 := ⟨d - 1, by omega⟩
  obtain ⟨r1, C1, hc, hf⟩ := m_bd_ok hf
  refine v_call 3 (k' := 8) (i' := 3) (E := [some (.ref 18), some (.int (31 : Int32))]) (L' := [some (.ref x0), some (.int x1), some (.ref 18)]) (rest := []) (h1 := (hX C P vl kp Mo R)) (fun _ => rfl) ?_
  refine v_post (kt_8 hfz N P vl kp Mo R d (by omega) (31 : Int32) C _ _ hc) ?_
  rintro rv h' ⟨rfl, rfl⟩
  obtain ⟨ci3, ka3, nu3, va3, ho_x0, hf⟩ := m_ob_ok hf
  obtain ⟨r2, C2, hc, hf⟩ := m_bd_ok hf
  refine v_blk 3 (i' := 6) (L' := [some (.ref x0), some (.int x1), some (.ref 18)]) (st' := [(.ref 18), (.int x1), (.ref x0)]) (h' := (hX C1 P vl kp Mo R)) (fun _ => rfl) ?_
  refine v_s2 (E := [some (.ref x0), some (.int x1), some (.ref 18)]) (rest := []) rfl rfl rfl (bdr_ok ho_x0) rfl rfl rfl ?_
  refine v_post (kt_7 hfz N P vl kp Mo R d (by omega) x0 x1 C1 _ _ hc) ?_
  rintro rv h' ⟨rfl, rfl⟩
  obtain ⟨rfl, rfl⟩ := m_rt hf
  exact v_ret 3 (fun _ => rfl) ⟨rfl, rfl⟩
set_option maxRecDepth 100000 in
set_option maxHeartbeats 4000000 in
theorem kt_4 {fz : Value} {sc : Nat × (Nat → Int32)} (hfz : fz = .null ∨ fz = .retAddr 60) (N : Nat) (P : Nat → Option Nat) (vl kp : Option Nat) (Mo : Nat → aC) (R : List aC) (d : Nat) (hd : 3 ≤ d) (x0 : Nat) (x2 : Int32) (C : mS) (r : Int32) (C' : mS) (hf : k_4 N P vl R x0 x2 C = some (r, C')) : v_V fz sc d 4 0 [some (.ref x0), some (.ref 13), some (.int x2)] [] (hX C P vl kp Mo R) (fun rv h' => rv = some (.int r) ∧ h' = hX C' P vl kp Mo R) := by
  unfold k_4 at hf
  obtain ⟨d, rfl⟩ : ∃ z, d = z + 1 := ⟨d - 1, by omega⟩
  obtain ⟨r1, C1, hc, hf⟩ := m_bd_ok hf
  refine v_call 8 (k' := 32) (i' := 8) (E := [some (.ref 13), some (.ref x0), some (.int x2), some (.int (C 92 7)), some (.int (C 92 8)), none]) (L' := [some (.ref x0), some (.ref 13), some (.int x2)]) (rest := []) (h1 := (hX C P vl kp Mo R)) (fun _ => rfl) ?_
  refine v_post (kt_32 hfz N P vl kp Mo R d (by omega) (some x0) x2 (C 92 7) (C 92 8) C _ _ hc) ?_
  rintro rv h' ⟨rfl, rfl⟩
  obtain ⟨rfl, rfl⟩ := m_rt hf
  exact v_ret 1 (fun _ => rfl) ⟨rfl, rfl⟩
set_option maxRecDepth 100000 in
set_option maxHeartbeats 4000000 in
theorem kt_10 {fz : Value} {sc : Nat × (Nat → Int32)} (hfz : fz = .null ∨ fz = .retAddr 60) (N : Nat) (P : Nat → Option Nat) (vl kp : Option Nat) (Mo : Nat → aC) (R : List aC) (d : Nat) (hd : 0 ≤ d) (C : mS) (r : Int32) (C' : mS) (hf : k_10 N P vl R  C = some (r, C')) : v_V fz sc d 10 0 [some (.ref 13)] [] (hX C P vl kp Mo R) (fun rv h' => rv = none ∧ h' = hX C' P vl kp Mo R) := by
  unfold k_10 at hf
  obtain ⟨rfl, rfl⟩ := m_rt hf
  exact v_ret 25 (fun _ => rfl) ⟨rfl, rfl⟩
set_option maxRecDepth 100000 in
set_option maxHeartbeats 4000000 in
theorem kt_11 {fz : Value} {sc : Nat × (Nat → Int32)} (hfz : fz = .null ∨ fz = .retAddr 60) (N : Nat) (P : Nat → Option Nat) (vl kp : Option Nat) (Mo : Nat → aC) (R : List aC) (d : Nat) (hd : 0 ≤ d) (C : mS) (r : Int32) (C' : mS) (hf : k_11 N P vl R  C = some (r, C')) : v_V fz sc d 11 0 [some (.ref 13)] [] (hX C P vl kp Mo R) (fun rv h' => rv = none ∧ h' = hX C' P vl kp Mo R) := by
  unfold k_11 at hf
  obtain ⟨rfl, rfl⟩ := m_rt hf
  exact v_ret 25 (fun _ => rfl) ⟨rfl, rfl⟩
