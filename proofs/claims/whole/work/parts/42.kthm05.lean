/-! 42.kthm, piece 5: runs of the class's methods are their mirrored functions (by program) -/
set_option maxRecDepth 100000 in
set_option maxHeartbeats 4000000 in
theorem kt_84 {fz : Value} {sc : Nat × (Nat → Int32)} (hfz : fz = .null ∨ fz = .retAddr 60) (N : Nat) (P : Nat → Option Nat) (vl kp : Option Nat) (Mo : Nat → aC) (R : List aC) (d : Nat) (hd : 7 ≤ d) (x1 : Int32) (C : mS) (r : Int32) (C' : mS) (hf : k_84 N P vl R x1 C = some (r, C')) : v_V fz sc d 84 0 [some (.ref 0), some (.int x1), none] [] (hX C P vl kp Mo R) (fun rv h' => rv = some (.int r) ∧ h' = hX C' P vl kp Mo R) := by
  unfold k_84 at hf
  obtain ⟨d, rfl⟩ : ∃ z, d = z + 1 := ⟨d - 1, by omega⟩
  obtain ⟨r1, C1, hc, hf⟩ := m_bd_ok hf
  refine v_call 6 (k' := 69) (i' := 6) (E := [some (.ref 1), some (.int (x1 - (10 : Int32)))]) (L' := [some (.ref 0), some (.int x1), none]) (rest := []) (h1 := (hX C P vl kp Mo R)) (fun _ => rfl) ?_
  refine v_post (kt_69 hfz N P vl kp Mo R d (by omega) (x1 - (10 : Int32)) C _ _ hc) ?_
  rintro rv h' ⟨rfl, rfl⟩
  refine v_blk 3 (i' := (bif (a_ic .eq x1 (0 : Int32)) then 16 else 9)) (L' := [some (.ref 0), some (.int x1), some (.int r1)]) (st' := []) (h' := (hX C1 P vl kp Mo R)) (fun _ => rfl) ?_
  rcases Bool.eq_false_or_eq_true (a_ic .eq x1 (0 : Int32)) with hb | hb
  · have hf := a_bt hb hf
    refine v_it hb ?_
    exact kt_84_16 hfz N P vl kp Mo R (d + 1) hd x1 r1 C1 _ _ hf
  · have hf := a_be hb hf
    refine v_ie hb ?_
    refine v_blk 3 (i' := (bif (a_ic .eq x1 (1 : Int32)) then 16 else 12)) (L' := [some (.ref 0), some (.int x1), some (.int r1)]) (st' := []) (h' := (hX C1 P vl kp Mo R)) (fun _ => rfl) ?_
    rcases Bool.eq_false_or_eq_true (a_ic .eq x1 (1 : Int32)) with hb | hb
    · have hf := a_bt hb hf
      refine v_it hb ?_
      exact kt_84_16 hfz N P vl kp Mo R (d + 1) hd x1 r1 C1 _ _ hf
    · have hf := a_be hb hf
      refine v_ie hb ?_
      refine v_blk 2 (i' := (bif (a_ic .ne r1 (0 : Int32)) then 16 else 14)) (L' := [some (.ref 0), some (.int x1), some (.int r1)]) (st' := []) (h' := (hX C1 P vl kp Mo R)) (fun _ => rfl) ?_
      rcases Bool.eq_false_or_eq_true (a_ic .ne r1 (0 : Int32)) with hb | hb
      · have hf := a_bt hb hf
        refine v_it hb ?_
        exact kt_84_16 hfz N P vl kp Mo R (d + 1) hd x1 r1 C1 _ _ hf
      · have hf := a_be hb hf
        refine v_ie hb ?_
        obtain ⟨rfl, rfl⟩ := m_rt hf
        exact v_ret 2 (fun _ => rfl) ⟨rfl, rfl⟩
set_option maxRecDepth 100000 in
set_option maxHeartbeats 4000000 in
theorem kt_85_34b {fz : Value} {sc : Nat × (Nat → Int32)} (hfz : fz = .null ∨ fz = .retAddr 60) (N : Nat) (P : Nat → Option Nat) (vl kp : Option Nat) (Mo : Nat → aC) (R : List aC) (d : Nat) (hd : 7 ≤ d) (rc34 : Int32 → Int32 → Int32 → Int32 → Int32 → Int32 → Int32 → mS → Option (Int32 × mS)) (hrc34 : ∀ (x1 : Int32) (x2 : Int32) (x3 : Int32) (x4 : Int32) (x5 : Int32) (x6 : Int32) (x7 : Int32) (C : mS) (r : Int32) (C' : mS), rc34 x1 x2 x3 x4 x5 x6 x7 C = some (r, C') → v_V fz sc d 85 34 [some (.ref 0), some (.int x1), some (.int x2), some (.int x3), some (.int x4), some (.int x5), some (.int x6), some (.int x7)] [] (hX C P vl kp Mo R) (fun rv h' => rv = some (.int r) ∧ h' = hX C' P vl kp Mo R)) (x1 : Int32) (x2 : Int32) (x3 : Int32) (x4 : Int32) (x5 : Int32) (x6 : Int32) (x7 : Int32) (C : mS) (r : Int32) (C' : mS) (hf : k_85_34b N P vl R rc34 x1 x2 x3 x4 x5 x6 x7 C = some (r, C')) : v_V fz sc d 85 34 [some (.ref 0), some (.int x1), some (.int x2), some (.int x3), some (.int x4), some (.int x5), some (.int x6), some (.int x7)] [] (hX C P vl kp Mo R) (fun rv h' => rv = some (.int r) ∧ h' = hX C' P vl kp Mo R) := by
  unfold k_85_34b at hf
  obtain ⟨d, rfl⟩ : ∃ z, d = z + 1 := ⟨d - 1, by omega⟩
  refine v_blk 3 (i' := (bif (a_ic .ge x7 x1) then 59 else 37)) (L' := [some (.ref 0), some (.int x1), some (.int x2), some (.int x3), some (.int x4), some (.int x5), some (.int x6), some (.int x7)]) (st' := []) (h' := (hX C P vl kp Mo R)) (fun _ => rfl) ?_
  rcases Bool.eq_false_or_eq_true (a_ic .ge x7 x1) with hb | hb
  · have hf := a_bt hb hf
    refine v_it hb ?_
    refine v_blk 2 (i' := (bif (a_ic .eq x3 (0 : Int32)) then 68 else 61)) (L' := [some (.ref 0), some (.int x1), some (.int x2), some (.int x3), some (.int x4), some (.int x5), some (.int x6), some (.int x7)]) (st' := []) (h' := (hX C P vl kp Mo R)) (fun _ => rfl) ?_
    rcases Bool.eq_false_or_eq_true (a_ic .eq x3 (0 : Int32)) with hb | hb
    · have hf := a_bt hb hf
      refine v_it hb ?_
      refine v_blk 2 (i' := (bif (a_ic .ne x2 (0 : Int32)) then 72 else 70)) (L' := [some (.ref 0), some (.int x1), some (.int x2), some (.int x3), some (.int x4), some (.int x5), some (.int x6), some (.int x7)]) (st' := []) (h' := (hX C P vl kp Mo R)) (fun _ => rfl) ?_
      rcases Bool.eq_false_or_eq_true (a_ic .ne x2 (0 : Int32)) with hb | hb
      · have hf := a_bt hb hf
        refine v_it hb ?_
        refine v_blk 3 (i' := (bif (a_ic .ne x2 (1 : Int32)) then 77 else 75)) (L' := [some (.ref 0), some (.int x1), some (.int x2), some (.int x3), some (.int x4), some (.int x5), some (.int x6), some (.int x7)]) (st' := []) (h' := (hX C P vl kp Mo R)) (fun _ => rfl) ?_
        rcases Bool.eq_false_or_eq_true (a_ic .ne x2 (1 : Int32)) with hb | hb
        · have hf := a_bt hb hf
          refine v_it hb ?_
          obtain ⟨rfl, rfl⟩ := m_rt hf
          exact v_ret 2 (fun _ => rfl) ⟨rfl, rfl⟩
        · have hf := a_be hb hf
          refine v_ie hb ?_
          obtain ⟨rfl, rfl⟩ := m_rt hf
          exact v_ret 3 (fun _ => rfl) ⟨rfl, rfl⟩
      · have hf := a_be hb hf
        refine v_ie hb ?_
        obtain ⟨rfl, rfl⟩ := m_rt hf
        exact v_ret 3 (fun _ => rfl) ⟨rfl, rfl⟩
    · have hf := a_be hb hf
      refine v_ie hb ?_
      obtain ⟨r3, C3, hc, hf⟩ := m_bd_ok hf
      refine v_call 6 (k' := 21) (i' := 67) (E := [some (.ref 13), some (.int (x2 - (10 : Int32)))]) (L' := [some (.ref 0), some (.int x1), some (.int x2), some (.int x3), some (.int x4), some (.int x5), some (.int x6), some (.int x7)]) (rest := []) (h1 := (hX C P vl kp Mo R)) (fun _ => rfl) ?_
      refine v_post (kt_21 hfz N P vl kp Mo R d (by omega) (x2 - (10 : Int32)) C _ _ hc) ?_
      rintro rv h' ⟨rfl, rfl⟩
      obtain ⟨rfl, rfl⟩ := m_rt hf
      exact v_ret 1 (fun _ => rfl) ⟨rfl, rfl⟩
  · have hf := a_be hb hf
    refine v_ie hb ?_
    obtain ⟨r4, C4, hc, hf⟩ := m_bd_ok hf
    refine v_call 3 (k' := 12) (i' := 40) (E := [some (.ref 13), none]) (L' := [some (.ref 0), some (.int x1), some (.int x2), some (.int x3), some (.int x4), some (.int x5), some (.int x6), some (.int x7)]) (rest := []) (h1 := (hX C P vl kp Mo R)) (fun _ => rfl) ?_
    refine v_post (kt_12 hfz N P vl kp Mo R d (by omega)  C _ _ hc) ?_
    rintro rv h' ⟨rfl, rfl⟩
    obtain ⟨r5, C5, hc, hf⟩ := m_bd_ok hf
    refine v_call 9 (k' := 30) (i' := 49) (E := [some (.ref 13), some (.int (C4 92 9))]) (L' := [some (.ref 0), some (.int x1), some (.int x2), some (.int x3), some (.int (C4 92 9)), some (.int x5), some (.int x6), some (.int x7)]) (rest := [(.int x5)]) (h1 := (hX C4 P vl kp Mo R)) (fun _ => rfl) ?_
    refine v_post (kt_30 hfz N P vl kp Mo R d (by omega) (C4 92 9) C4 _ _ hc) ?_
    rintro rv h' ⟨rfl, rfl⟩
    obtain ⟨r6, C6, hc, hf⟩ := m_bd_ok hf
    refine v_call 6 (k' := 19) (i' := 55) (E := [some (.ref 13), none, none, none, none]) (L' := [some (.ref 0), some (.int x1), some (.int x2), some (.int x3), some (.int (C4 92 9)), some (.int (x5 + r5)), some (.int x6), some (.int x7)]) (rest := [(.int x6)]) (h1 := (hX C5 P vl kp Mo R)) (fun _ => rfl) ?_
    refine v_post (kt_19 hfz N P vl kp Mo R d (by omega)  C5 _ _ hc) ?_
    rintro rv h' ⟨rfl, rfl⟩
    refine v_blk 4 (i' := 34) (L' := [some (.ref 0), some (.int x1), some (.int x2), some (.int x3), some (.int (C4 92 9)), some (.int (x5 + r5)), some (.int (x6 + r6)), some (.int (x7 + (1 : Int32)))]) (st' := []) (h' := (hX C6 P vl kp Mo R)) (fun _ => rfl) ?_
    exact hrc34 x1 x2 x3 (C4 92 9) (x5 + r5) (x6 + r6) (x7 + (1 : Int32)) C6 _ _ hf
theorem kt_85_34 {fz : Value} {sc : Nat × (Nat → Int32)} (hfz : fz = .null ∨ fz = .retAddr 60) (N : Nat) (P : Nat → Option Nat) (vl kp : Option Nat) (Mo : Nat → aC) (R : List aC) (d : Nat) (hd : 7 ≤ d) : ∀ (n : Nat) (x1 : Int32) (x2 : Int32) (x3 : Int32) (x4 : Int32) (x5 : Int32) (x6 : Int32) (x7 : Int32) (C : mS) (r : Int32) (C' : mS) (hf : k_85_34 N P vl R n x1 x2 x3 x4 x5 x6 x7 C = some (r, C')), v_V fz sc d 85 34 [some (.ref 0), some (.int x1), some (.int x2), some (.int x3), some (.int x4), some (.int x5), some (.int x6), some (.int x7)] [] (hX C P vl kp Mo R) (fun rv h' => rv = some (.int r) ∧ h' = hX C' P vl kp Mo R) := by
  intro n
  induction n with
  | zero => intro x1 x2 x3 x4 x5 x6 x7 C r C' hf; cases hf
  | succ n ih =>
    intro x1 x2 x3 x4 x5 x6 x7 C r C' hf
    exact kt_85_34b hfz N P vl kp Mo R d hd (k_85_34 N P vl R n) ih x1 x2 x3 x4 x5 x6 x7 C r C' hf
set_option maxRecDepth 100000 in
set_option maxHeartbeats 4000000 in
theorem kt_85_16 {fz : Value} {sc : Nat × (Nat → Int32)} (hfz : fz = .null ∨ fz = .retAddr 60) (N : Nat) (P : Nat → Option Nat) (vl kp : Option Nat) (Mo : Nat → aC) (R : List aC) (d : Nat) (hd : 7 ≤ d) (x1 : Int32) (x2 : Int32) (x3 : Int32) (C : mS) (r : Int32) (C' : mS) (hf : k_85_16 N P vl R x1 x2 x3 C = some (r, C')) : v_V fz sc d 85 16 [some (.ref 0), some (.int x1), some (.int x2), some (.int x3), none, none, none, none] [] (hX C P vl kp Mo R) (fun rv h' => rv = some (.int r) ∧ h' = hX C' P vl kp Mo R) := by
  unfold k_85_16 at hf
  obtain ⟨d, rfl⟩ : ∃ z, d = z + 1 := ⟨d - 1, by omega⟩
  refine v_blk 2 (i' := (bif (a_ic .lt x1 (0 : Int32)) then 21 else 18)) (L' := [some (.ref 0), some (.int x1), some (.int x2), some (.int x3), none, none, none, none]) (st' := []) (h' := (hX C P vl kp Mo R)) (fun _ => rfl) ?_
  rcases Bool.eq_false_or_eq_true (a_ic .lt x1 (0 : Int32)) with hb | hb
  · have hf := a_bt hb hf
    refine v_it hb ?_
    obtain ⟨rfl, rfl⟩ := m_rt hf
    exact v_ret 2 (fun _ => rfl) ⟨rfl, rfl⟩
  · have hf := a_be hb hf
    refine v_ie hb ?_
    refine v_blk 3 (i' := (bif (a_ic .le x1 (40 : Int32)) then 23 else 21)) (L' := [some (.ref 0), some (.int x1), some (.int x2), some (.int x3), none, none, none, none]) (st' := []) (h' := (hX C P vl kp Mo R)) (fun _ => rfl) ?_
    rcases Bool.eq_false_or_eq_true (a_ic .le x1 (40 : Int32)) with hb | hb
    · have hf := a_bt hb hf
      refine v_it hb ?_
      obtain ⟨r2, C2, hc, hf⟩ := m_bd_ok hf
      refine v_call 9 (k' := 10) (i' := 32) (E := [some (.ref 13)]) (L' := [some (.ref 0), some (.int x1), some (.int x2), some (.int x3), some (.int (-5 : Int32)), some (.int (0 : Int32)), some (.int (0 : Int32)), none]) (rest := []) (h1 := (hX C P vl kp Mo R)) (fun _ => rfl) ?_
      refine v_post (kt_10 hfz N P vl kp Mo R d (by omega)  C _ _ hc) ?_
      rintro rv h' ⟨rfl, rfl⟩
      refine v_blk 2 (i' := 34) (L' := [some (.ref 0), some (.int x1), some (.int x2), some (.int x3), some (.int (-5 : Int32)), some (.int (0 : Int32)), some (.int (0 : Int32)), some (.int (0 : Int32))]) (st' := []) (h' := (hX C2 P vl kp Mo R)) (fun _ => rfl) ?_
      exact kt_85_34 hfz N P vl kp Mo R (d + 1) hd N x1 x2 x3 (-5 : Int32) (0 : Int32) (0 : Int32) (0 : Int32) C2 _ _ hf
    · have hf := a_be hb hf
      refine v_ie hb ?_
      obtain ⟨rfl, rfl⟩ := m_rt hf
      exact v_ret 2 (fun _ => rfl) ⟨rfl, rfl⟩
set_option maxRecDepth 100000 in
set_option maxHeartbeats 4000000 in
theorem kt_85 {fz : Value} {sc : Nat × (Nat → Int32)} (hfz : fz = .null ∨ fz = .retAddr 60) (N : Nat) (P : Nat → Option Nat) (vl kp : Option Nat) (Mo : Nat → aC) (R : List aC) (d : Nat) (hd : 7 ≤ d) (x1 : Int32) (x2 : Int32) (C : mS) (r : Int32) (C' : mS) (hf : k_85 N P vl R x1 x2 C = some (r, C')) : v_V fz sc d 85 0 [some (.ref 0), some (.int x1), some (.int x2), none, none, none, none, none] [] (hX C P vl kp Mo R) (fun rv h' => rv = some (.int r) ∧ h' = hX C' P vl kp Mo R) := by
  unfold k_85 at hf
  obtain ⟨d, rfl⟩ : ∃ z, d = z + 1 := ⟨d - 1, by omega⟩
  obtain ⟨r1, C1, hc, hf⟩ := m_bd_ok hf
  refine v_call 6 (k' := 69) (i' := 6) (E := [some (.ref 1), some (.int (x2 - (10 : Int32)))]) (L' := [some (.ref 0), some (.int x1), some (.int x2), none, none, none, none, none]) (rest := []) (h1 := (hX C P vl kp Mo R)) (fun _ => rfl) ?_
  refine v_post (kt_69 hfz N P vl kp Mo R d (by omega) (x2 - (10 : Int32)) C _ _ hc) ?_
  rintro rv h' ⟨rfl, rfl⟩
  refine v_blk 3 (i' := (bif (a_ic .ne r1 (0 : Int32)) then 16 else 9)) (L' := [some (.ref 0), some (.int x1), some (.int x2), some (.int r1), none, none, none, none]) (st' := []) (h' := (hX C1 P vl kp Mo R)) (fun _ => rfl) ?_
  rcases Bool.eq_false_or_eq_true (a_ic .ne r1 (0 : Int32)) with hb | hb
  · have hf := a_bt hb hf
    refine v_it hb ?_
    exact kt_85_16 hfz N P vl kp Mo R (d + 1) hd x1 x2 r1 C1 _ _ hf
  · have hf := a_be hb hf
    refine v_ie hb ?_
    refine v_blk 2 (i' := (bif (a_ic .lt x2 (0 : Int32)) then 14 else 11)) (L' := [some (.ref 0), some (.int x1), some (.int x2), some (.int r1), none, none, none, none]) (st' := []) (h' := (hX C1 P vl kp Mo R)) (fun _ => rfl) ?_
    rcases Bool.eq_false_or_eq_true (a_ic .lt x2 (0 : Int32)) with hb | hb
    · have hf := a_bt hb hf
      refine v_it hb ?_
      obtain ⟨rfl, rfl⟩ := m_rt hf
      exact v_ret 2 (fun _ => rfl) ⟨rfl, rfl⟩
    · have hf := a_be hb hf
      refine v_ie hb ?_
      refine v_blk 3 (i' := (bif (a_ic .le x2 (2 : Int32)) then 16 else 14)) (L' := [some (.ref 0), some (.int x1), some (.int x2), some (.int r1), none, none, none, none]) (st' := []) (h' := (hX C1 P vl kp Mo R)) (fun _ => rfl) ?_
      rcases Bool.eq_false_or_eq_true (a_ic .le x2 (2 : Int32)) with hb | hb
      · have hf := a_bt hb hf
        refine v_it hb ?_
        exact kt_85_16 hfz N P vl kp Mo R (d + 1) hd x1 x2 r1 C1 _ _ hf
      · have hf := a_be hb hf
        refine v_ie hb ?_
        obtain ⟨rfl, rfl⟩ := m_rt hf
        exact v_ret 2 (fun _ => rfl) ⟨rfl, rfl⟩
set_option maxRecDepth 100000 in
set_option maxHeartbeats 4000000 in
theorem kt_108_6b {fz : Value} {sc : Nat × (Nat → Int32)} (hfz : fz = .null ∨ fz = .retAddr 60) (N : Nat) (P : Nat → Option Nat) (vl kp : Option Nat) (Mo : Nat → aC) (R : List aC) (d : Nat) (hd : 4 ≤ d) (rc6 : Int32 → Int32 → Int32 → Int32 → Int32 → mS → Option (Int32 × mS)) (hrc6 : ∀ (x1 : Int32) (x2 : Int32) (x3 : Int32) (x4 : Int32) (x5 : Int32) (C : mS) (r : Int32) (C' : mS), rc6 x1 x2 x3 x4 x5 C = some (r, C') → v_V fz sc d 108 6 [some (.ref 0), some (.int x1), some (.int x2), some (.int x3), some (.int x4), some (.int x5), none] [] (hX C P vl kp Mo R) (fun rv h' => rv = none ∧ h' = hX C' P vl kp Mo R)) (x1 : Int32) (x2 : Int32) (x3 : Int32) (x4 : Int32) (x5 : Int32) (C : mS) (r : Int32) (C' : mS) (hf : k_108_6b N P vl R rc6 x1 x2 x3 x4 x5 C = some (r, C')) : v_V fz sc d 108 6 [some (.ref 0), some (.int x1), some (.int x2), some (.int x3), some (.int x4), some (.int x5), none] [] (hX C P vl kp Mo R) (fun rv h' => rv = none ∧ h' = hX C' P vl kp Mo R) := by
  unfold k_108_6b at hf
  obtain ⟨d, rfl⟩ : ∃ z, d = z + 1 := ⟨d - 1, by omega⟩
  refine v_blk 3 (i' := (bif (a_ic .ge x5 (4 : Int32)) then 42 else 9)) (L' := [some (.ref 0), some (.int x1), some (.int x2), some (.int x3), some (.int x4), some (.int x5), none]) (st' := []) (h' := (hX C P vl kp Mo R)) (fun _ => rfl) ?_
  rcases Bool.eq_false_or_eq_true (a_ic .ge x5 (4 : Int32)) with hb | hb
  · have hf := a_bt hb hf
    refine v_it hb ?_
    obtain ⟨hg, hf⟩ := a_bif hf
    refine v_grd 9 (i' := 51) (L' := [some (.ref 0), some (.int x1), some (.int x2), some (.int x3), some (.int x4), some (.int x5), none]) (st' := []) (h' := (hX (va_up C 15 (upd (C 15) (((x1 * (4 : Int32)) + x2)).toNatClampNeg x3)) P vl kp Mo R)) (fun _ => rfl) hg ?_
    obtain ⟨C1, hA, hf⟩ := m_st_ok hf
    rw [hA]
    obtain ⟨hg, hf⟩ := a_bif hf
    refine v_grd 9 (i' := 60) (L' := [some (.ref 0), some (.int x1), some (.int x2), some (.int x3), some (.int x4), some (.int x5), none]) (st' := []) (h' := (hX (va_up C1 16 (upd (C1 16) (((x1 * (4 : Int32)) + x2)).toNatClampNeg x4)) P vl kp Mo R)) (fun _ => rfl) hg ?_
    obtain ⟨C2, hA, hf⟩ := m_st_ok hf
    rw [hA]
    obtain ⟨rfl, rfl⟩ := m_rt hf
    exact v_ret 1 (fun _ => rfl) ⟨rfl, rfl⟩
  · have hf := a_be hb hf
    refine v_ie hb ?_
    obtain ⟨r3, C3, hc, hf⟩ := m_bd_ok hf
    refine v_call 10 (k' := 31) (i' := 19) (E := [some (.ref 13), some (.int x5), some (.int ((C 90 4) + x1)), some (.int x2), none, none]) (L' := [some (.ref 0), some (.int x1), some (.int x2), some (.int x3), some (.int x4), some (.int x5), none]) (rest := []) (h1 := (hX C P vl kp Mo R)) (fun _ => rfl) ?_
    refine v_post (kt_31 hfz N P vl kp Mo R d (by omega) x5 ((C 90 4) + x1) x2 C _ _ hc) ?_
    rintro rv h' ⟨rfl, rfl⟩
    obtain ⟨hg, hf⟩ := a_bif hf
    refine v_grd 10 (i' := 29) (L' := [some (.ref 0), some (.int x1), some (.int x2), some (.int x3), some (.int x4), some (.int x5), none]) (st' := [(.int ((C3 16) ((((x1 + (1 : Int32)) * (4 : Int32)) + x5)).toNatClampNeg)), (.int r3)]) (h' := (hX C3 P vl kp Mo R)) (fun _ => rfl) hg ?_
    obtain ⟨y4, hy, hf⟩ := m_li_ok hf
    rw [hy]
    refine v_blk 4 (i' := (bif (a_ic .eq x5 (0 : Int32)) then 36 else 33)) (L' := [some (.ref 0), some (.int x1), some (.int x2), some (.int x3), some (.int x4), some (.int x5), some (.int (r3 + y4))]) (st' := []) (h' := (hX C3 P vl kp Mo R)) (fun _ => rfl) ?_
    rcases Bool.eq_false_or_eq_true (a_ic .eq x5 (0 : Int32)) with hb | hb
    · have hf := a_bt hb hf
      refine v_it hb ?_
      refine v_blk 6 (i' := 6) (L' := [some (.ref 0), some (.int x1), some (.int x2), some (.int x5), some (.int (r3 + y4)), some (.int (x5 + (1 : Int32))), some (.int (r3 + y4))]) (st' := []) (h' := (hX C3 P vl kp Mo R)) (fun _ => rfl) ?_
      refine v_weak (L' := [some (.ref 0), some (.int x1), some (.int x2), some (.int x5), some (.int (r3 + y4)), some (.int (x5 + (1 : Int32))), none]) (show a_wk [some (.ref 0), some (.int x1), some (.int x2), some (.int x5), some (.int (r3 + y4)), some (.int (x5 + (1 : Int32))), none] [some (.ref 0), some (.int x1), some (.int x2), some (.int x5), some (.int (r3 + y4)), some (.int (x5 + (1 : Int32))), some (.int (r3 + y4))] from ⟨rfl, ⟨rfl, ⟨rfl, ⟨rfl, ⟨rfl, ⟨rfl, ⟨(fun v hv => by cases hv; rfl), trivial⟩⟩⟩⟩⟩⟩⟩) ?_
      exact hrc6 x1 x2 x5 (r3 + y4) (x5 + (1 : Int32)) C3 _ _ hf
    · have hf := a_be hb hf
      refine v_ie hb ?_
      refine v_blk 3 (i' := (bif (a_ic .le (r3 + y4) x4) then 40 else 36)) (L' := [some (.ref 0), some (.int x1), some (.int x2), some (.int x3), some (.int x4), some (.int x5), some (.int (r3 + y4))]) (st' := []) (h' := (hX C3 P vl kp Mo R)) (fun _ => rfl) ?_
      rcases Bool.eq_false_or_eq_true (a_ic .le (r3 + y4) x4) with hb | hb
      · have hf := a_bt hb hf
        refine v_it hb ?_
        refine v_blk 2 (i' := 6) (L' := [some (.ref 0), some (.int x1), some (.int x2), some (.int x3), some (.int x4), some (.int (x5 + (1 : Int32))), some (.int (r3 + y4))]) (st' := []) (h' := (hX C3 P vl kp Mo R)) (fun _ => rfl) ?_
        refine v_weak (L' := [some (.ref 0), some (.int x1), some (.int x2), some (.int x3), some (.int x4), some (.int (x5 + (1 : Int32))), none]) (show a_wk [some (.ref 0), some (.int x1), some (.int x2), some (.int x3), some (.int x4), some (.int (x5 + (1 : Int32))), none] [some (.ref 0), some (.int x1), some (.int x2), some (.int x3), some (.int x4), some (.int (x5 + (1 : Int32))), some (.int (r3 + y4))] from ⟨rfl, ⟨rfl, ⟨rfl, ⟨rfl, ⟨rfl, ⟨rfl, ⟨(fun v hv => by cases hv; rfl), trivial⟩⟩⟩⟩⟩⟩⟩) ?_
        exact hrc6 x1 x2 x3 x4 (x5 + (1 : Int32)) C3 _ _ hf
      · have hf := a_be hb hf
        refine v_ie hb ?_
        refine v_blk 6 (i' := 6) (L' := [some (.ref 0), some (.int x1), some (.int x2), some (.int x5), some (.int (r3 + y4)), some (.int (x5 + (1 : Int32))), some (.int (r3 + y4))]) (st' := []) (h' := (hX C3 P vl kp Mo R)) (fun _ => rfl) ?_
        refine v_weak (L' := [some (.ref 0), some (.int x1), some (.int x2), some (.int x5), some (.int (r3 + y4)), some (.int (x5 + (1 : Int32))), none]) (show a_wk [some (.ref 0), some (.int x1), some (.int x2), some (.int x5), some (.int (r3 + y4)), some (.int (x5 + (1 : Int32))), none] [some (.ref 0), some (.int x1), some (.int x2), some (.int x5), some (.int (r3 + y4)), some (.int (x5 + (1 : Int32))), some (.int (r3 + y4))] from ⟨rfl, ⟨rfl, ⟨rfl, ⟨rfl, ⟨rfl, ⟨rfl, ⟨(fun v hv => by cases hv; rfl), trivial⟩⟩⟩⟩⟩⟩⟩) ?_
        exact hrc6 x1 x2 x5 (r3 + y4) (x5 + (1 : Int32)) C3 _ _ hf
theorem kt_108_6 {fz : Value} {sc : Nat × (Nat → Int32)} (hfz : fz = .null ∨ fz = .retAddr 60) (N : Nat) (P : Nat → Option Nat) (vl kp : Option Nat) (Mo : Nat → aC) (R : List aC) (d : Nat) (hd : 4 ≤ d) : ∀ (n : Nat) (x1 : Int32) (x2 : Int32) (x3 : Int32) (x4 : Int32) (x5 : Int32) (C : mS) (r : Int32) (C' : mS) (hf : k_108_6 N P vl R n x1 x2 x3 x4 x5 C = some (r, C')), v_V fz sc d 108 6 [some (.ref 0), some (.int x1), some (.int x2), some (.int x3), some (.int x4), some (.int x5), none] [] (hX C P vl kp Mo R) (fun rv h' => rv = none ∧ h' = hX C' P vl kp Mo R) := by
  intro n
  induction n with
  | zero => intro x1 x2 x3 x4 x5 C r C' hf; cases hf
  | succ n ih =>
    intro x1 x2 x3 x4 x5 C r C' hf
    exact kt_108_6b hfz N P vl kp Mo R d hd (k_108_6 N P vl R n) ih x1 x2 x3 x4 x5 C r C' hf
set_option maxRecDepth 100000 in
set_option maxHeartbeats 4000000 in
theorem kt_108 {fz : Value} {sc : Nat × (Nat → Int32)} (hfz : fz = .null ∨ fz = .retAddr 60) (N : Nat) (P : Nat → Option Nat) (vl kp : Option Nat) (Mo : Nat → aC) (R : List aC) (d : Nat) (hd : 4 ≤ d) (x1 : Int32) (x2 : Int32) (C : mS) (r : Int32) (C' : mS) (hf : k_108 N P vl R x1 x2 C = some (r, C')) : v_V fz sc d 108 0 [some (.ref 0), some (.int x1), some (.int x2), none, none, none, none] [] (hX C P vl kp Mo R) (fun rv h' => rv = none ∧ h' = hX C' P vl kp Mo R) := by
  unfold k_108 at hf
  obtain ⟨d, rfl⟩ : ∃ z, d = z + 1 := ⟨d - 1, by omega⟩
  refine v_blk 6 (i' := 6) (L' := [some (.ref 0), some (.int x1), some (.int x2), some (.int (0 : Int32)), some (.int (0 : Int32)), some (.int (0 : Int32)), none]) (st' := []) (h' := (hX C P vl kp Mo R)) (fun _ => rfl) ?_
  exact kt_108_6 hfz N P vl kp Mo R (d + 1) hd N x1 x2 (0 : Int32) (0 : Int32) (0 : Int32) C _ _ hf
set_option maxRecDepth 100000 in
set_option maxHeartbeats 4000000 in
theorem kt_86_66b {fz : Value} {sc : Nat × (Nat → Int32)} (hfz : fz = .null ∨ fz = .retAddr 60) (N : Nat) (P : Nat → Option Nat) (vl kp : Option Nat) (Mo : Nat → aC) (R : List aC) (d : Nat) (hd : 5 ≤ d) (rc66 : Int32 → Int32 → Int32 → mS → Option (Int32 × mS)) (hrc66 : ∀ (x2 : Int32) (x3 : Int32) (x4 : Int32) (C : mS) (r : Int32) (C' : mS), rc66 x2 x3 x4 C = some (r, C') → v_V fz sc d 86 66 [some (.ref 0), none, some (.int x2), some (.int x3), some (.int x4)] [] (hX C P vl kp Mo R) (fun rv h' => rv = some (.int r) ∧ h' = hX C' P vl kp Mo R)) (x2 : Int32) (x3 : Int32) (x4 : Int32) (C : mS) (r : Int32) (C' : mS) (hf : k_86_66b N P vl R rc66 x2 x3 x4 C = some (r, C')) : v_V fz sc d 86 66 [some (.ref 0), none, some (.int x2), some (.int x3), some (.int x4)] [] (hX C P vl kp Mo R) (fun rv h' => rv = some (.int r) ∧ h' = hX C' P vl kp Mo R) := by
  unfold k_86_66b at hf
  obtain ⟨d, rfl⟩ : ∃ z, d = z + 1 := ⟨d - 1, by omega⟩
  refine v_blk 3 (i' := (bif (a_ic .gt x4 x2) then 80 else 69)) (L' := [some (.ref 0), none, some (.int x2), some (.int x3), some (.int x4)]) (st' := []) (h' := (hX C P vl kp Mo R)) (fun _ => rfl) ?_
  rcases Bool.eq_false_or_eq_true (a_ic .gt x4 x2) with hb | hb
  · have hf := a_bt hb hf
    refine v_it hb ?_
    obtain ⟨rfl, rfl⟩ := m_rt hf
    exact v_ret 2 (fun _ => rfl) ⟨rfl, rfl⟩
  · have hf := a_be hb hf
    refine v_ie hb ?_
    obtain ⟨hg, hf⟩ := a_bif hf
    refine v_grd 8 (i' := 77) (L' := [some (.ref 0), none, some (.int x2), some (.int x3), some (.int x4)]) (st' := [(.int ((C 15) (((x4 * (4 : Int32)) + x3)).toNatClampNeg))]) (h' := (hX C P vl kp Mo R)) (fun _ => rfl) hg ?_
    obtain ⟨y3, hy, hf⟩ := m_li_ok hf
    rw [hy]
    refine v_blk 3 (i' := 66) (L' := [some (.ref 0), none, some (.int x2), some (.int y3), some (.int (x4 + (1 : Int32)))]) (st' := []) (h' := (hX C P vl kp Mo R)) (fun _ => rfl) ?_
    exact hrc66 x2 y3 (x4 + (1 : Int32)) C _ _ hf
theorem kt_86_66 {fz : Value} {sc : Nat × (Nat → Int32)} (hfz : fz = .null ∨ fz = .retAddr 60) (N : Nat) (P : Nat → Option Nat) (vl kp : Option Nat) (Mo : Nat → aC) (R : List aC) (d : Nat) (hd : 5 ≤ d) : ∀ (n : Nat) (x2 : Int32) (x3 : Int32) (x4 : Int32) (C : mS) (r : Int32) (C' : mS) (hf : k_86_66 N P vl R n x2 x3 x4 C = some (r, C')), v_V fz sc d 86 66 [some (.ref 0), none, some (.int x2), some (.int x3), some (.int x4)] [] (hX C P vl kp Mo R) (fun rv h' => rv = some (.int r) ∧ h' = hX C' P vl kp Mo R) := by
  intro n
  induction n with
  | zero => intro x2 x3 x4 C r C' hf; cases hf
  | succ n ih =>
    intro x2 x3 x4 C r C' hf
    exact kt_86_66b hfz N P vl kp Mo R d hd (k_86_66 N P vl R n) ih x2 x3 x4 C r C' hf
set_option maxRecDepth 100000 in
set_option maxHeartbeats 4000000 in
theorem kt_86_40b {fz : Value} {sc : Nat × (Nat → Int32)} (hfz : fz = .null ∨ fz = .retAddr 60) (N : Nat) (P : Nat → Option Nat) (vl kp : Option Nat) (Mo : Nat → aC) (R : List aC) (d : Nat) (hd : 5 ≤ d) (rc36 : Int32 → Int32 → mS → Option (Int32 × mS)) (hrc36 : ∀ (x2 : Int32) (x3 : Int32) (C : mS) (r : Int32) (C' : mS), rc36 x2 x3 C = some (r, C') → v_V fz sc d 86 36 [some (.ref 0), none, some (.int x2), some (.int x3), none] [] (hX C P vl kp Mo R) (fun rv h' => rv = some (.int r) ∧ h' = hX C' P vl kp Mo R)) (rc40 : Int32 → Int32 → Int32 → mS → Option (Int32 × mS)) (hrc40 : ∀ (x2 : Int32) (x3 : Int32) (x4 : Int32) (C : mS) (r : Int32) (C' : mS), rc40 x2 x3 x4 C = some (r, C') → v_V fz sc d 86 40 [some (.ref 0), none, some (.int x2), some (.int x3), some (.int x4)] [] (hX C P vl kp Mo R) (fun rv h' => rv = some (.int r) ∧ h' = hX C' P vl kp Mo R)) (x2 : Int32) (x3 : Int32) (x4 : Int32) (C : mS) (r : Int32) (C' : mS) (hf : k_86_40b N P vl R rc36 rc40 x2 x3 x4 C = some (r, C')) : v_V fz sc d 86 40 [some (.ref 0), none, some (.int x2), some (.int x3), some (.int x4)] [] (hX C P vl kp Mo R) (fun rv h' => rv = some (.int r) ∧ h' = hX C' P vl kp Mo R) := by
  unfold k_86_40b at hf
  obtain ⟨d, rfl⟩ : ∃ z, d = z + 1 := ⟨d - 1, by omega⟩
  refine v_blk 3 (i' := (bif (a_ic .ge x4 (4 : Int32)) then 49 else 43)) (L' := [some (.ref 0), none, some (.int x2), some (.int x3), some (.int x4)]) (st' := []) (h' := (hX C P vl kp Mo R)) (fun _ => rfl) ?_
  rcases Bool.eq_false_or_eq_true (a_ic .ge x4 (4 : Int32)) with hb | hb
  · have hf := a_bt hb hf
    refine v_it hb ?_
    obtain ⟨y4, hy, hf⟩ := m_li_ok hf
    refine v_ii rfl rfl rfl rfl hy rfl ?_
    refine v_blk 1 (i' := 36) (L' := [some (.ref 0), none, some (.int x2), some (.int y4), some (.int x4)]) (st' := []) (h' := (hX C P vl kp Mo R)) (fun _ => rfl) ?_
    refine v_weak (L' := [some (.ref 0), none, some (.int x2), some (.int y4), none]) (show a_wk [some (.ref 0), none, some (.int x2), some (.int y4), none] [some (.ref 0), none, some (.int x2), some (.int y4), some (.int x4)] from ⟨rfl, ⟨(fun v hv => by cases hv), ⟨rfl, ⟨rfl, ⟨(fun v hv => by cases hv; rfl), trivial⟩⟩⟩⟩⟩) ?_
    exact hrc36 x2 y4 C _ _ hf
  · have hf := a_be hb hf
    refine v_ie hb ?_
    obtain ⟨r5, C5, hc, hf⟩ := m_bd_ok hf
    refine v_call 4 (k' := 108) (i' := 47) (E := [some (.ref 0), some (.int x3), some (.int x4), none, none, none, none]) (L' := [some (.ref 0), none, some (.int x2), some (.int x3), some (.int x4)]) (rest := []) (h1 := (hX C P vl kp Mo R)) (fun _ => rfl) ?_
    refine v_post (kt_108 hfz N P vl kp Mo R d (by omega) x3 x4 C _ _ hc) ?_
    rintro rv h' ⟨rfl, rfl⟩
    refine v_blk 2 (i' := 40) (L' := [some (.ref 0), none, some (.int x2), some (.int x3), some (.int (x4 + (1 : Int32)))]) (st' := []) (h' := (hX C5 P vl kp Mo R)) (fun _ => rfl) ?_
    exact hrc40 x2 x3 (x4 + (1 : Int32)) C5 _ _ hf
theorem kt_86_40 {fz : Value} {sc : Nat × (Nat → Int32)} (hfz : fz = .null ∨ fz = .retAddr 60) (N : Nat) (P : Nat → Option Nat) (vl kp : Option Nat) (Mo : Nat → aC) (R : List aC) (d : Nat) (hd : 5 ≤ d) (rc36 : Int32 → Int32 → mS → Option (Int32 × mS)) (hrc36 : ∀ (x2 : Int32) (x3 : Int32) (C : mS) (r : Int32) (C' : mS), rc36 x2 x3 C = some (r, C') → v_V fz sc d 86 36 [some (.ref 0), none, some (.int x2), some (.int x3), none] [] (hX C P vl kp Mo R) (fun rv h' => rv = some (.int r) ∧ h' = hX C' P vl kp Mo R)) : ∀ (n : Nat) (x2 : Int32) (x3 : Int32) (x4 : Int32) (C : mS) (r : Int32) (C' : mS) (hf : k_86_40 N P vl R rc36 n x2 x3 x4 C = some (r, C')), v_V fz sc d 86 40 [some (.ref 0), none, some (.int x2), some (.int x3), some (.int x4)] [] (hX C P vl kp Mo R) (fun rv h' => rv = some (.int r) ∧ h' = hX C' P vl kp Mo R) := by
  intro n
  induction n with
  | zero => intro x2 x3 x4 C r C' hf; cases hf
  | succ n ih =>
    intro x2 x3 x4 C r C' hf
    exact kt_86_40b hfz N P vl kp Mo R d hd rc36 hrc36 (k_86_40 N P vl R rc36 n) ih x2 x3 x4 C r C' hf
set_option maxRecDepth 100000 in
set_option maxHeartbeats 4000000 in
theorem kt_86_36b {fz : Value} {sc : Nat × (Nat → Int32)} (hfz : fz = .null ∨ fz = .retAddr 60) (N : Nat) (P : Nat → Option Nat) (vl kp : Option Nat) (Mo : Nat → aC) (R : List aC) (d : Nat) (hd : 5 ≤ d) (rc36 : Int32 → Int32 → mS → Option (Int32 × mS)) (hrc36 : ∀ (x2 : Int32) (x3 : Int32) (C : mS) (r : Int32) (C' : mS), rc36 x2 x3 C = some (r, C') → v_V fz sc d 86 36 [some (.ref 0), none, some (.int x2), some (.int x3), none] [] (hX C P vl kp Mo R) (fun rv h' => rv = some (.int r) ∧ h' = hX C' P vl kp Mo R)) (x2 : Int32) (x3 : Int32) (C : mS) (r : Int32) (C' : mS) (hf : k_86_36b N P vl R rc36 x2 x3 C = some (r, C')) : v_V fz sc d 86 36 [some (.ref 0), none, some (.int x2), some (.int x3), none] [] (hX C P vl kp Mo R) (fun rv h' => rv = some (.int r) ∧ h' = hX C' P vl kp Mo R) := by
  unfold k_86_36b at hf
  obtain ⟨d, rfl⟩ : ∃ z, d = z + 1 := ⟨d - 1, by omega⟩
  refine v_blk 2 (i' := (bif (a_ic .lt x3 (0 : Int32)) then 51 else 38)) (L' := [some (.ref 0), none, some (.int x2), some (.int x3), none]) (st' := []) (h' := (hX C P vl kp Mo R)) (fun _ => rfl) ?_
  rcases Bool.eq_false_or_eq_true (a_ic .lt x3 (0 : Int32)) with hb | hb
  · have hf := a_bt hb hf
    refine v_it hb ?_
    refine v_blk 2 (i' := (bif (a_ic .ge x2 (0 : Int32)) then 60 else 53)) (L' := [some (.ref 0), none, some (.int x2), some (.int x3), none]) (st' := []) (h' := (hX C P vl kp Mo R)) (fun _ => rfl) ?_
    rcases Bool.eq_false_or_eq_true (a_ic .ge x2 (0 : Int32)) with hb | hb
    · have hf := a_bt hb hf
      refine v_it hb ?_
      refine v_blk 6 (i' := 66) (L' := [some (.ref 0), none, some (.int x2), some (.int (C 90 5)), some (.int (0 : Int32))]) (st' := []) (h' := (hX C P vl kp Mo R)) (fun _ => rfl) ?_
      exact kt_86_66 hfz N P vl kp Mo R (d + 1) hd N x2 (C 90 5) (0 : Int32) C _ _ hf
    · have hf := a_be hb hf
      refine v_ie hb ?_
      obtain ⟨hg, hf⟩ := a_bif hf
      refine v_grd 6 (i' := 59) (L' := [some (.ref 0), none, some (.int x2), some (.int x3), none]) (st' := [(.int ((C 16) ((C 90 5)).toNatClampNeg))]) (h' := (hX C P vl kp Mo R)) (fun _ => rfl) hg ?_
      obtain ⟨y2, hy, hf⟩ := m_li_ok hf
      rw [hy]
      obtain ⟨rfl, rfl⟩ := m_rt hf
      exact v_ret 1 (fun _ => rfl) ⟨rfl, rfl⟩
  · have hf := a_be hb hf
    refine v_ie hb ?_
    refine v_blk 2 (i' := 40) (L' := [some (.ref 0), none, some (.int x2), some (.int x3), some (.int (0 : Int32))]) (st' := []) (h' := (hX C P vl kp Mo R)) (fun _ => rfl) ?_
    exact kt_86_40 hfz N P vl kp Mo R (d + 1) hd rc36 hrc36 N x2 x3 (0 : Int32) C _ _ hf
theorem kt_86_36 {fz : Value} {sc : Nat × (Nat → Int32)} (hfz : fz = .null ∨ fz = .retAddr 60) (N : Nat) (P : Nat → Option Nat) (vl kp : Option Nat) (Mo : Nat → aC) (R : List aC) (d : Nat) (hd : 5 ≤ d) : ∀ (n : Nat) (x2 : Int32) (x3 : Int32) (C : mS) (r : Int32) (C' : mS) (hf : k_86_36 N P vl R n x2 x3 C = some (r, C')), v_V fz sc d 86 36 [some (.ref 0), none, some (.int x2), some (.int x3), none] [] (hX C P vl kp Mo R) (fun rv h' => rv = some (.int r) ∧ h' = hX C' P vl kp Mo R) := by
  intro n
  induction n with
  | zero => intro x2 x3 C r C' hf; cases hf
  | succ n ih =>
    intro x2 x3 C r C' hf
    exact kt_86_36b hfz N P vl kp Mo R d hd (k_86_36 N P vl R n) ih x2 x3 C r C' hf
set_option maxRecDepth 100000 in
set_option maxHeartbeats 4000000 in
theorem kt_86_18b {fz : Value} {sc : Nat × (Nat → Int32)} (hfz : fz = .null ∨ fz = .retAddr 60) (N : Nat) (P : Nat → Option Nat) (vl kp : Option Nat) (Mo : Nat → aC) (R : List aC) (d : Nat) (hd : 5 ≤ d) (rc18 : Int32 → Int32 → Int32 → mS → Option (Int32 × mS)) (hrc18 : ∀ (x1 : Int32) (x2 : Int32) (x3 : Int32) (C : mS) (r : Int32) (C' : mS), rc18 x1 x2 x3 C = some (r, C') → v_V fz sc d 86 18 [some (.ref 0), some (.int x1), some (.int x2), some (.int x3), none] [] (hX C P vl kp Mo R) (fun rv h' => rv = some (.int r) ∧ h' = hX C' P vl kp Mo R)) (x1 : Int32) (x2 : Int32) (x3 : Int32) (C : mS) (r : Int32) (C' : mS) (hf : k_86_18b N P vl R rc18 x1 x2 x3 C = some (r, C')) : v_V fz sc d 86 18 [some (.ref 0), some (.int x1), some (.int x2), some (.int x3), none] [] (hX C P vl kp Mo R) (fun rv h' => rv = some (.int r) ∧ h' = hX C' P vl kp Mo R) := by
  unfold k_86_18b at hf
  obtain ⟨d, rfl⟩ : ∃ z, d = z + 1 := ⟨d - 1, by omega⟩
  refine v_blk 3 (i' := (bif (a_ic .ge x3 (4 : Int32)) then 32 else 21)) (L' := [some (.ref 0), some (.int x1), some (.int x2), some (.int x3), none]) (st' := []) (h' := (hX C P vl kp Mo R)) (fun _ => rfl) ?_
  rcases Bool.eq_false_or_eq_true (a_ic .ge x3 (4 : Int32)) with hb | hb
  · have hf := a_bt hb hf
    refine v_it hb ?_
    refine v_blk 4 (i' := 36) (L' := [some (.ref 0), some (.int x1), some (.int x2), some (.int (x1 - (1 : Int32))), none]) (st' := []) (h' := (hX C P vl kp Mo R)) (fun _ => rfl) ?_
    refine v_weak (L' := [some (.ref 0), none, some (.int x2), some (.int (x1 - (1 : Int32))), none]) (show a_wk [some (.ref 0), none, some (.int x2), some (.int (x1 - (1 : Int32))), none] [some (.ref 0), some (.int x1), some (.int x2), some (.int (x1 - (1 : Int32))), none] from ⟨rfl, ⟨(fun v hv => by cases hv; rfl), ⟨rfl, ⟨rfl, ⟨(fun v hv => by cases hv), trivial⟩⟩⟩⟩⟩) ?_
    exact kt_86_36 hfz N P vl kp Mo R (d + 1) hd N x2 (x1 - (1 : Int32)) C _ _ hf
  · have hf := a_be hb hf
    refine v_ie hb ?_
    obtain ⟨hg, hf⟩ := a_bif hf
    refine v_grd 9 (i' := 30) (L' := [some (.ref 0), some (.int x1), some (.int x2), some (.int x3), none]) (st' := []) (h' := (hX (va_up C 16 (upd (C 16) (((x1 * (4 : Int32)) + x3)).toNatClampNeg (0 : Int32))) P vl kp Mo R)) (fun _ => rfl) hg ?_
    obtain ⟨C1, hA, hf⟩ := m_st_ok hf
    rw [hA]
    refine v_blk 2 (i' := 18) (L' := [some (.ref 0), some (.int x1), some (.int x2), some (.int (x3 + (1 : Int32))), none]) (st' := []) (h' := (hX C1 P vl kp Mo R)) (fun _ => rfl) ?_
    exact hrc18 x1 x2 (x3 + (1 : Int32)) C1 _ _ hf
theorem kt_86_18 {fz : Value} {sc : Nat × (Nat → Int32)} (hfz : fz = .null ∨ fz = .retAddr 60) (N : Nat) (P : Nat → Option Nat) (vl kp : Option Nat) (Mo : Nat → aC) (R : List aC) (d : Nat) (hd : 5 ≤ d) : ∀ (n : Nat) (x1 : Int32) (x2 : Int32) (x3 : Int32) (C : mS) (r : Int32) (C' : mS) (hf : k_86_18 N P vl R n x1 x2 x3 C = some (r, C')), v_V fz sc d 86 18 [some (.ref 0), some (.int x1), some (.int x2), some (.int x3), none] [] (hX C P vl kp Mo R) (fun rv h' => rv = some (.int r) ∧ h' = hX C' P vl kp Mo R) := by
  intro n
  induction n with
  | zero => intro x1 x2 x3 C r C' hf; cases hf
  | succ n ih =>
    intro x1 x2 x3 C r C' hf
    exact kt_86_18b hfz N P vl kp Mo R d hd (k_86_18 N P vl R n) ih x1 x2 x3 C r C' hf
set_option maxRecDepth 100000 in
set_option maxHeartbeats 4000000 in
theorem kt_86 {fz : Value} {sc : Nat × (Nat → Int32)} (hfz : fz = .null ∨ fz = .retAddr 60) (N : Nat) (P : Nat → Option Nat) (vl kp : Option Nat) (Mo : Nat → aC) (R : List aC) (d : Nat) (hd : 5 ≤ d) (x1 : Int32) (x2 : Int32) (C : mS) (r : Int32) (C' : mS) (hf : k_86 N P vl R x1 x2 C = some (r, C')) : v_V fz sc d 86 0 [some (.ref 0), some (.int x1), some (.int x2), none, none] [] (hX C P vl kp Mo R) (fun rv h' => rv = some (.int r) ∧ h' = hX C' P vl kp Mo R) := by
  unfold k_86 at hf
  obtain ⟨d, rfl⟩ : ∃ z, d = z + 1 := ⟨d - 1, by omega⟩
  refine v_blk 3 (i' := (bif (a_ic .lt x1 (1 : Int32)) then 6 else 3)) (L' := [some (.ref 0), some (.int x1), some (.int x2), none, none]) (st' := []) (h' := (hX C P vl kp Mo R)) (fun _ => rfl) ?_
  rcases Bool.eq_false_or_eq_true (a_ic .lt x1 (1 : Int32)) with hb | hb
  · have hf := a_bt hb hf
    refine v_it hb ?_
    obtain ⟨rfl, rfl⟩ := m_rt hf
    exact v_ret 2 (fun _ => rfl) ⟨rfl, rfl⟩
  · have hf := a_be hb hf
    refine v_ie hb ?_
    refine v_blk 3 (i' := (bif (a_ic .le x1 (8 : Int32)) then 8 else 6)) (L' := [some (.ref 0), some (.int x1), some (.int x2), none, none]) (st' := []) (h' := (hX C P vl kp Mo R)) (fun _ => rfl) ?_
    rcases Bool.eq_false_or_eq_true (a_ic .le x1 (8 : Int32)) with hb | hb
    · have hf := a_bt hb hf
      refine v_it hb ?_
      refine v_blk 3 (i' := (bif (a_ic .lt x2 (-1 : Int32)) then 14 else 11)) (L' := [some (.ref 0), some (.int x1), some (.int x2), none, none]) (st' := []) (h' := (hX C P vl kp Mo R)) (fun _ => rfl) ?_
      rcases Bool.eq_false_or_eq_true (a_ic .lt x2 (-1 : Int32)) with hb | hb
      · have hf := a_bt hb hf
        refine v_it hb ?_
        obtain ⟨rfl, rfl⟩ := m_rt hf
        exact v_ret 2 (fun _ => rfl) ⟨rfl, rfl⟩
      · have hf := a_be hb hf
        refine v_ie hb ?_
        refine v_blk 3 (i' := (bif (a_ic .lt x2 x1) then 16 else 14)) (L' := [some (.ref 0), some (.int x1), some (.int x2), none, none]) (st' := []) (h' := (hX C P vl kp Mo R)) (fun _ => rfl) ?_
        rcases Bool.eq_false_or_eq_true (a_ic .lt x2 x1) with hb | hb
        · have hf := a_bt hb hf
          refine v_it hb ?_
          refine v_blk 2 (i' := 18) (L' := [some (.ref 0), some (.int x1), some (.int x2), some (.int (0 : Int32)), none]) (st' := []) (h' := (hX C P vl kp Mo R)) (fun _ => rfl) ?_
          exact kt_86_18 hfz N P vl kp Mo R (d + 1) hd N x1 x2 (0 : Int32) C _ _ hf
        · have hf := a_be hb hf
          refine v_ie hb ?_
          obtain ⟨rfl, rfl⟩ := m_rt hf
          exact v_ret 2 (fun _ => rfl) ⟨rfl, rfl⟩
    · have hf := a_be hb hf
      refine v_ie hb ?_
      obtain ⟨rfl, rfl⟩ := m_rt hf
      exact v_ret 2 (fun _ => rfl) ⟨rfl, rfl⟩
set_option maxRecDepth 100000 in
set_option maxHeartbeats 4000000 in
theorem kt_87_43b {fz : Value} {sc : Nat × (Nat → Int32)} (hfz : fz = .null ∨ fz = .retAddr 60) (N : Nat) (P : Nat → Option Nat) (vl kp : Option Nat) (Mo : Nat → aC) (R : List aC) (d : Nat) (hd : 7 ≤ d) (rc38 : Int32 → Int32 → Int32 → Int32 → Int32 → Int32 → Int32 → Int32 → mS → Option (Int32 × mS)) (hrc38 : ∀ (x1 : Int32) (x2 : Int32) (x3 : Int32) (x4 : Int32) (x5 : Int32) (x6 : Int32) (x7 : Int32) (x8 : Int32) (C : mS) (r : Int32) (C' : mS), rc38 x1 x2 x3 x4 x5 x6 x7 x8 C = some (r, C') → v_V fz sc d 87 38 [some (.ref 0), some (.int x1), some (.int x2), some (.int x3), some (.int x4), some (.int x5), some (.int x6), some (.int x7), some (.int x8), none, none] [] (hX C P vl kp Mo R) (fun rv h' => rv = some (.int r) ∧ h' = hX C' P vl kp Mo R)) (rc43 : Int32 → Int32 → Int32 → Int32 → Int32 → Int32 → Int32 → Int32 → Int32 → mS → Option (Int32 × mS)) (hrc43 : ∀ (x1 : Int32) (x2 : Int32) (x3 : Int32) (x4 : Int32) (x5 : Int32) (x6 : Int32) (x7 : Int32) (x8 : Int32) (x9 : Int32) (C : mS) (r : Int32) (C' : mS), rc43 x1 x2 x3 x4 x5 x6 x7 x8 x9 C = some (r, C') → v_V fz sc d 87 43 [some (.ref 0), some (.int x1), some (.int x2), some (.int x3), some (.int x4), some (.int x5), some (.int x6), some (.int x7), some (.int x8), some (.int x9), none] [] (hX C P vl kp Mo R) (fun rv h' => rv = some (.int r) ∧ h' = hX C' P vl kp Mo R)) (x1 : Int32) (x2 : Int32) (x3 : Int32) (x4 : Int32) (x5 : Int32) (x6 : Int32) (x7 : Int32) (x8 : Int32) (x9 : Int32) (C : mS) (r : Int32) (C' : mS) (hf : k_87_43b N P vl R rc38 rc43 x1 x2 x3 x4 x5 x6 x7 x8 x9 C = some (r, C')) : v_V fz sc d 87 43 [some (.ref 0), some (.int x1), some (.int x2), some (.int x3), some (.int x4), some (.int x5), some (.int x6), some (.int x7), some (.int x8), some (.int x9), none] [] (hX C P vl kp Mo R) (fun rv h' => rv = some (.int r) ∧ h' = hX C' P vl kp Mo R) := by
  unfold k_87_43b at hf
  obtain ⟨d, rfl⟩ : ∃ z, d = z + 1 := ⟨d - 1, by omega⟩
  refine v_blk 3 (i' := (bif (a_ic .gt x9 x7) then 64 else 46)) (L' := [some (.ref 0), some (.int x1), some (.int x2), some (.int x3), some (.int x4), some (.int x5), some (.int x6), some (.int x7), some (.int x8), some (.int x9), none]) (st' := []) (h' := (hX C P vl kp Mo R)) (fun _ => rfl) ?_
  rcases Bool.eq_false_or_eq_true (a_ic .gt x9 x7) with hb | hb
  · have hf := a_bt hb hf
    refine v_it hb ?_
    refine v_blk 2 (i' := 38) (L' := [some (.ref 0), some (.int x1), some (.int x2), some (.int x3), some (.int x4), some (.int x5), some (.int x6), some (.int x7), some (.int (x8 + (1 : Int32))), some (.int x9), none]) (st' := []) (h' := (hX C P vl kp Mo R)) (fun _ => rfl) ?_
    refine v_weak (L' := [some (.ref 0), some (.int x1), some (.int x2), some (.int x3), some (.int x4), some (.int x5), some (.int x6), some (.int x7), some (.int (x8 + (1 : Int32))), none, none]) (show a_wk [some (.ref 0), some (.int x1), some (.int x2), some (.int x3), some (.int x4), some (.int x5), some (.int x6), some (.int x7), some (.int (x8 + (1 : Int32))), none, none] [some (.ref 0), some (.int x1), some (.int x2), some (.int x3), some (.int x4), some (.int x5), some (.int x6), some (.int x7), some (.int (x8 + (1 : Int32))), some (.int x9), none] from ⟨rfl, ⟨rfl, ⟨rfl, ⟨rfl, ⟨rfl, ⟨rfl, ⟨rfl, ⟨rfl, ⟨rfl, ⟨(fun v hv => by cases hv; rfl), ⟨(fun v hv => by cases hv), trivial⟩⟩⟩⟩⟩⟩⟩⟩⟩⟩⟩) ?_
    exact hrc38 x1 x2 x3 x4 x5 x6 x7 (x8 + (1 : Int32)) C _ _ hf
  · have hf := a_be hb hf
    refine v_ie hb ?_
    obtain ⟨r7, C7, hc, hf⟩ := m_bd_ok hf
    refine v_call 6 (k' := 25) (i' := 52) (E := [some (.ref 13), some (.int x1), some (.int x8), some (.int x9), none, none, none]) (L' := [some (.ref 0), some (.int x1), some (.int x2), some (.int x3), some (.int x4), some (.int x5), some (.int x6), some (.int x7), some (.int x8), some (.int x9), none]) (rest := []) (h1 := (hX C P vl kp Mo R)) (fun _ => rfl) ?_
    refine v_post (kt_25 hfz N P vl kp Mo R d (by omega) x1 x8 x9 C _ _ hc) ?_
    rintro rv h' ⟨rfl, rfl⟩
    refine v_blk 4 (i' := (bif (a_ic .le r7 x4) then 62 else 56)) (L' := [some (.ref 0), some (.int x1), some (.int x2), some (.int x3), some (.int x4), some (.int x5), some (.int x6), some (.int x7), some (.int x8), some (.int x9), some (.int r7)]) (st' := []) (h' := (hX C7 P vl kp Mo R)) (fun _ => rfl) ?_
    rcases Bool.eq_false_or_eq_true (a_ic .le r7 x4) with hb | hb
    · have hf := a_bt hb hf
      refine v_it hb ?_
      refine v_blk 2 (i' := 43) (L' := [some (.ref 0), some (.int x1), some (.int x2), some (.int x3), some (.int x4), some (.int x5), some (.int x6), some (.int x7), some (.int x8), some (.int (x9 + (1 : Int32))), some (.int r7)]) (st' := []) (h' := (hX C7 P vl kp Mo R)) (fun _ => rfl) ?_
      refine v_weak (L' := [some (.ref 0), some (.int x1), some (.int x2), some (.int x3), some (.int x4), some (.int x5), some (.int x6), some (.int x7), some (.int x8), some (.int (x9 + (1 : Int32))), none]) (show a_wk [some (.ref 0), some (.int x1), some (.int x2), some (.int x3), some (.int x4), some (.int x5), some (.int x6), some (.int x7), some (.int x8), some (.int (x9 + (1 : Int32))), none] [some (.ref 0), some (.int x1), some (.int x2), some (.int x3), some (.int x4), some (.int x5), some (.int x6), some (.int x7), some (.int x8), some (.int (x9 + (1 : Int32))), some (.int r7)] from ⟨rfl, ⟨rfl, ⟨rfl, ⟨rfl, ⟨rfl, ⟨rfl, ⟨rfl, ⟨rfl, ⟨rfl, ⟨rfl, ⟨(fun v hv => by cases hv; rfl), trivial⟩⟩⟩⟩⟩⟩⟩⟩⟩⟩⟩) ?_
      exact hrc43 x1 x2 x3 x4 x5 x6 x7 x8 (x9 + (1 : Int32)) C7 _ _ hf
    · have hf := a_be hb hf
      refine v_ie hb ?_
      refine v_blk 8 (i' := 43) (L' := [some (.ref 0), some (.int x1), some (.int x2), some (.int x3), some (.int r7), some (.int x8), some (.int x9), some (.int x7), some (.int x8), some (.int (x9 + (1 : Int32))), some (.int r7)]) (st' := []) (h' := (hX C7 P vl kp Mo R)) (fun _ => rfl) ?_
      refine v_weak (L' := [some (.ref 0), some (.int x1), some (.int x2), some (.int x3), some (.int r7), some (.int x8), some (.int x9), some (.int x7), some (.int x8), some (.int (x9 + (1 : Int32))), none]) (show a_wk [some (.ref 0), some (.int x1), some (.int x2), some (.int x3), some (.int r7), some (.int x8), some (.int x9), some (.int x7), some (.int x8), some (.int (x9 + (1 : Int32))), none] [some (.ref 0), some (.int x1), some (.int x2), some (.int x3), some (.int r7), some (.int x8), some (.int x9), some (.int x7), some (.int x8), some (.int (x9 + (1 : Int32))), some (.int r7)] from ⟨rfl, ⟨rfl, ⟨rfl, ⟨rfl, ⟨rfl, ⟨rfl, ⟨rfl, ⟨rfl, ⟨rfl, ⟨rfl, ⟨(fun v hv => by cases hv; rfl), trivial⟩⟩⟩⟩⟩⟩⟩⟩⟩⟩⟩) ?_
      exact hrc43 x1 x2 x3 r7 x8 x9 x7 x8 (x9 + (1 : Int32)) C7 _ _ hf
theorem kt_87_43 {fz : Value} {sc : Nat × (Nat → Int32)} (hfz : fz = .null ∨ fz = .retAddr 60) (N : Nat) (P : Nat → Option Nat) (vl kp : Option Nat) (Mo : Nat → aC) (R : List aC) (d : Nat) (hd : 7 ≤ d) (rc38 : Int32 → Int32 → Int32 → Int32 → Int32 → Int32 → Int32 → Int32 → mS → Option (Int32 × mS)) (hrc38 : ∀ (x1 : Int32) (x2 : Int32) (x3 : Int32) (x4 : Int32) (x5 : Int32) (x6 : Int32) (x7 : Int32) (x8 : Int32) (C : mS) (r : Int32) (C' : mS), rc38 x1 x2 x3 x4 x5 x6 x7 x8 C = some (r, C') → v_V fz sc d 87 38 [some (.ref 0), some (.int x1), some (.int x2), some (.int x3), some (.int x4), some (.int x5), some (.int x6), some (.int x7), some (.int x8), none, none] [] (hX C P vl kp Mo R) (fun rv h' => rv = some (.int r) ∧ h' = hX C' P vl kp Mo R)) : ∀ (n : Nat) (x1 : Int32) (x2 : Int32) (x3 : Int32) (x4 : Int32) (x5 : Int32) (x6 : Int32) (x7 : Int32) (x8 : Int32) (x9 : Int32) (C : mS) (r : Int32) (C' : mS) (hf : k_87_43 N P vl R rc38 n x1 x2 x3 x4 x5 x6 x7 x8 x9 C = some (r, C')), v_V fz sc d 87 43 [some (.ref 0), some (.int x1), some (.int x2), some (.int x3), some (.int x4), some (.int x5), some (.int x6), some (.int x7), some (.int x8), some (.int x9), none] [] (hX C P vl kp Mo R) (fun rv h' => rv = some (.int r) ∧ h' = hX C' P vl kp Mo R) := by
  intro n
  induction n with
  | zero => intro x1 x2 x3 x4 x5 x6 x7 x8 x9 C r C' hf; cases hf
  | succ n ih =>
    intro x1 x2 x3 x4 x5 x6 x7 x8 x9 C r C' hf
    exact kt_87_43b hfz N P vl kp Mo R d hd rc38 hrc38 (k_87_43 N P vl R rc38 n) ih x1 x2 x3 x4 x5 x6 x7 x8 x9 C r C' hf
set_option maxRecDepth 100000 in
set_option maxHeartbeats 4000000 in
theorem kt_87_38b {fz : Value} {sc : Nat × (Nat → Int32)} (hfz : fz = .null ∨ fz = .retAddr 60) (N : Nat) (P : Nat → Option Nat) (vl kp : Option Nat) (Mo : Nat → aC) (R : List aC) (d : Nat) (hd : 7 ≤ d) (rc38 : Int32 → Int32 → Int32 → Int32 → Int32 → Int32 → Int32 → Int32 → mS → Option (Int32 × mS)) (hrc38 : ∀ (x1 : Int32) (x2 : Int32) (x3 : Int32) (x4 : Int32) (x5 : Int32) (x6 : Int32) (x7 : Int32) (x8 : Int32) (C : mS) (r : Int32) (C' : mS), rc38 x1 x2 x3 x4 x5 x6 x7 x8 C = some (r, C') → v_V fz sc d 87 38 [some (.ref 0), some (.int x1), some (.int x2), some (.int x3), some (.int x4), some (.int x5), some (.int x6), some (.int x7), some (.int x8), none, none] [] (hX C P vl kp Mo R) (fun rv h' => rv = some (.int r) ∧ h' = hX C' P vl kp Mo R)) (x1 : Int32) (x2 : Int32) (x3 : Int32) (x4 : Int32) (x5 : Int32) (x6 : Int32) (x7 : Int32) (x8 : Int32) (C : mS) (r : Int32) (C' : mS) (hf : k_87_38b N P vl R rc38 x1 x2 x3 x4 x5 x6 x7 x8 C = some (r, C')) : v_V fz sc d 87 38 [some (.ref 0), some (.int x1), some (.int x2), some (.int x3), some (.int x4), some (.int x5), some (.int x6), some (.int x7), some (.int x8), none, none] [] (hX C P vl kp Mo R) (fun rv h' => rv = some (.int r) ∧ h' = hX C' P vl kp Mo R) := by
  unfold k_87_38b at hf
  obtain ⟨d, rfl⟩ : ∃ z, d = z + 1 := ⟨d - 1, by omega⟩
  refine v_blk 3 (i' := (bif (a_ic .ge x8 (4 : Int32)) then 66 else 41)) (L' := [some (.ref 0), some (.int x1), some (.int x2), some (.int x3), some (.int x4), some (.int x5), some (.int x6), some (.int x7), some (.int x8), none, none]) (st' := []) (h' := (hX C P vl kp Mo R)) (fun _ => rfl) ?_
  rcases Bool.eq_false_or_eq_true (a_ic .ge x8 (4 : Int32)) with hb | hb
  · have hf := a_bt hb hf
    refine v_it hb ?_
    refine v_blk 2 (i' := (bif (a_ic .ne x2 (0 : Int32)) then 72 else 68)) (L' := [some (.ref 0), some (.int x1), some (.int x2), some (.int x3), some (.int x4), some (.int x5), some (.int x6), some (.int x7), some (.int x8), none, none]) (st' := []) (h' := (hX C P vl kp Mo R)) (fun _ => rfl) ?_
    rcases Bool.eq_false_or_eq_true (a_ic .ne x2 (0 : Int32)) with hb | hb
    · have hf := a_bt hb hf
      refine v_it hb ?_
      refine v_blk 3 (i' := (bif (a_ic .ne x2 (1 : Int32)) then 77 else 75)) (L' := [some (.ref 0), some (.int x1), some (.int x2), some (.int x3), some (.int x4), some (.int x5), some (.int x6), some (.int x7), some (.int x8), none, none]) (st' := []) (h' := (hX C P vl kp Mo R)) (fun _ => rfl) ?_
      rcases Bool.eq_false_or_eq_true (a_ic .ne x2 (1 : Int32)) with hb | hb
      · have hf := a_bt hb hf
        refine v_it hb ?_
        obtain ⟨rfl, rfl⟩ := m_rt hf
        exact v_ret 2 (fun _ => rfl) ⟨rfl, rfl⟩
      · have hf := a_be hb hf
        refine v_ie hb ?_
        obtain ⟨rfl, rfl⟩ := m_rt hf
        exact v_ret 3 (fun _ => rfl) ⟨rfl, rfl⟩
    · have hf := a_be hb hf
      refine v_ie hb ?_
      obtain ⟨rfl, rfl⟩ := m_rt hf
      exact v_ret 5 (fun _ => rfl) ⟨rfl, rfl⟩
  · have hf := a_be hb hf
    refine v_ie hb ?_
    refine v_blk 2 (i' := 43) (L' := [some (.ref 0), some (.int x1), some (.int x2), some (.int x3), some (.int x4), some (.int x5), some (.int x6), some (.int x7), some (.int x8), some (.int (0 : Int32)), none]) (st' := []) (h' := (hX C P vl kp Mo R)) (fun _ => rfl) ?_
    exact kt_87_43 hfz N P vl kp Mo R (d + 1) hd rc38 hrc38 N x1 x2 x3 x4 x5 x6 x7 x8 (0 : Int32) C _ _ hf
theorem kt_87_38 {fz : Value} {sc : Nat × (Nat → Int32)} (hfz : fz = .null ∨ fz = .retAddr 60) (N : Nat) (P : Nat → Option Nat) (vl kp : Option Nat) (Mo : Nat → aC) (R : List aC) (d : Nat) (hd : 7 ≤ d) : ∀ (n : Nat) (x1 : Int32) (x2 : Int32) (x3 : Int32) (x4 : Int32) (x5 : Int32) (x6 : Int32) (x7 : Int32) (x8 : Int32) (C : mS) (r : Int32) (C' : mS) (hf : k_87_38 N P vl R n x1 x2 x3 x4 x5 x6 x7 x8 C = some (r, C')), v_V fz sc d 87 38 [some (.ref 0), some (.int x1), some (.int x2), some (.int x3), some (.int x4), some (.int x5), some (.int x6), some (.int x7), some (.int x8), none, none] [] (hX C P vl kp Mo R) (fun rv h' => rv = some (.int r) ∧ h' = hX C' P vl kp Mo R) := by
  intro n
  induction n with
  | zero => intro x1 x2 x3 x4 x5 x6 x7 x8 C r C' hf; cases hf
  | succ n ih =>
    intro x1 x2 x3 x4 x5 x6 x7 x8 C r C' hf
    exact kt_87_38b hfz N P vl kp Mo R d hd (k_87_38 N P vl R n) ih x1 x2 x3 x4 x5 x6 x7 x8 C r C' hf
set_option maxRecDepth 100000 in
set_option maxHeartbeats 4000000 in
theorem kt_87 {fz : Value} {sc : Nat × (Nat → Int32)} (hfz : fz = .null ∨ fz = .retAddr 60) (N : Nat) (P : Nat → Option Nat) (vl kp : Option Nat) (Mo : Nat → aC) (R : List aC) (d : Nat) (hd : 7 ≤ d) (x1 : Int32) (x2 : Int32) (C : mS) (r : Int32) (C' : mS) (hf : k_87 N P vl R x1 x2 C = some (r, C')) : v_V fz sc d 87 0 [some (.ref 0), some (.int x1), some (.int x2), none, none, none, none, none, none, none, none] [] (hX C P vl kp Mo R) (fun rv h' => rv = some (.int r) ∧ h' = hX C' P vl kp Mo R) := by
  unfold k_87 at hf
  obtain ⟨d, rfl⟩ : ∃ z, d = z + 1 := ⟨d - 1, by omega⟩
  obtain ⟨r1, C1, hc, hf⟩ := m_bd_ok hf
  refine v_call 4 (k' := 69) (i' := 4) (E := [some (.ref 1), some (.int x1)]) (L' := [some (.ref 0), some (.int x1), some (.int x2), none, none, none, none, none, none, none, none]) (rest := []) (h1 := (hX C P vl kp Mo R)) (fun _ => rfl) ?_
  refine v_post (kt_69 hfz N P vl kp Mo R d (by omega) x1 C _ _ hc) ?_
  rintro rv h' ⟨rfl, rfl⟩
  refine v_blk 1 (i' := (bif (a_ic .eq r1 (0 : Int32)) then 10 else 5)) (L' := [some (.ref 0), some (.int x1), some (.int x2), none, none, none, none, none, none, none, none]) (st' := []) (h' := (hX C1 P vl kp Mo R)) (fun _ => rfl) ?_
  rcases Bool.eq_false_or_eq_true (a_ic .eq r1 (0 : Int32)) with hb | hb
  · have hf := a_bt hb hf
    refine v_it hb ?_
    obtain ⟨rfl, rfl⟩ := m_rt hf
    exact v_ret 2 (fun _ => rfl) ⟨rfl, rfl⟩
  · have hf := a_be hb hf
    refine v_ie hb ?_
    refine v_blk 2 (i' := (bif (a_ic .lt x2 (0 : Int32)) then 10 else 7)) (L' := [some (.ref 0), some (.int x1), some (.int x2), none, none, none, none, none, none, none, none]) (st' := []) (h' := (hX C1 P vl kp Mo R)) (fun _ => rfl) ?_
    rcases Bool.eq_false_or_eq_true (a_ic .lt x2 (0 : Int32)) with hb | hb
    · have hf := a_bt hb hf
      refine v_it hb ?_
      obtain ⟨rfl, rfl⟩ := m_rt hf
      exact v_ret 2 (fun _ => rfl) ⟨rfl, rfl⟩
    · have hf := a_be hb hf
      refine v_ie hb ?_
      refine v_blk 3 (i' := (bif (a_ic .le x2 (2 : Int32)) then 12 else 10)) (L' := [some (.ref 0), some (.int x1), some (.int x2), none, none, none, none, none, none, none, none]) (st' := []) (h' := (hX C1 P vl kp Mo R)) (fun _ => rfl) ?_
      rcases Bool.eq_false_or_eq_true (a_ic .le x2 (2 : Int32)) with hb | hb
      · have hf := a_bt hb hf
        refine v_it hb ?_
        obtain ⟨r2, C2, hc, hf⟩ := m_bd_ok hf
        refine v_call 3 (k' := 10) (i' := 15) (E := [some (.ref 13)]) (L' := [some (.ref 0), some (.int x1), some (.int x2), none, none, none, none, none, none, none, none]) (rest := []) (h1 := (hX C1 P vl kp Mo R)) (fun _ => rfl) ?_
        refine v_post (kt_10 hfz N P vl kp Mo R d (by omega)  C1 _ _ hc) ?_
        rintro rv h' ⟨rfl, rfl⟩
        obtain ⟨r3, C3, hc, hf⟩ := m_bd_ok hf
        refine v_call 3 (k' := 12) (i' := 18) (E := [some (.ref 13), none]) (L' := [some (.ref 0), some (.int x1), some (.int x2), none, none, none, none, none, none, none, none]) (rest := []) (h1 := (hX C2 P vl kp Mo R)) (fun _ => rfl) ?_
        refine v_post (kt_12 hfz N P vl kp Mo R d (by omega)  C2 _ _ hc) ?_
        rintro rv h' ⟨rfl, rfl⟩
        obtain ⟨r4, C4, hc, hf⟩ := m_bd_ok hf
        refine v_call 4 (k' := 24) (i' := 22) (E := [some (.ref 13), some (.int x1)]) (L' := [some (.ref 0), some (.int x1), some (.int x2), none, none, none, none, none, none, none, none]) (rest := []) (h1 := (hX C3 P vl kp Mo R)) (fun _ => rfl) ?_
        refine v_post (kt_24 hfz N P vl kp Mo R d (by omega) x1 C3 _ _ hc) ?_
        rintro rv h' ⟨rfl, rfl⟩
        obtain ⟨r5, C5, hc, hf⟩ := m_bd_ok hf
        refine v_call 12 (k' := 21) (i' := 34) (E := [some (.ref 13), some (.int x1)]) (L' := [some (.ref 0), some (.int x1), some (.int x2), some (.int r4), some (.int r4), some (.int (-5 : Int32)), some (.int (-5 : Int32)), none, none, none, none]) (rest := [(.int (40 : Int32))]) (h1 := (hX C4 P vl kp Mo R)) (fun _ => rfl) ?_
        refine v_post (kt_21 hfz N P vl kp Mo R d (by omega) x1 C4 _ _ hc) ?_
        rintro rv h' ⟨rfl, rfl⟩
        refine v_blk 1 (i' := 35) (L' := [some (.ref 0), some (.int x1), some (.int x2), some (.int r4), some (.int r4), some (.int (-5 : Int32)), some (.int (-5 : Int32)), none, none, none, none]) (st' := [(.int (if r5 < (40 : Int32) then r5 else (40 : Int32)))]) (h' := (hX C5 P vl kp Mo R)) (fun _ => rfl) ?_
        obtain ⟨y6, hy, hf⟩ := m_li_ok hf
        rw [hy]
        refine v_blk 3 (i' := 38) (L' := [some (.ref 0), some (.int x1), some (.int x2), some (.int r4), some (.int r4), some (.int (-5 : Int32)), some (.int (-5 : Int32)), some (.int y6), some (.int (0 : Int32)), none, none]) (st' := []) (h' := (hX C5 P vl kp Mo R)) (fun _ => rfl) ?_
        exact kt_87_38 hfz N P vl kp Mo R (d + 1) hd N x1 x2 r4 r4 (-5 : Int32) (-5 : Int32) y6 (0 : Int32) C5 _ _ hf
      · have hf := a_be hb hf
        refine v_ie hb ?_
        obtain ⟨rfl, rfl⟩ := m_rt hf
        exact v_ret 2 (fun _ => rfl) ⟨rfl, rfl⟩
set_option maxRecDepth 100000 in
set_option maxHeartbeats 4000000 in
theorem kt_88 {fz : Value} {sc : Nat × (Nat → Int32)} (hfz : fz = .null ∨ fz = .retAddr 60) (N : Nat) (P : Nat → Option Nat) (vl kp : Option Nat) (Mo : Nat → aC) (R : List aC) (d : Nat) (hd : 7 ≤ d) (x1 : Int32) (C : mS) (r : Int32) (C' : mS) (hf : k_88 N P vl R x1 C = some (r, C')) : v_V fz sc d 88 0 [some (.ref 0), some (.int x1)] [] (hX C P vl kp Mo R) (fun rv h' => rv = some (.int r) ∧ h' = hX C' P vl kp Mo R) := by
  unfold k_88 at hf
  obtain ⟨d, rfl⟩ : ∃ z, d = z + 1 := ⟨d - 1, by omega⟩
  obtain ⟨r1, C1, hc, hf⟩ := m_bd_ok hf
  refine v_call 4 (k' := 69) (i' := 4) (E := [some (.ref 1), some (.int x1)]) (L' := [some (.ref 0), some (.int x1)]) (rest := []) (h1 := (hX C P vl kp Mo R)) (fun _ => rfl) ?_
  refine v_post (kt_69 hfz N P vl kp Mo R d (by omega) x1 C _ _ hc) ?_
  rintro rv h' ⟨rfl, rfl⟩
  refine v_blk 1 (i' := (bif (a_ic .ne r1 (0 : Int32)) then 7 else 5)) (L' := [some (.ref 0), some (.int x1)]) (st' := []) (h' := (hX C1 P vl kp Mo R)) (fun _ => rfl) ?_
  rcases Bool.eq_false_or_eq_true (a_ic .ne r1 (0 : Int32)) with hb | hb
  · have hf := a_bt hb hf
    refine v_it hb ?_
    obtain ⟨r2, C2, hc, hf⟩ := m_bd_ok hf
    refine v_call 3 (k' := 10) (i' := 10) (E := [some (.ref 13)]) (L' := [some (.ref 0), some (.int x1)]) (rest := []) (h1 := (hX C1 P vl kp Mo R)) (fun _ => rfl) ?_
    refine v_post (kt_10 hfz N P vl kp Mo R d (by omega)  C1 _ _ hc) ?_
    rintro rv h' ⟨rfl, rfl⟩
    obtain ⟨r3, C3, hc, hf⟩ := m_bd_ok hf
    refine v_call 3 (k' := 12) (i' := 13) (E := [some (.ref 13), none]) (L' := [some (.ref 0), some (.int x1)]) (rest := []) (h1 := (hX C2 P vl kp Mo R)) (fun _ => rfl) ?_
    refine v_post (kt_12 hfz N P vl kp Mo R d (by omega)  C2 _ _ hc) ?_
    rintro rv h' ⟨rfl, rfl⟩
    obtain ⟨r4, C4, hc, hf⟩ := m_bd_ok hf
    refine v_call 4 (k' := 17) (i' := 17) (E := [some (.ref 13), some (.int x1), none, none]) (L' := [some (.ref 0), some (.int x1)]) (rest := []) (h1 := (hX C3 P vl kp Mo R)) (fun _ => rfl) ?_
    refine v_post (kt_17 hfz N P vl kp Mo R d (by omega) x1 C3 _ _ hc) ?_
    rintro rv h' ⟨rfl, rfl⟩
    obtain ⟨rfl, rfl⟩ := m_rt hf
    exact v_ret 1 (fun _ => rfl) ⟨rfl, rfl⟩
  · have hf := a_be hb hf
    refine v_ie hb ?_
    obtain ⟨rfl, rfl⟩ := m_rt hf
    exact v_ret 2 (fun _ => rfl) ⟨rfl, rfl⟩
set_option maxRecDepth 100000 in
set_option maxHeartbeats 4000000 in
theorem kt_89_45b {fz : Value} {sc : Nat × (Nat → Int32)} (hfz : fz = .null ∨ fz = .retAddr 60) (N : Nat) (P : Nat → Option Nat) (vl kp : Option Nat) (Mo : Nat → aC) (R : List aC) (d : Nat) (hd : 7 ≤ d) (rc36 : Int32 → Int32 → Int32 → Int32 → mS → Option (Int32 × mS)) (hrc36 : ∀ (x1 : Int32) (x2 : Int32) (x3 : Int32) (x4 : Int32) (C : mS) (r : Int32) (C' : mS), rc36 x1 x2 x3 x4 C = some (r, C') → v_V fz sc d 89 36 [some (.ref 0), some (.int x1), some (.int x2), some (.int x3), some (.int x4), none] [] (hX C P vl kp Mo R) (fun rv h' => rv = some (.int r) ∧ h' = hX C' P vl kp Mo R)) (rc45 : Int32 → Int32 → Int32 → Int32 → Int32 → mS → Option (Int32 × mS)) (hrc45 : ∀ (x1 : Int32) (x2 : Int32) (x3 : Int32) (x4 : Int32) (x5 : Int32) (C : mS) (r : Int32) (C' : mS), rc45 x1 x2 x3 x4 x5 C = some (r, C') → v_V fz sc d 89 45 [some (.ref 0), some (.int x1), some (.int x2), some (.int x3), some (.int x4), some (.int x5)] [] (hX C P vl kp Mo R) (fun rv h' => rv = some (.int r) ∧ h' = hX C' P vl kp Mo R)) (x1 : Int32) (x2 : Int32) (x3 : Int32) (x4 : Int32) (x5 : Int32) (C : mS) (r : Int32) (C' : mS) (hf : k_89_45b N P vl R rc36 rc45 x1 x2 x3 x4 x5 C = some (r, C')) : v_V fz sc d 89 45 [some (.ref 0), some (.int x1), some (.int x2), some (.int x3), some (.int x4), some (.int x5)] [] (hX C P vl kp Mo R) (fun rv h' => rv = some (.int r) ∧ h' = hX C' P vl kp Mo R) := by
  unfold k_89_45b at hf
  obtain ⟨d, rfl⟩ : ∃ z, d = z + 1 := ⟨d - 1, by omega⟩
  refine v_blk 5 (i' := (bif (a_ic .ge x5 (C 90 12)) then 78 else 50)) (L' := [some (.ref 0), some (.int x1), some (.int x2), some (.int x3), some (.int x4), some (.int x5)]) (st' := []) (h' := (hX C P vl kp Mo R)) (fun _ => rfl) ?_
  rcases Bool.eq_false_or_eq_true (a_ic .ge x5 (C 90 12)) with hb | hb
  · have hf := a_bt hb hf
    refine v_it hb ?_
    refine v_blk 2 (i' := 36) (L' := [some (.ref 0), some (.int x1), some (.int x2), some (.int x3), some (.int (x4 + (1 : Int32))), some (.int x5)]) (st' := []) (h' := (hX C P vl kp Mo R)) (fun _ => rfl) ?_
    refine v_weak (L' := [some (.ref 0), some (.int x1), some (.int x2), some (.int x3), some (.int (x4 + (1 : Int32))), none]) (show a_wk [some (.ref 0), some (.int x1), some (.int x2), some (.int x3), some (.int (x4 + (1 : Int32))), none] [some (.ref 0), some (.int x1), some (.int x2), some (.int x3), some (.int (x4 + (1 : Int32))), some (.int x5)] from ⟨rfl, ⟨rfl, ⟨rfl, ⟨rfl, ⟨rfl, ⟨(fun v hv => by cases hv; rfl), trivial⟩⟩⟩⟩⟩⟩) ?_
    exact hrc36 x1 x2 x3 (x4 + (1 : Int32)) C _ _ hf
  · have hf := a_be hb hf
    refine v_ie hb ?_
    obtain ⟨r5, C5, hc, hf⟩ := m_bd_ok hf
    refine v_call 5 (k' := 26) (i' := 55) (E := [some (.ref 13), some (.int x4), some (.int x5), none, none]) (L' := [some (.ref 0), some (.int x1), some (.int x2), some (.int x3), some (.int x4), some (.int x5)]) (rest := []) (h1 := (hX C P vl kp Mo R)) (fun _ => rfl) ?_
    refine v_post (kt_26 hfz N P vl kp Mo R d (by omega) x4 x5 C _ _ hc) ?_
    rintro rv h' ⟨rfl, rfl⟩
    obtain ⟨hg, hf⟩ := a_bif hf
    refine v_grd 4 (i' := 59) (L' := [some (.ref 0), some (.int x1), some (.int x2), some (.int x3), some (.int x4), some (.int x5)]) (st' := [(.int ((C5 14) (x4).toNatClampNeg)), (.int r5)]) (h' := (hX C5 P vl kp Mo R)) (fun _ => rfl) hg ?_
    obtain ⟨y6, hy, hf⟩ := m_li_ok hf
    rw [hy]
    obtain ⟨hg, hf⟩ := a_bif hf
    refine v_grd 4 (i' := 63) (L' := [some (.ref 0), some (.int x1), some (.int x2), some (.int x3), some (.int x4), some (.int x5)]) (st' := [(.int ((C5 14) (x5).toNatClampNeg)), (.int y6), (.int r5)]) (h' := (hX C5 P vl kp Mo R)) (fun _ => rfl) hg ?_
    obtain ⟨y7, hy, hf⟩ := m_li_ok hf
    rw [hy]
    refine v_blk 2 (i' := (bif (a_ic .le r5 (y6 + y7)) then 76 else 65)) (L' := [some (.ref 0), some (.int x1), some (.int x2), some (.int x3), some (.int x4), some (.int x5)]) (st' := []) (h' := (hX C5 P vl kp Mo R)) (fun _ => rfl) ?_
    rcases Bool.eq_false_or_eq_true (a_ic .le r5 (y6 + y7)) with hb | hb
    · have hf := a_bt hb hf
      refine v_it hb ?_
      refine v_blk 2 (i' := 45) (L' := [some (.ref 0), some (.int x1), some (.int x2), some (.int x3), some (.int x4), some (.int (x5 + (1 : Int32)))]) (st' := []) (h' := (hX C5 P vl kp Mo R)) (fun _ => rfl) ?_
      exact hrc45 x1 x2 x3 x4 (x5 + (1 : Int32)) C5 _ _ hf
    · have hf := a_be hb hf
      refine v_ie hb ?_
      refine v_blk 2 (i' := (bif (a_ic .ne x2 (0 : Int32)) then 73 else 67)) (L' := [some (.ref 0), some (.int x1), some (.int x2), some (.int x3), some (.int x4), some (.int x5)]) (st' := []) (h' := (hX C5 P vl kp Mo R)) (fun _ => rfl) ?_
      rcases Bool.eq_false_or_eq_true (a_ic .ne x2 (0 : Int32)) with hb | hb
      · have hf := a_bt hb hf
        refine v_it hb ?_
        refine v_blk 5 (i' := 45) (L' := [some (.ref 0), some (.int x1), some (.int (x2 + (1 : Int32))), some (.int x3), some (.int x4), some (.int (x5 + (1 : Int32)))]) (st' := []) (h' := (hX C5 P vl kp Mo R)) (fun _ => rfl) ?_
        exact hrc45 x1 (x2 + (1 : Int32)) x3 x4 (x5 + (1 : Int32)) C5 _ _ hf
      · have hf := a_be hb hf
        refine v_ie hb ?_
        refine v_blk 10 (i' := 45) (L' := [some (.ref 0), some (.int x1), some (.int (x2 + (1 : Int32))), some (.int (((10 : Int32) * x4) + x5)), some (.int x4), some (.int (x5 + (1 : Int32)))]) (st' := []) (h' := (hX C5 P vl kp Mo R)) (fun _ => rfl) ?_
        exact hrc45 x1 (x2 + (1 : Int32)) (((10 : Int32) * x4) + x5) x4 (x5 + (1 : Int32)) C5 _ _ hf
theorem kt_89_45 {fz : Value} {sc : Nat × (Nat → Int32)} (hfz : fz = .null ∨ fz = .retAddr 60) (N : Nat) (P : Nat → Option Nat) (vl kp : Option Nat) (Mo : Nat → aC) (R : List aC) (d : Nat) (hd : 7 ≤ d) (rc36 : Int32 → Int32 → Int32 → Int32 → mS → Option (Int32 × mS)) (hrc36 : ∀ (x1 : Int32) (x2 : Int32) (x3 : Int32) (x4 : Int32) (C : mS) (r : Int32) (C' : mS), rc36 x1 x2 x3 x4 C = some (r, C') → v_V fz sc d 89 36 [some (.ref 0), some (.int x1), some (.int x2), some (.int x3), some (.int x4), none] [] (hX C P vl kp Mo R) (fun rv h' => rv = some (.int r) ∧ h' = hX C' P vl kp Mo R)) : ∀ (n : Nat) (x1 : Int32) (x2 : Int32) (x3 : Int32) (x4 : Int32) (x5 : Int32) (C : mS) (r : Int32) (C' : mS) (hf : k_89_45 N P vl R rc36 n x1 x2 x3 x4 x5 C = some (r, C')), v_V fz sc d 89 45 [some (.ref 0), some (.int x1), some (.int x2), some (.int x3), some (.int x4), some (.int x5)] [] (hX C P vl kp Mo R) (fun rv h' => rv = some (.int r) ∧ h' = hX C' P vl kp Mo R) := by
  intro n
  induction n with
  | zero => intro x1 x2 x3 x4 x5 C r C' hf; cases hf
  | succ n ih =>
    intro x1 x2 x3 x4 x5 C r C' hf
    exact kt_89_45b hfz N P vl kp Mo R d hd rc36 hrc36 (k_89_45 N P vl R rc36 n) ih x1 x2 x3 x4 x5 C r C' hf
set_option maxRecDepth 100000 in
set_option maxHeartbeats 4000000 in
theorem kt_89_36b {fz : Value} {sc : Nat × (Nat → Int32)} (hfz : fz = .null ∨ fz = .retAddr 60) (N : Nat) (P : Nat → Option Nat) (vl kp : Option Nat) (Mo : Nat → aC) (R : List aC) (d : Nat) (hd : 7 ≤ d) (rc36 : Int32 → Int32 → Int32 → Int32 → mS → Option (Int32 × mS)) (hrc36 : ∀ (x1 : Int32) (x2 : Int32) (x3 : Int32) (x4 : Int32) (C : mS) (r : Int32) (C' : mS), rc36 x1 x2 x3 x4 C = some (r, C') → v_V fz sc d 89 36 [some (.ref 0), some (.int x1), some (.int x2), some (.int x3), some (.int x4), none] [] (hX C P vl kp Mo R) (fun rv h' => rv = some (.int r) ∧ h' = hX C' P vl kp Mo R)) (x1 : Int32) (x2 : Int32) (x3 : Int32) (x4 : Int32) (C : mS) (r : Int32) (C' : mS) (hf : k_89_36b N P vl R rc36 x1 x2 x3 x4 C = some (r, C')) : v_V fz sc d 89 36 [some (.ref 0), some (.int x1), some (.int x2), some (.int x3), some (.int x4), none] [] (hX C P vl kp Mo R) (fun rv h' => rv = some (.int r) ∧ h' = hX C' P vl kp Mo R) := by
  unfold k_89_36b at hf
  obtain ⟨d, rfl⟩ : ∃ z, d = z + 1 := ⟨d - 1, by omega⟩
  refine v_blk 5 (i' := (bif (a_ic .ge x4 (C 90 12)) then 80 else 41)) (L' := [some (.ref 0), some (.int x1), some (.int x2), some (.int x3), some (.int x4), none]) (st' := []) (h' := (hX C P vl kp Mo R)) (fun _ => rfl) ?_
  rcases Bool.eq_false_or_eq_true (a_ic .ge x4 (C 90 12)) with hb | hb
  · have hf := a_bt hb hf
    refine v_it hb ?_
    refine v_blk 2 (i' := (bif (a_ic .ne x1 (0 : Int32)) then 84 else 82)) (L' := [some (.ref 0), some (.int x1), some (.int x2), some (.int x3), some (.int x4), none]) (st' := []) (h' := (hX C P vl kp Mo R)) (fun _ => rfl) ?_
    rcases Bool.eq_false_or_eq_true (a_ic .ne x1 (0 : Int32)) with hb | hb
    · have hf := a_bt hb hf
      refine v_it hb ?_
      obtain ⟨rfl, rfl⟩ := m_rt hf
      exact v_ret 2 (fun _ => rfl) ⟨rfl, rfl⟩
    · have hf := a_be hb hf
      refine v_ie hb ?_
      obtain ⟨rfl, rfl⟩ := m_rt hf
      exact v_ret 3 (fun _ => rfl) ⟨rfl, rfl⟩
  · have hf := a_be hb hf
    refine v_ie hb ?_
    refine v_blk 4 (i' := 45) (L' := [some (.ref 0), some (.int x1), some (.int x2), some (.int x3), some (.int x4), some (.int (x4 + (1 : Int32)))]) (st' := []) (h' := (hX C P vl kp Mo R)) (fun _ => rfl) ?_
    exact kt_89_45 hfz N P vl kp Mo R (d + 1) hd rc36 hrc36 N x1 x2 x3 x4 (x4 + (1 : Int32)) C _ _ hf
theorem kt_89_36 {fz : Value} {sc : Nat × (Nat → Int32)} (hfz : fz = .null ∨ fz = .retAddr 60) (N : Nat) (P : Nat → Option Nat) (vl kp : Option Nat) (Mo : Nat → aC) (R : List aC) (d : Nat) (hd : 7 ≤ d) : ∀ (n : Nat) (x1 : Int32) (x2 : Int32) (x3 : Int32) (x4 : Int32) (C : mS) (r : Int32) (C' : mS) (hf : k_89_36 N P vl R n x1 x2 x3 x4 C = some (r, C')), v_V fz sc d 89 36 [some (.ref 0), some (.int x1), some (.int x2), some (.int x3), some (.int x4), none] [] (hX C P vl kp Mo R) (fun rv h' => rv = some (.int r) ∧ h' = hX C' P vl kp Mo R) := by
  intro n
  induction n with
  | zero => intro x1 x2 x3 x4 C r C' hf; cases hf
  | succ n ih =>
    intro x1 x2 x3 x4 C r C' hf
    exact kt_89_36b hfz N P vl kp Mo R d hd (k_89_36 N P vl R n) ih x1 x2 x3 x4 C r C' hf
set_option maxRecDepth 100000 in
set_option maxHeartbeats 4000000 in
theorem kt_89_15b {fz : Value} {sc : Nat × (Nat → Int32)} (hfz : fz = .null ∨ fz = .retAddr 60) (N : Nat) (P : Nat → Option Nat) (vl kp : Option Nat) (Mo : Nat → aC) (R : List aC) (d : Nat) (hd : 7 ≤ d) (rc15 : Int32 → Int32 → mS → Option (Int32 × mS)) (hrc15 : ∀ (x1 : Int32) (x2 : Int32) (C : mS) (r : Int32) (C' : mS), rc15 x1 x2 C = some (r, C') → v_V fz sc d 89 15 [some (.ref 0), some (.int x1), some (.int x2), none, none, none] [] (hX C P vl kp Mo R) (fun rv h' => rv = some (.int r) ∧ h' = hX C' P vl kp Mo R)) (x1 : Int32) (x2 : Int32) (C : mS) (r : Int32) (C' : mS) (hf : k_89_15b N P vl R rc15 x1 x2 C = some (r, C')) : v_V fz sc d 89 15 [some (.ref 0), some (.int x1), some (.int x2), none, none, none] [] (hX C P vl kp Mo R) (fun rv h' => rv = some (.int r) ∧ h' = hX C' P vl kp Mo R) := by
  unfold k_89_15b at hf
  obtain ⟨d, rfl⟩ : ∃ z, d = z + 1 := ⟨d - 1, by omega⟩
  refine v_blk 5 (i' := (bif (a_ic .ge x2 (C 90 12)) then 30 else 20)) (L' := [some (.ref 0), some (.int x1), some (.int x2), none, none, none]) (st' := []) (h' := (hX C P vl kp Mo R)) (fun _ => rfl) ?_
  rcases Bool.eq_false_or_eq_true (a_ic .ge x2 (C 90 12)) with hb | hb
  · have hf := a_bt hb hf
    refine v_it hb ?_
    refine v_blk 6 (i' := 36) (L' := [some (.ref 0), some (.int x1), some (.int (0 : Int32)), some (.int (-5 : Int32)), some (.int (0 : Int32)), none]) (st' := []) (h' := (hX C P vl kp Mo R)) (fun _ => rfl) ?_
    exact kt_89_36 hfz N P vl kp Mo R (d + 1) hd N x1 (0 : Int32) (-5 : Int32) (0 : Int32) C _ _ hf
  · have hf := a_be hb hf
    refine v_ie hb ?_
    obtain ⟨r3, C3, hc, hf⟩ := m_bd_ok hf
    refine v_call 7 (k' := 24) (i' := 27) (E := [some (.ref 13), some (.int x2)]) (L' := [some (.ref 0), some (.int x1), some (.int x2), none, none, none]) (rest := [(.int x2), (.ref 19)]) (h1 := (hX C P vl kp Mo R)) (fun _ => rfl) ?_
    refine v_post (kt_24 hfz N P vl kp Mo R d (by omega) x2 C _ _ hc) ?_
    rintro rv h' ⟨rfl, rfl⟩
    obtain ⟨hg, hf⟩ := a_bif hf
    refine v_grd 1 (i' := 28) (L' := [some (.ref 0), some (.int x1), some (.int x2), none, none, none]) (st' := []) (h' := (hX (va_up C3 14 (upd (C3 14) (x2).toNatClampNeg r3)) P vl kp Mo R)) (fun _ => rfl) hg ?_
    obtain ⟨C4, hA, hf⟩ := m_st_ok hf
    rw [hA]
    refine v_blk 2 (i' := 15) (L' := [some (.ref 0), some (.int x1), some (.int (x2 + (1 : Int32))), none, none, none]) (st' := []) (h' := (hX C4 P vl kp Mo R)) (fun _ => rfl) ?_
    exact hrc15 x1 (x2 + (1 : Int32)) C4 _ _ hf
theorem kt_89_15 {fz : Value} {sc : Nat × (Nat → Int32)} (hfz : fz = .null ∨ fz = .retAddr 60) (N : Nat) (P : Nat → Option Nat) (vl kp : Option Nat) (Mo : Nat → aC) (R : List aC) (d : Nat) (hd : 7 ≤ d) : ∀ (n : Nat) (x1 : Int32) (x2 : Int32) (C : mS) (r : Int32) (C' : mS) (hf : k_89_15 N P vl R n x1 x2 C = some (r, C')), v_V fz sc d 89 15 [some (.ref 0), some (.int x1), some (.int x2), none, none, none] [] (hX C P vl kp Mo R) (fun rv h' => rv = some (.int r) ∧ h' = hX C' P vl kp Mo R) := by
  intro n
  induction n with
  | zero => intro x1 x2 C r C' hf; cases hf
  | succ n ih =>
    intro x1 x2 C r C' hf
    exact kt_89_15b hfz N P vl kp Mo R d hd (k_89_15 N P vl R n) ih x1 x2 C r C' hf
set_option maxRecDepth 100000 in
set_option maxHeartbeats 4000000 in
theorem kt_89 {fz : Value} {sc : Nat × (Nat → Int32)} (hfz : fz = .null ∨ fz = .retAddr 60) (N : Nat) (P : Nat → Option Nat) (vl kp : Option Nat) (Mo : Nat → aC) (R : List aC) (d : Nat) (hd : 7 ≤ d) (x1 : Int32) (C : mS) (r : Int32) (C' : mS) (hf : k_89 N P vl R x1 C = some (r, C')) : v_V fz sc d 89 0 [some (.ref 0), some (.int x1), none, none, none, none] [] (hX C P vl kp Mo R) (fun rv h' => rv = some (.int r) ∧ h' = hX C' P vl kp Mo R) := by
  unfold k_89 at hf
  obtain ⟨d, rfl⟩ : ∃ z, d = z + 1 := ⟨d - 1, by omega⟩
  refine v_blk 2 (i' := (bif (a_ic .lt x1 (0 : Int32)) then 5 else 2)) (L' := [some (.ref 0), some (.int x1), none, none, none, none]) (st' := []) (h' := (hX C P vl kp Mo R)) (fun _ => rfl) ?_
  rcases Bool.eq_false_or_eq_true (a_ic .lt x1 (0 : Int32)) with hb | hb
  · have hf := a_bt hb hf
    refine v_it hb ?_
    obtain ⟨rfl, rfl⟩ := m_rt hf
    exact v_ret 2 (fun _ => rfl) ⟨rfl, rfl⟩
  · have hf := a_be hb hf
    refine v_ie hb ?_
    refine v_blk 3 (i' := (bif (a_ic .le x1 (1 : Int32)) then 7 else 5)) (L' := [some (.ref 0), some (.int x1), none, none, none, none]) (st' := []) (h' := (hX C P vl kp Mo R)) (fun _ => rfl) ?_
    rcases Bool.eq_false_or_eq_true (a_ic .le x1 (1 : Int32)) with hb | hb
    · have hf := a_bt hb hf
      refine v_it hb ?_
      obtain ⟨r1, C1, hc, hf⟩ := m_bd_ok hf
      refine v_call 3 (k' := 10) (i' := 10) (E := [some (.ref 13)]) (L' := [some (.ref 0), some (.int x1), none, none, none, none]) (rest := []) (h1 := (hX C P vl kp Mo R)) (fun _ => rfl) ?_
      refine v_post (kt_10 hfz N P vl kp Mo R d (by omega)  C _ _ hc) ?_
      rintro rv h' ⟨rfl, rfl⟩
      obtain ⟨r2, C2, hc, hf⟩ := m_bd_ok hf
      refine v_call 3 (k' := 12) (i' := 13) (E := [some (.ref 13), none]) (L' := [some (.ref 0), some (.int x1), none, none, none, none]) (rest := []) (h1 := (hX C1 P vl kp Mo R)) (fun _ => rfl) ?_
      refine v_post (kt_12 hfz N P vl kp Mo R d (by omega)  C1 _ _ hc) ?_
      rintro rv h' ⟨rfl, rfl⟩
      refine v_blk 2 (i' := 15) (L' := [some (.ref 0), some (.int x1), some (.int (0 : Int32)), none, none, none]) (st' := []) (h' := (hX C2 P vl kp Mo R)) (fun _ => rfl) ?_
      exact kt_89_15 hfz N P vl kp Mo R (d + 1) hd N x1 (0 : Int32) C2 _ _ hf
    · have hf := a_be hb hf
      refine v_ie hb ?_
      obtain ⟨rfl, rfl⟩ := m_rt hf
      exact v_ret 2 (fun _ => rfl) ⟨rfl, rfl⟩
set_option maxRecDepth 100000 in
set_option maxHeartbeats 4000000 in
theorem kt_105v7 {fz : Value} {sc : Nat × (Nat → Int32)} (hfz : fz = .null ∨ fz = .retAddr 60) (N : Nat) (P : Nat → Option Nat) (vl kp : Option Nat) (Mo : Nat → aC) (R : List aC) (d : Nat) (hd : 1 ≤ d) (x1 : Int32) (x2 : Int32) (C : mS) (r : Int32) (C' : mS) (hf : k_105v7 N P vl R x1 x2 C = some (r, C')) : v_V fz sc d 105 0 [some (.ref 7), some (.int x1), some (.int x2)] [] (hX C P vl kp Mo R) (fun rv h' => rv = some (.int r) ∧ h' = hX C' P vl kp Mo R) := by
  unfold k_105v7 at hf
  obtain ⟨d, rfl⟩ : ∃ z, d = z + 1 := ⟨d - 1, by omega⟩
  refine v_blk 3 (i' := (bif (a_ic .ne x2 (-1 : Int32)) then 5 else 3)) (L' := [some (.ref 7), some (.int x1), some (.int x2)]) (st' := []) (h' := (hX C P vl kp Mo R)) (fun _ => rfl) ?_
  rcases Bool.eq_false_or_eq_true (a_ic .ne x2 (-1 : Int32)) with hb | hb
  · have hf := a_bt hb hf
    refine v_it hb ?_
    obtain ⟨r1, C1, hc, hf⟩ := m_bd_ok hf
    refine v_call 2 (k' := 102) (i' := 7) (E := [some (.int x2)]) (L' := [some (.ref 7), some (.int x1), some (.int x2)]) (rest := []) (h1 := (hX C P vl kp Mo R)) (fun _ => rfl) ?_
    refine v_post (kt_102 hfz N P vl kp Mo R d (by omega) x2 C _ _ hc) ?_
    rintro rv h' ⟨rfl, rfl⟩
    refine v_blk 1 (i' := (bif (a_ic .ne r1 (0 : Int32)) then 10 else 8)) (L' := [some (.ref 7), some (.int x1), some (.int x2)]) (st' := []) (h' := (hX C1 P vl kp Mo R)) (fun _ => rfl) ?_
    rcases Bool.eq_false_or_eq_true (a_ic .ne r1 (0 : Int32)) with hb | hb
    · have hf := a_bt hb hf
      refine v_it hb ?_
      refine v_blk 2 (i' := (bif (a_ic .lt x1 (0 : Int32)) then 16 else 12)) (L' := [some (.ref 7), some (.int x1), some (.int x2)]) (st' := []) (h' := (hX C1 P vl kp Mo R)) (fun _ => rfl) ?_
      rcases Bool.eq_false_or_eq_true (a_ic .lt x1 (0 : Int32)) with hb | hb
      · have hf := a_bt hb hf
        refine v_it hb ?_
        obtain ⟨rfl, rfl⟩ := m_rt hf
        exact v_ret 2 (fun _ => rfl) ⟨rfl, rfl⟩
      · have hf := a_be hb hf
        refine v_ie hb ?_
        refine v_blk 4 (i' := (bif (a_ic .lt x1 (20 : Int32)) then 18 else 16)) (L' := [some (.ref 7), some (.int x1), some (.int x2)]) (st' := []) (h' := (hX C1 P vl kp Mo R)) (fun _ => rfl) ?_
        rcases Bool.eq_false_or_eq_true (a_ic .lt x1 (20 : Int32)) with hb | hb
        · have hf := a_bt hb hf
          refine v_it hb ?_
          obtain ⟨hg, hf⟩ := a_bif hf
          refine v_grd 4 (i' := 22) (L' := [some (.ref 7), some (.int x1), some (.int x2)]) (st' := []) (h' := (hX (va_up C1 4 (upd (C1 4) (x1).toNatClampNeg x2)) P vl kp Mo R)) (fun _ => rfl) hg ?_
          obtain ⟨C2, hA, hf⟩ := m_st_ok hf
          rw [hA]
          obtain ⟨rfl, rfl⟩ := m_rt hf
          exact v_ret 4 (fun _ => rfl) ⟨rfl, rfl⟩
        · have hf := a_be hb hf
          refine v_ie hb ?_
          obtain ⟨rfl, rfl⟩ := m_rt hf
          exact v_ret 2 (fun _ => rfl) ⟨rfl, rfl⟩
    · have hf := a_be hb hf
      refine v_ie hb ?_
      obtain ⟨rfl, rfl⟩ := m_rt hf
      exact v_ret 2 (fun _ => rfl) ⟨rfl, rfl⟩
  · have hf := a_be hb hf
    refine v_ie hb ?_
    obtain ⟨rfl, rfl⟩ := m_rt hf
    exact v_ret 2 (fun _ => rfl) ⟨rfl, rfl⟩
