/-! 42.kthm, piece 4: runs of the class's methods are their mirrored functions (by program) -/
set_option maxRecDepth 100000 in
set_option maxHeartbeats 4000000 in
theorem kt_50 {fz : Value} {sc : Nat × (Nat → Int32)} (hfz : fz = .null ∨ fz = .retAddr 60) (N : Nat) (P : Nat → Option Nat) (vl kp : Option Nat) (Mo : Nat → aC) (R : List aC) (rf : Int32 → mS → Option (Int32 × mS)) (D : Nat) (hD : 10 ≤ D) (hrf : ∀ (d : Nat) (x1 : Int32) (C : mS) (r : Int32) (C' : mS), D ≤ d → rf x1 C = some (r, C') → v_V fz sc d 51 0 [some (.ref 9), some (.int x1), none] [] (hX C P vl kp Mo R) (fun rv h' => rv = some (.int r) ∧ h' = hX C' P vl kp Mo R)) (d : Nat) (hd : D + 1 ≤ d) (x1 : Int32) (C : mS) (r : Int32) (C' : mS) (hf : k_50 N P vl R rf x1 C = some (r, C')) : v_V fz sc d 50 0 [some (.ref 9), some (.int x1), none, none, none] [] (hX C P vl kp Mo R) (fun rv h' => rv = some (.int r) ∧ h' = hX C' P vl kp Mo R) := by
  unfold k_50 at hf
  obtain ⟨d, rfl⟩ : ∃ z, d = z + 1 := ⟨d - 1, by omega⟩
  refine v_blk 6 (i' := 6) (L' := [some (.ref 9), some (.int x1), some (.int (0 : Int32)), some (.int (0 : Int32)), some (.int (0 : Int32))]) (st' := []) (h' := (hX C P vl kp Mo R)) (fun _ => rfl) ?_
  exact kt_50_6 hfz N P vl kp Mo R rf D hD hrf (d + 1) hd N x1 (0 : Int32) (0 : Int32) (0 : Int32) C _ _ hf
set_option maxRecDepth 100000 in
set_option maxHeartbeats 4000000 in
theorem kt_51_23 {fz : Value} {sc : Nat × (Nat → Int32)} (hfz : fz = .null ∨ fz = .retAddr 60) (N : Nat) (P : Nat → Option Nat) (vl kp : Option Nat) (Mo : Nat → aC) (R : List aC) (rf : Int32 → mS → Option (Int32 × mS)) (D : Nat) (hD : 10 ≤ D) (hrf : ∀ (d : Nat) (x1 : Int32) (C : mS) (r : Int32) (C' : mS), D ≤ d → rf x1 C = some (r, C') → v_V fz sc d 51 0 [some (.ref 9), some (.int x1), none] [] (hX C P vl kp Mo R) (fun rv h' => rv = some (.int r) ∧ h' = hX C' P vl kp Mo R)) (d : Nat) (hd : D + 2 ≤ d) (x1 : Int32) (t0 : Int32) (C : mS) (r : Int32) (C' : mS) (hf : k_51_23 N P vl R rf x1 t0 C = some (r, C')) : v_V fz sc d 51 23 [some (.ref 9), some (.int x1), none] [(.int t0)] (hX C P vl kp Mo R) (fun rv h' => rv = some (.int r) ∧ h' = hX C' P vl kp Mo R) := by
  unfold k_51_23 at hf
  obtain ⟨d, rfl⟩ : ∃ z, d = z + 1 := ⟨d - 1, by omega⟩
  obtain ⟨r2, C2, hc, hf⟩ := m_bd_ok hf
  refine v_call 3 (k' := 43) (i' := 26) (E := [some (.ref 9)]) (L' := [some (.ref 9), some (.int x1), some (.int t0)]) (rest := []) (h1 := (hX C P vl kp Mo R)) (fun _ => rfl) ?_
  refine v_post (kt_43 hfz N P vl kp Mo R d (by omega)  C _ _ hc) ?_
  rintro rv h' ⟨rfl, rfl⟩
  refine v_blk 2 (i' := (bif (a_ic .eq t0 (0 : Int32)) then 42 else 28)) (L' := [some (.ref 9), some (.int x1), some (.int t0)]) (st' := []) (h' := (hX C2 P vl kp Mo R)) (fun _ => rfl) ?_
  rcases Bool.eq_false_or_eq_true (a_ic .eq t0 (0 : Int32)) with hb | hb
  · have hf := a_bt hb hf
    refine v_it hb ?_
    obtain ⟨r3, C3, hc, hf⟩ := m_bd_ok hf
    refine v_call 5 (k' := 50) (i' := 47) (E := [some (.ref 9), some (.int (x1 + (1 : Int32))), none, none, none]) (L' := [some (.ref 9), some (.int x1), some (.int t0)]) (rest := []) (h1 := (hX C2 P vl kp Mo R)) (fun _ => rfl) ?_
    refine v_post (kt_50 hfz N P vl kp Mo R rf D hD hrf d (by omega) (x1 + (1 : Int32)) C2 _ _ hc) ?_
    rintro rv h' ⟨rfl, rfl⟩
    refine v_blk 1 (i' := (bif (a_ic .eq r3 (0 : Int32)) then 54 else 48)) (L' := [some (.ref 9), some (.int x1), some (.int t0)]) (st' := []) (h' := (hX C3 P vl kp Mo R)) (fun _ => rfl) ?_
    rcases Bool.eq_false_or_eq_true (a_ic .eq r3 (0 : Int32)) with hb | hb
    · have hf := a_bt hb hf
      refine v_it hb ?_
      obtain ⟨rfl, rfl⟩ := m_rt hf
      exact v_ret 2 (fun _ => rfl) ⟨rfl, rfl⟩
    · have hf := a_be hb hf
      refine v_ie hb ?_
      obtain ⟨r4, C4, hc, hf⟩ := m_bd_ok hf
      refine v_call 3 (k' := 46) (i' := 51) (E := [some (.ref 9), some (.retAddr 5), none]) (L' := [some (.ref 9), some (.int x1), some (.int t0)]) (rest := []) (h1 := (hX C3 P vl kp Mo R)) (fun _ => rfl) ?_
      refine v_post (kt_46 hfz N P vl kp Mo R d (by omega) 5 C3 _ _ hc) ?_
      rintro rv h' ⟨rfl, rfl⟩
      refine v_blk 1 (i' := (bif (a_ic .eq r4 (0 : Int32)) then 54 else 52)) (L' := [some (.ref 9), some (.int x1), some (.int t0)]) (st' := []) (h' := (hX C4 P vl kp Mo R)) (fun _ => rfl) ?_
      rcases Bool.eq_false_or_eq_true (a_ic .eq r4 (0 : Int32)) with hb | hb
      · have hf := a_bt hb hf
        refine v_it hb ?_
        obtain ⟨rfl, rfl⟩ := m_rt hf
        exact v_ret 2 (fun _ => rfl) ⟨rfl, rfl⟩
      · have hf := a_be hb hf
        refine v_ie hb ?_
        obtain ⟨rfl, rfl⟩ := m_rt hf
        exact v_ret 3 (fun _ => rfl) ⟨rfl, rfl⟩
  · have hf := a_be hb hf
    refine v_ie hb ?_
    obtain ⟨r5, C5, hc, hf⟩ := m_bd_ok hf
    refine v_call 5 (k' := 51) (i' := 33) (E := [some (.ref 9), some (.int (x1 + (1 : Int32))), none]) (L' := [some (.ref 9), some (.int x1), some (.int t0)]) (rest := []) (h1 := (hX C2 P vl kp Mo R)) (fun _ => rfl) ?_
    refine v_post (hrf d _ _ _ _ (by omega) hc) ?_
    rintro rv h' ⟨rfl, rfl⟩
    refine v_blk 1 (i' := (bif (a_ic .eq r5 (0 : Int32)) then 40 else 34)) (L' := [some (.ref 9), some (.int x1), some (.int t0)]) (st' := []) (h' := (hX C5 P vl kp Mo R)) (fun _ => rfl) ?_
    rcases Bool.eq_false_or_eq_true (a_ic .eq r5 (0 : Int32)) with hb | hb
    · have hf := a_bt hb hf
      refine v_it hb ?_
      obtain ⟨rfl, rfl⟩ := m_rt hf
      exact v_ret 2 (fun _ => rfl) ⟨rfl, rfl⟩
    · have hf := a_be hb hf
      refine v_ie hb ?_
      obtain ⟨r6, C6, hc, hf⟩ := m_bd_ok hf
      refine v_call 3 (k' := 54) (i' := 37) (E := [some (.ref 9), some (.int (-1 : Int32))]) (L' := [some (.ref 9), some (.int x1), some (.int t0)]) (rest := []) (h1 := (hX C5 P vl kp Mo R)) (fun _ => rfl) ?_
      refine v_post (kt_54 hfz N P vl kp Mo R d (by omega) (-1 : Int32) C5 _ _ hc) ?_
      rintro rv h' ⟨rfl, rfl⟩
      refine v_blk 1 (i' := (bif (a_ic .eq r6 (0 : Int32)) then 40 else 38)) (L' := [some (.ref 9), some (.int x1), some (.int t0)]) (st' := []) (h' := (hX C6 P vl kp Mo R)) (fun _ => rfl) ?_
      rcases Bool.eq_false_or_eq_true (a_ic .eq r6 (0 : Int32)) with hb | hb
      · have hf := a_bt hb hf
        refine v_it hb ?_
        obtain ⟨rfl, rfl⟩ := m_rt hf
        exact v_ret 2 (fun _ => rfl) ⟨rfl, rfl⟩
      · have hf := a_be hb hf
        refine v_ie hb ?_
        obtain ⟨rfl, rfl⟩ := m_rt hf
        exact v_ret 3 (fun _ => rfl) ⟨rfl, rfl⟩
set_option maxRecDepth 100000 in
set_option maxHeartbeats 4000000 in
theorem kt_51_11 {fz : Value} {sc : Nat × (Nat → Int32)} (hfz : fz = .null ∨ fz = .retAddr 60) (N : Nat) (P : Nat → Option Nat) (vl kp : Option Nat) (Mo : Nat → aC) (R : List aC) (rf : Int32 → mS → Option (Int32 × mS)) (D : Nat) (hD : 10 ≤ D) (hrf : ∀ (d : Nat) (x1 : Int32) (C : mS) (r : Int32) (C' : mS), D ≤ d → rf x1 C = some (r, C') → v_V fz sc d 51 0 [some (.ref 9), some (.int x1), none] [] (hX C P vl kp Mo R) (fun rv h' => rv = some (.int r) ∧ h' = hX C' P vl kp Mo R)) (d : Nat) (hd : D + 2 ≤ d) (x1 : Int32) (C : mS) (r : Int32) (C' : mS) (hf : k_51_11 N P vl R rf x1 C = some (r, C')) : v_V fz sc d 51 11 [some (.ref 9), some (.int x1), none] [] (hX C P vl kp Mo R) (fun rv h' => rv = some (.int r) ∧ h' = hX C' P vl kp Mo R) := by
  unfold k_51_11 at hf
  obtain ⟨d, rfl⟩ : ∃ z, d = z + 1 := ⟨d - 1, by omega⟩
  refine v_blk 3 (i' := (bif (a_ic .lt x1 (5 : Int32)) then 16 else 14)) (L' := [some (.ref 9), some (.int x1), none]) (st' := []) (h' := (hX C P vl kp Mo R)) (fun _ => rfl) ?_
  rcases Bool.eq_false_or_eq_true (a_ic .lt x1 (5 : Int32)) with hb | hb
  · have hf := a_bt hb hf
    refine v_it hb ?_
    refine v_blk 4 (i' := (bif (a_ic .ne (C 91 10) (33 : Int32)) then 22 else 20)) (L' := [some (.ref 9), some (.int x1), none]) (st' := []) (h' := (hX C P vl kp Mo R)) (fun _ => rfl) ?_
    rcases Bool.eq_false_or_eq_true (a_ic .ne (C 91 10) (33 : Int32)) with hb | hb
    · have hf := a_bt hb hf
      refine v_it hb ?_
      refine v_blk 1 (i' := 23) (L' := [some (.ref 9), some (.int x1), none]) (st' := [(.int (0 : Int32))]) (h' := (hX C P vl kp Mo R)) (fun _ => rfl) ?_
      exact kt_51_23 hfz N P vl kp Mo R rf D hD hrf (d + 1) hd x1 (0 : Int32) C _ _ hf
    · have hf := a_be hb hf
      refine v_ie hb ?_
      refine v_blk 2 (i' := 23) (L' := [some (.ref 9), some (.int x1), none]) (st' := [(.int (1 : Int32))]) (h' := (hX C P vl kp Mo R)) (fun _ => rfl) ?_
      exact kt_51_23 hfz N P vl kp Mo R rf D hD hrf (d + 1) hd x1 (1 : Int32) C _ _ hf
  · have hf := a_be hb hf
    refine v_ie hb ?_
    obtain ⟨rfl, rfl⟩ := m_rt hf
    exact v_ret 2 (fun _ => rfl) ⟨rfl, rfl⟩
set_option maxRecDepth 100000 in
set_option maxHeartbeats 4000000 in
theorem kt_51 {fz : Value} {sc : Nat × (Nat → Int32)} (hfz : fz = .null ∨ fz = .retAddr 60) (N : Nat) (P : Nat → Option Nat) (vl kp : Option Nat) (Mo : Nat → aC) (R : List aC) (rf : Int32 → mS → Option (Int32 × mS)) (D : Nat) (hD : 10 ≤ D) (hrf : ∀ (d : Nat) (x1 : Int32) (C : mS) (r : Int32) (C' : mS), D ≤ d → rf x1 C = some (r, C') → v_V fz sc d 51 0 [some (.ref 9), some (.int x1), none] [] (hX C P vl kp Mo R) (fun rv h' => rv = some (.int r) ∧ h' = hX C' P vl kp Mo R)) (d : Nat) (hd : D + 2 ≤ d) (x1 : Int32) (C : mS) (r : Int32) (C' : mS) (hf : k_51 N P vl R rf x1 C = some (r, C')) : v_V fz sc d 51 0 [some (.ref 9), some (.int x1), none] [] (hX C P vl kp Mo R) (fun rv h' => rv = some (.int r) ∧ h' = hX C' P vl kp Mo R) := by
  unfold k_51 at hf
  obtain ⟨d, rfl⟩ : ∃ z, d = z + 1 := ⟨d - 1, by omega⟩
  refine v_blk 4 (i' := (bif (a_ic .eq (C 91 10) (33 : Int32)) then 11 else 4)) (L' := [some (.ref 9), some (.int x1), none]) (st' := []) (h' := (hX C P vl kp Mo R)) (fun _ => rfl) ?_
  rcases Bool.eq_false_or_eq_true (a_ic .eq (C 91 10) (33 : Int32)) with hb | hb
  · have hf := a_bt hb hf
    refine v_it hb ?_
    exact kt_51_11 hfz N P vl kp Mo R rf D hD hrf (d + 1) hd x1 C _ _ hf
  · have hf := a_be hb hf
    refine v_ie hb ?_
    refine v_blk 4 (i' := (bif (a_ic .eq (C 91 10) (40 : Int32)) then 11 else 8)) (L' := [some (.ref 9), some (.int x1), none]) (st' := []) (h' := (hX C P vl kp Mo R)) (fun _ => rfl) ?_
    rcases Bool.eq_false_or_eq_true (a_ic .eq (C 91 10) (40 : Int32)) with hb | hb
    · have hf := a_bt hb hf
      refine v_it hb ?_
      exact kt_51_11 hfz N P vl kp Mo R rf D hD hrf (d + 1) hd x1 C _ _ hf
    · have hf := a_be hb hf
      refine v_ie hb ?_
      obtain ⟨r1, C1, hc, hf⟩ := m_bd_ok hf
      refine v_call 2 (k' := 52) (i' := 10) (E := [some (.ref 9), none, none, none]) (L' := [some (.ref 9), some (.int x1), none]) (rest := []) (h1 := (hX C P vl kp Mo R)) (fun _ => rfl) ?_
      refine v_post (kt_52 hfz N P vl kp Mo R d (by omega)  C _ _ hc) ?_
      rintro rv h' ⟨rfl, rfl⟩
      obtain ⟨hg, hf⟩ := a_bif hf
      obtain ⟨rfl, rfl⟩ := m_rt hf
      exact v_retg 1 (fun _ => rfl) hg ⟨rfl, rfl⟩
theorem kt_fac {fz : Value} {sc : Nat × (Nat → Int32)} (hfz : fz = .null ∨ fz = .retAddr 60) (N : Nat) (P : Nat → Option Nat) (vl kp : Option Nat) (Mo : Nat → aC) (R : List aC) : ∀ (q d : Nat) (x1 : Int32) (C : mS) (r : Int32) (C' : mS), 10 + 2 * q ≤ d → k_fac N P vl R q x1 C = some (r, C') → v_V fz sc d 51 0 [some (.ref 9), some (.int x1), none] [] (hX C P vl kp Mo R) (fun rv h' => rv = some (.int r) ∧ h' = hX C' P vl kp Mo R) := by
  intro q
  induction q with
  | zero => intro d x1 C r C' hd hf; cases hf
  | succ q ih =>
    intro d x1 C r C' hd hf
    exact kt_51 hfz N P vl kp Mo R (k_fac N P vl R q) (10 + 2 * q) (by omega) (fun d x1 C r C' hd hf => ih d x1 C r C' hd hf) d (by omega) x1 C r C' hf
set_option maxRecDepth 100000 in
set_option maxHeartbeats 4000000 in
theorem kt_44_55 {fz : Value} {sc : Nat × (Nat → Int32)} (hfz : fz = .null ∨ fz = .retAddr 60) (N : Nat) (P : Nat → Option Nat) (vl kp : Option Nat) (Mo : Nat → aC) (R : List aC) (d : Nat) (hd : 28 ≤ d) (t1 : Int32) (C : mS) (r : Int32) (C' : mS) (hf : k_44_55 N P vl R t1 C = some (r, C')) : v_V fz sc d 44 55 [none, none, none] [(.int t1), (.ref 9)] (hX C P vl kp Mo R) (fun rv h' => rv = some (.int r) ∧ h' = hX C' P vl kp Mo R) := by
  unfold k_44_55 at hf
  obtain ⟨d, rfl⟩ : ∃ z, d = z + 1 := ⟨d - 1, by omega⟩
  obtain ⟨r7, C7, hc, hf⟩ := m_bd_ok hf
  refine v_call 1 (k' := 49) (i' := 56) (E := [some (.ref 9), some (.int t1)]) (L' := [none, none, none]) (rest := []) (h1 := (hX C P vl kp Mo R)) (fun _ => rfl) ?_
  refine v_post (kt_49 hfz N P vl kp Mo R d (by omega) t1 C _ _ hc) ?_
  rintro rv h' ⟨rfl, rfl⟩
  refine v_blk 1 (i' := (bif (a_ic .eq r7 (0 : Int32)) then 59 else 57)) (L' := [none, none, none]) (st' := []) (h' := (hX C7 P vl kp Mo R)) (fun _ => rfl) ?_
  rcases Bool.eq_false_or_eq_true (a_ic .eq r7 (0 : Int32)) with hb | hb
  · have hf := a_bt hb hf
    refine v_it hb ?_
    obtain ⟨rfl, rfl⟩ := m_rt hf
    exact v_ret 2 (fun _ => rfl) ⟨rfl, rfl⟩
  · have hf := a_be hb hf
    refine v_ie hb ?_
    obtain ⟨rfl, rfl⟩ := m_rt hf
    exact v_ret 3 (fun _ => rfl) ⟨rfl, rfl⟩
set_option maxRecDepth 100000 in
set_option maxHeartbeats 4000000 in
theorem kt_44_18 {fz : Value} {sc : Nat × (Nat → Int32)} (hfz : fz = .null ∨ fz = .retAddr 60) (N : Nat) (P : Nat → Option Nat) (vl kp : Option Nat) (Mo : Nat → aC) (R : List aC) (d : Nat) (hd : 28 ≤ d) (x1 : Int32) (t0 : Int32) (C : mS) (r : Int32) (C' : mS) (hf : k_44_18 N P vl R x1 t0 C = some (r, C')) : v_V fz sc d 44 18 [some (.ref 9), some (.int x1), none] [(.int t0)] (hX C P vl kp Mo R) (fun rv h' => rv = some (.int r) ∧ h' = hX C' P vl kp Mo R) := by
  unfold k_44_18 at hf
  obtain ⟨d, rfl⟩ : ∃ z, d = z + 1 := ⟨d - 1, by omega⟩
  refine v_blk 3 (i' := (bif (a_ic .ge t0 (0 : Int32)) then 23 else 21)) (L' := [some (.ref 9), some (.int x1), some (.int t0)]) (st' := []) (h' := (hX C P vl kp Mo R)) (fun _ => rfl) ?_
  rcases Bool.eq_false_or_eq_true (a_ic .ge t0 (0 : Int32)) with hb | hb
  · have hf := a_bt hb hf
    refine v_it hb ?_
    refine v_blk 3 (i' := (bif (a_ic .ne x1 (114 : Int32)) then 31 else 26)) (L' := [some (.ref 9), some (.int x1), some (.int t0)]) (st' := []) (h' := (hX C P vl kp Mo R)) (fun _ => rfl) ?_
    rcases Bool.eq_false_or_eq_true (a_ic .ne x1 (114 : Int32)) with hb | hb
    · have hf := a_bt hb hf
      refine v_it hb ?_
      refine v_blk 3 (i' := (bif (a_ic .ne x1 (103 : Int32)) then 39 else 34)) (L' := [some (.ref 9), some (.int x1), some (.int t0)]) (st' := []) (h' := (hX C P vl kp Mo R)) (fun _ => rfl) ?_
      rcases Bool.eq_false_or_eq_true (a_ic .ne x1 (103 : Int32)) with hb | hb
      · have hf := a_bt hb hf
        refine v_it hb ?_
        obtain ⟨r5, C5, hc, hf⟩ := m_bd_ok hf
        refine v_call 3 (k' := 46) (i' := 42) (E := [some (.ref 9), some (.retAddr 4), none]) (L' := [some (.ref 9), some (.int x1), some (.int t0)]) (rest := []) (h1 := (hX C P vl kp Mo R)) (fun _ => rfl) ?_
        refine v_post (kt_46 hfz N P vl kp Mo R d (by omega) 4 C _ _ hc) ?_
        rintro rv h' ⟨rfl, rfl⟩
        refine v_blk 1 (i' := (bif (a_ic .eq r5 (0 : Int32)) then 59 else 43)) (L' := [some (.ref 9), some (.int x1), some (.int t0)]) (st' := []) (h' := (hX C5 P vl kp Mo R)) (fun _ => rfl) ?_
        rcases Bool.eq_false_or_eq_true (a_ic .eq r5 (0 : Int32)) with hb | hb
        · have hf := a_bt hb hf
          refine v_it hb ?_
          obtain ⟨rfl, rfl⟩ := m_rt hf
          exact v_ret 2 (fun _ => rfl) ⟨rfl, rfl⟩
        · have hf := a_be hb hf
          refine v_ie hb ?_
          obtain ⟨r6, C6, hc, hf⟩ := m_bd_ok hf
          refine v_call 3 (k' := 50) (i' := 46) (E := [some (.ref 9), some (.int (0 : Int32)), none, none, none]) (L' := [some (.ref 9), some (.int x1), some (.int t0)]) (rest := []) (h1 := (hX C5 P vl kp Mo R)) (fun _ => rfl) ?_
          refine v_post (kt_50 hfz N P vl kp Mo R (k_fac N P vl R 8) 26 (by omega) (fun d x1 C r C' hd hf => kt_fac hfz N P vl kp Mo R 8 d x1 C r C' (by omega) hf) d (by omega) (0 : Int32) C5 _ _ hc) ?_
          rintro rv h' ⟨rfl, rfl⟩
          refine v_blk 1 (i' := (bif (a_ic .eq r6 (0 : Int32)) then 59 else 47)) (L' := [some (.ref 9), some (.int x1), some (.int t0)]) (st' := []) (h' := (hX C6 P vl kp Mo R)) (fun _ => rfl) ?_
          rcases Bool.eq_false_or_eq_true (a_ic .eq r6 (0 : Int32)) with hb | hb
          · have hf := a_bt hb hf
            refine v_it hb ?_
            obtain ⟨rfl, rfl⟩ := m_rt hf
            exact v_ret 2 (fun _ => rfl) ⟨rfl, rfl⟩
          · have hf := a_be hb hf
            refine v_ie hb ?_
            refine v_blk 4 (i' := (bif (a_ic .ne x1 (119 : Int32)) then 53 else 51)) (L' := [some (.ref 9), some (.int x1), some (.int t0)]) (st' := [(.ref 9)]) (h' := (hX C6 P vl kp Mo R)) (fun _ => rfl) ?_
            rcases Bool.eq_false_or_eq_true (a_ic .ne x1 (119 : Int32)) with hb | hb
            · have hf := a_bt hb hf
              refine v_it hb ?_
              refine v_blk 2 (i' := 55) (L' := [some (.ref 9), some (.int x1), some (.int t0)]) (st' := [(.int (-t0)), (.ref 9)]) (h' := (hX C6 P vl kp Mo R)) (fun _ => rfl) ?_
              refine v_weak (L' := [none, none, none]) (show a_wk [none, none, none] [some (.ref 9), some (.int x1), some (.int t0)] from ⟨(fun v hv => by cases hv; rfl), ⟨(fun v hv => by cases hv; rfl), ⟨(fun v hv => by cases hv; rfl), trivial⟩⟩⟩) ?_
              exact kt_44_55 hfz N P vl kp Mo R (d + 1) hd (-t0) C6 _ _ hf
            · have hf := a_be hb hf
              refine v_ie hb ?_
              refine v_blk 2 (i' := 55) (L' := [some (.ref 9), some (.int x1), some (.int t0)]) (st' := [(.int t0), (.ref 9)]) (h' := (hX C6 P vl kp Mo R)) (fun _ => rfl) ?_
              refine v_weak (L' := [none, none, none]) (show a_wk [none, none, none] [some (.ref 9), some (.int x1), some (.int t0)] from ⟨(fun v hv => by cases hv; rfl), ⟨(fun v hv => by cases hv; rfl), ⟨(fun v hv => by cases hv; rfl), trivial⟩⟩⟩) ?_
              exact kt_44_55 hfz N P vl kp Mo R (d + 1) hd t0 C6 _ _ hf
      · have hf := a_be hb hf
        refine v_ie hb ?_
        obtain ⟨rfl, rfl⟩ := m_rt hf
        exact v_ret 5 (fun _ => rfl) ⟨rfl, rfl⟩
    · have hf := a_be hb hf
      refine v_ie hb ?_
      obtain ⟨rfl, rfl⟩ := m_rt hf
      exact v_ret 5 (fun _ => rfl) ⟨rfl, rfl⟩
  · have hf := a_be hb hf
    refine v_ie hb ?_
    obtain ⟨rfl, rfl⟩ := m_rt hf
    exact v_ret 2 (fun _ => rfl) ⟨rfl, rfl⟩
set_option maxRecDepth 100000 in
set_option maxHeartbeats 4000000 in
theorem kt_44 {fz : Value} {sc : Nat × (Nat → Int32)} (hfz : fz = .null ∨ fz = .retAddr 60) (N : Nat) (P : Nat → Option Nat) (vl kp : Option Nat) (Mo : Nat → aC) (R : List aC) (d : Nat) (hd : 28 ≤ d) (C : mS) (r : Int32) (C' : mS) (hf : k_44 N P vl R  C = some (r, C')) : v_V fz sc d 44 0 [some (.ref 9), none, none] [] (hX C P vl kp Mo R) (fun rv h' => rv = some (.int r) ∧ h' = hX C' P vl kp Mo R) := by
  unfold k_44 at hf
  obtain ⟨d, rfl⟩ : ∃ z, d = z + 1 := ⟨d - 1, by omega⟩
  obtain ⟨r1, C1, hc, hf⟩ := m_bd_ok hf
  refine v_call 6 (k' := 45) (i' := 6) (E := [some (.int (C 91 10))]) (L' := [some (.ref 9), some (.int (C 91 10)), none]) (rest := [(.ref 9)]) (h1 := (hX C P vl kp Mo R)) (fun _ => rfl) ?_
  refine v_post (kt_45 hfz N P vl kp Mo R d (by omega) (C 91 10) C _ _ hc) ?_
  rintro rv h' ⟨rfl, rfl⟩
  obtain ⟨r2, C2, hc, hf⟩ := m_bd_ok hf
  refine v_call 1 (k' := 46) (i' := 7) (E := [some (.ref 9), some (.retAddr r1), none]) (L' := [some (.ref 9), some (.int (C 91 10)), none]) (rest := []) (h1 := (hX C1 P vl kp Mo R)) (fun _ => rfl) ?_
  refine v_post (kt_46 hfz N P vl kp Mo R d (by omega) r1 C1 _ _ hc) ?_
  rintro rv h' ⟨rfl, rfl⟩
  refine v_blk 1 (i' := (bif (a_ic .ne r2 (0 : Int32)) then 10 else 8)) (L' := [some (.ref 9), some (.int (C 91 10)), none]) (st' := []) (h' := (hX C2 P vl kp Mo R)) (fun _ => rfl) ?_
  rcases Bool.eq_false_or_eq_true (a_ic .ne r2 (0 : Int32)) with hb | hb
  · have hf := a_bt hb hf
    refine v_it hb ?_
    refine v_blk 3 (i' := (bif (a_ic .ne (C 91 10) (114 : Int32)) then 16 else 13)) (L' := [some (.ref 9), some (.int (C 91 10)), none]) (st' := []) (h' := (hX C2 P vl kp Mo R)) (fun _ => rfl) ?_
    rcases Bool.eq_false_or_eq_true (a_ic .ne (C 91 10) (114 : Int32)) with hb | hb
    · have hf := a_bt hb hf
      refine v_it hb ?_
      obtain ⟨r3, C3, hc, hf⟩ := m_bd_ok hf
      refine v_call 2 (k' := 48) (i' := 18) (E := [some (.ref 9), none]) (L' := [some (.ref 9), some (.int (C 91 10)), none]) (rest := []) (h1 := (hX C2 P vl kp Mo R)) (fun _ => rfl) ?_
      refine v_post (kt_48 hfz N P vl kp Mo R d (by omega)  C2 _ _ hc) ?_
      rintro rv h' ⟨rfl, rfl⟩
      exact kt_44_18 hfz N P vl kp Mo R (d + 1) hd (C 91 10) r3 C3 _ _ hf
    · have hf := a_be hb hf
      refine v_ie hb ?_
      obtain ⟨r4, C4, hc, hf⟩ := m_bd_ok hf
      refine v_call 2 (k' := 47) (i' := 15) (E := [some (.ref 9), none]) (L' := [some (.ref 9), some (.int (C 91 10)), none]) (rest := []) (h1 := (hX C2 P vl kp Mo R)) (fun _ => rfl) ?_
      refine v_post (kt_47 hfz N P vl kp Mo R d (by omega)  C2 _ _ hc) ?_
      rintro rv h' ⟨rfl, rfl⟩
      refine v_blk 1 (i' := 18) (L' := [some (.ref 9), some (.int (C 91 10)), none]) (st' := [(.int r4)]) (h' := (hX C4 P vl kp Mo R)) (fun _ => rfl) ?_
      exact kt_44_18 hfz N P vl kp Mo R (d + 1) hd (C 91 10) r4 C4 _ _ hf
  · have hf := a_be hb hf
    refine v_ie hb ?_
    obtain ⟨rfl, rfl⟩ := m_rt hf
    exact v_ret 2 (fun _ => rfl) ⟨rfl, rfl⟩
set_option maxRecDepth 100000 in
set_option maxHeartbeats 4000000 in
theorem kt_40_26b {fz : Value} {sc : Nat × (Nat → Int32)} (hfz : fz = .null ∨ fz = .retAddr 60) (N : Nat) (P : Nat → Option Nat) (vl kp : Option Nat) (Mo : Nat → aC) (R : List aC) (d : Nat) (hd : 29 ≤ d) (rc26 : Int32 → mS → Option (Int32 × mS)) (hrc26 : ∀ (x2 : Int32) (C : mS) (r : Int32) (C' : mS), rc26 x2 C = some (r, C') → v_V fz sc d 40 26 [some (.ref 9), none, some (.int x2)] [] (hX C P vl kp Mo R) (fun rv h' => rv = some (.int r) ∧ h' = hX C' P vl kp Mo R)) (x2 : Int32) (C : mS) (r : Int32) (C' : mS) (hf : k_40_26b N P vl R rc26 x2 C = some (r, C')) : v_V fz sc d 40 26 [some (.ref 9), none, some (.int x2)] [] (hX C P vl kp Mo R) (fun rv h' => rv = some (.int r) ∧ h' = hX C' P vl kp Mo R) := by
  unfold k_40_26b at hf
  obtain ⟨d, rfl⟩ : ∃ z, d = z + 1 := ⟨d - 1, by omega⟩
  refine v_blk 3 (i' := (bif (a_ic .ge x2 (10 : Int32)) then 55 else 29)) (L' := [some (.ref 9), none, some (.int x2)]) (st' := []) (h' := (hX C P vl kp Mo R)) (fun _ => rfl) ?_
  rcases Bool.eq_false_or_eq_true (a_ic .ge x2 (10 : Int32)) with hb | hb
  · have hf := a_bt hb hf
    refine v_it hb ?_
    obtain ⟨rfl, rfl⟩ := m_rt hf
    exact v_ret 3 (fun _ => rfl) ⟨rfl, rfl⟩
  · have hf := a_be hb hf
    refine v_ie hb ?_
    obtain ⟨r3, C3, hc, hf⟩ := m_bd_ok hf
    refine v_call 2 (k' := 44) (i' := 31) (E := [some (.ref 9), none, none]) (L' := [some (.ref 9), none, some (.int x2)]) (rest := []) (h1 := (hX C P vl kp Mo R)) (fun _ => rfl) ?_
    refine v_post (kt_44 hfz N P vl kp Mo R d (by omega)  C _ _ hc) ?_
    rintro rv h' ⟨rfl, rfl⟩
    refine v_blk 1 (i' := (bif (a_ic .ne r3 (0 : Int32)) then 35 else 32)) (L' := [some (.ref 9), none, some (.int x2)]) (st' := []) (h' := (hX C3 P vl kp Mo R)) (fun _ => rfl) ?_
    rcases Bool.eq_false_or_eq_true (a_ic .ne r3 (0 : Int32)) with hb | hb
    · have hf := a_bt hb hf
      refine v_it hb ?_
      refine v_blk 4 (i' := (bif (a_ic .ne (C3 91 10) (-1 : Int32)) then 41 else 39)) (L' := [some (.ref 9), none, some (.int x2)]) (st' := []) (h' := (hX C3 P vl kp Mo R)) (fun _ => rfl) ?_
      rcases Bool.eq_false_or_eq_true (a_ic .ne (C3 91 10) (-1 : Int32)) with hb | hb
      · have hf := a_bt hb hf
        refine v_it hb ?_
        refine v_blk 4 (i' := (bif (a_ic .ne (C3 91 10) (59 : Int32)) then 48 else 45)) (L' := [some (.ref 9), none, some (.int x2)]) (st' := []) (h' := (hX C3 P vl kp Mo R)) (fun _ => rfl) ?_
        rcases Bool.eq_false_or_eq_true (a_ic .ne (C3 91 10) (59 : Int32)) with hb | hb
        · have hf := a_bt hb hf
          refine v_it hb ?_
          obtain ⟨rfl, rfl⟩ := m_rt hf
          exact v_ret 3 (fun _ => rfl) ⟨rfl, rfl⟩
        · have hf := a_be hb hf
          refine v_ie hb ?_
          refine v_blk 3 (i' := (bif (a_ic .ne x2 (9 : Int32)) then 51 else 48)) (L' := [some (.ref 9), none, some (.int x2)]) (st' := []) (h' := (hX C3 P vl kp Mo R)) (fun _ => rfl) ?_
          rcases Bool.eq_false_or_eq_true (a_ic .ne x2 (9 : Int32)) with hb | hb
          · have hf := a_bt hb hf
            refine v_it hb ?_
            obtain ⟨r4, C4, hc, hf⟩ := m_bd_ok hf
            refine v_call 2 (k' := 43) (i' := 53) (E := [some (.ref 9)]) (L' := [some (.ref 9), none, some (.int x2)]) (rest := []) (h1 := (hX C3 P vl kp Mo R)) (fun _ => rfl) ?_
            refine v_post (kt_43 hfz N P vl kp Mo R d (by omega)  C3 _ _ hc) ?_
            rintro rv h' ⟨rfl, rfl⟩
            refine v_blk 2 (i' := 26) (L' := [some (.ref 9), none, some (.int (x2 + (1 : Int32)))]) (st' := []) (h' := (hX C4 P vl kp Mo R)) (fun _ => rfl) ?_
            exact hrc26 (x2 + (1 : Int32)) C4 _ _ hf
          · have hf := a_be hb hf
            refine v_ie hb ?_
            obtain ⟨rfl, rfl⟩ := m_rt hf
            exact v_ret 3 (fun _ => rfl) ⟨rfl, rfl⟩
      · have hf := a_be hb hf
        refine v_ie hb ?_
        obtain ⟨rfl, rfl⟩ := m_rt hf
        exact v_ret 2 (fun _ => rfl) ⟨rfl, rfl⟩
    · have hf := a_be hb hf
      refine v_ie hb ?_
      obtain ⟨rfl, rfl⟩ := m_rt hf
      exact v_ret 3 (fun _ => rfl) ⟨rfl, rfl⟩
theorem kt_40_26 {fz : Value} {sc : Nat × (Nat → Int32)} (hfz : fz = .null ∨ fz = .retAddr 60) (N : Nat) (P : Nat → Option Nat) (vl kp : Option Nat) (Mo : Nat → aC) (R : List aC) (d : Nat) (hd : 29 ≤ d) : ∀ (n : Nat) (x2 : Int32) (C : mS) (r : Int32) (C' : mS) (hf : k_40_26 N P vl R n x2 C = some (r, C')), v_V fz sc d 40 26 [some (.ref 9), none, some (.int x2)] [] (hX C P vl kp Mo R) (fun rv h' => rv = some (.int r) ∧ h' = hX C' P vl kp Mo R) := by
  intro n
  induction n with
  | zero => intro x2 C r C' hf; cases hf
  | succ n ih =>
    intro x2 C r C' hf
    exact kt_40_26b hfz N P vl kp Mo R d hd (k_40_26 N P vl R n) ih x2 C r C' hf
set_option maxRecDepth 100000 in
set_option maxHeartbeats 4000000 in
theorem kt_40 {fz : Value} {sc : Nat × (Nat → Int32)} (hfz : fz = .null ∨ fz = .retAddr 60) (N : Nat) (P : Nat → Option Nat) (vl kp : Option Nat) (Mo : Nat → aC) (R : List aC) (d : Nat) (hd : 29 ≤ d) (x1 : Int32) (C : mS) (r : Int32) (C' : mS) (hf : k_40 N P vl R x1 C = some (r, C')) : v_V fz sc d 40 0 [some (.ref 9), some (.int x1), none] [] (hX C P vl kp Mo R) (fun rv h' => rv = some (.int r) ∧ h' = hX C' P vl kp Mo R) := by
  unfold k_40 at hf
  obtain ⟨d, rfl⟩ : ∃ z, d = z + 1 := ⟨d - 1, by omega⟩
  refine v_blk 6 (i' := 6) (L' := [some (.ref 9), some (.int x1), none]) (st' := [(.int (if (120 : Int32) < x1 then (120 : Int32) else x1)), (.ref 9)]) (h' := (hX C P vl kp Mo R)) (fun _ => rfl) ?_
  obtain ⟨y1, hy, hf⟩ := m_li_ok hf
  rw [hy]
  obtain ⟨r2, C2, hc, hf⟩ := m_bd_ok hf
  refine v_call 6 (k' := 43) (i' := 12) (E := [some (.ref 9)]) (L' := [some (.ref 9), some (.int x1), none]) (rest := []) (h1 := (hX (va_up C 91 (upd (upd (C 91) 8 y1) 9 (-1 : Int32))) P vl kp Mo R)) (fun _ => rfl) ?_
  refine v_post (kt_43 hfz N P vl kp Mo R d (by omega)  (va_up C 91 (upd (upd (C 91) 8 y1) 9 (-1 : Int32))) _ _ hc) ?_
  rintro rv h' ⟨rfl, rfl⟩
  refine v_blk 14 (i' := 26) (L' := [some (.ref 9), some (.int x1), some (.int (0 : Int32))]) (st' := []) (h' := (hX (va_up C2 91 (upd (upd (upd (upd (C2 91) 3 (0 : Int32)) 4 (0 : Int32)) 5 (0 : Int32)) 6 (0 : Int32))) P vl kp Mo R)) (fun _ => rfl) ?_
  refine v_weak (L' := [some (.ref 9), none, some (.int (0 : Int32))]) (show a_wk [some (.ref 9), none, some (.int (0 : Int32))] [some (.ref 9), some (.int x1), some (.int (0 : Int32))] from ⟨rfl, ⟨(fun v hv => by cases hv; rfl), ⟨rfl, trivial⟩⟩⟩) ?_
  exact kt_40_26 hfz N P vl kp Mo R (d + 1) hd N (0 : Int32) (va_up C2 91 (upd (upd (upd (upd (C2 91) 3 (0 : Int32)) 4 (0 : Int32)) 5 (0 : Int32)) 6 (0 : Int32))) _ _ hf
set_option maxRecDepth 100000 in
set_option maxHeartbeats 4000000 in
theorem kt_57 {fz : Value} {sc : Nat × (Nat → Int32)} (hfz : fz = .null ∨ fz = .retAddr 60) (N : Nat) (P : Nat → Option Nat) (vl kp : Option Nat) (Mo : Nat → aC) (R : List aC) (d : Nat) (hd : 7 ≤ d) (x0 : Nat) (x1 : Int32) (C : mS) (r : Int32) (C' : mS) (hf : k_57 N P vl R x0 x1 C = some (r, C')) : v_V fz sc d 57 0 [some (.ref x0), some (.int x1), some (.ref 18), none] [] (hX C P vl kp Mo R) (fun rv h' => rv = some (.int r) ∧ h' = hX C' P vl kp Mo R) := by
  unfold k_57 at hf
  obtain ⟨d, rfl⟩ : ∃ z, d = z + 1 := ⟨d - 1, by omega⟩
  obtain ⟨r1, C1, hc, hf⟩ := m_bd_ok hf
  refine v_call 3 (k' := 8) (i' := 3) (E := [some (.ref 18), some (.int (41 : Int32))]) (L' := [some (.ref x0), some (.int x1), some (.ref 18), none]) (rest := []) (h1 := (hX C P vl kp Mo R)) (fun _ => rfl) ?_
  refine v_post (kt_8 hfz N P vl kp Mo R d (by omega) (41 : Int32) C _ _ hc) ?_
  rintro rv h' ⟨rfl, rfl⟩
  obtain ⟨ci3, ka3, nu3, va3, ho_x0, hf⟩ := m_ob_ok hf
  obtain ⟨r2, C2, hc, hf⟩ := m_bd_ok hf
  refine v_blk 5 (i' := 8) (L' := [some (.ref x0), some (.int x1), some (.ref 18), none]) (st' := [(.ref 18), (.int (x1 - (1 : Int32))), (.ref x0)]) (h' := (hX C1 P vl kp Mo R)) (fun _ => rfl) ?_
  refine v_s7 (E := [some (.ref x0), some (.int (x1 - (1 : Int32))), some (.ref 18)]) (rest := []) rfl rfl rfl (bdr_ok ho_x0) rfl rfl rfl ?_
  refine v_post (kt_7 hfz N P vl kp Mo R d (by omega) x0 (x1 - (1 : Int32)) C1 _ _ hc) ?_
  rintro rv h' ⟨rfl, rfl⟩
  obtain ⟨r4, C4, hc, hf⟩ := m_bd_ok hf
  refine v_blk 5 (i' := 14) (L' := [some (.ref x0), some (.int x1), some (.ref 18), some (.int r2)]) (st' := [(.ref 18), (.int (2 : Int32)), (.ref x0), (.int r2)]) (h' := (hX C2 P vl kp Mo R)) (fun _ => rfl) ?_
  by_cases hb : ci3 = 6
  · rw [if_pos hb] at hc
    refine v_vc (E := [some (.ref x0), some (.int (2 : Int32)), some (.ref 18)]) (rest := [(.int r2)]) rfl rfl rfl (bdr_ok ho_x0) (by rw [hb]; rfl) rfl rfl rfl ?_
    refine v_post (kt_38 hfz N P vl kp Mo R d (by omega) x0 (2 : Int32) C2 _ _ hc) ?_
    rintro rv h' ⟨rfl, rfl⟩
    obtain ⟨rfl, rfl⟩ := m_rt hf
    exact v_ret 2 (fun _ => rfl) ⟨rfl, rfl⟩
  rw [if_neg hb] at hc
  cases hc
set_option maxRecDepth 100000 in
set_option maxHeartbeats 4000000 in
theorem kt_76 {fz : Value} {sc : Nat × (Nat → Int32)} (hfz : fz = .null ∨ fz = .retAddr 60) (N : Nat) (P : Nat → Option Nat) (vl kp : Option Nat) (Mo : Nat → aC) (R : List aC) (d : Nat) (hd : 0 ≤ d) (x1 : Int32) (C : mS) (r : Int32) (C' : mS) (hf : k_76 N P vl R x1 C = some (r, C')) : v_V fz sc d 76 0 [some (.ref 0), some (.int x1)] [] (hX C P vl kp Mo R) (fun rv h' => rv = some (.int r) ∧ h' = hX C' P vl kp Mo R) := by
  unfold k_76 at hf
  refine v_blk 2 (i' := (bif (a_ic .lt x1 (0 : Int32)) then 5 else 2)) (L' := [some (.ref 0), some (.int x1)]) (st' := []) (h' := (hX C P vl kp Mo R)) (fun _ => rfl) ?_
  rcases Bool.eq_false_or_eq_true (a_ic .lt x1 (0 : Int32)) with hb | hb
  · have hf := a_bt hb hf
    refine v_it hb ?_
    obtain ⟨rfl, rfl⟩ := m_rt hf
    exact v_ret 2 (fun _ => rfl) ⟨rfl, rfl⟩
  · have hf := a_be hb hf
    refine v_ie hb ?_
    refine v_blk 3 (i' := (bif (a_ic .le x1 (127 : Int32)) then 7 else 5)) (L' := [some (.ref 0), some (.int x1)]) (st' := []) (h' := (hX C P vl kp Mo R)) (fun _ => rfl) ?_
    rcases Bool.eq_false_or_eq_true (a_ic .le x1 (127 : Int32)) with hb | hb
    · have hf := a_bt hb hf
      refine v_it hb ?_
      refine v_blk 5 (i' := (bif (a_ic .lt (C 90 1) (120 : Int32)) then 14 else 12)) (L' := [some (.ref 0), some (.int x1)]) (st' := []) (h' := (hX C P vl kp Mo R)) (fun _ => rfl) ?_
      rcases Bool.eq_false_or_eq_true (a_ic .lt (C 90 1) (120 : Int32)) with hb | hb
      · have hf := a_bt hb hf
        refine v_it hb ?_
        obtain ⟨hg, hf⟩ := a_bif hf
        refine v_grd 8 (i' := 22) (L' := [some (.ref 0), some (.int x1)]) (st' := []) (h' := (hX (va_up C 0 (upd (C 0) ((C 90 1)).toNatClampNeg x1)) P vl kp Mo R)) (fun _ => rfl) hg ?_
        obtain ⟨C1, hA, hf⟩ := m_st_ok hf
        rw [hA]
        obtain ⟨rfl, rfl⟩ := m_rt hf
        exact v_ret 11 (fun _ => rfl) ⟨rfl, rfl⟩
      · have hf := a_be hb hf
        refine v_ie hb ?_
        obtain ⟨rfl, rfl⟩ := m_rt hf
        exact v_ret 2 (fun _ => rfl) ⟨rfl, rfl⟩
    · have hf := a_be hb hf
      refine v_ie hb ?_
      obtain ⟨rfl, rfl⟩ := m_rt hf
      exact v_ret 2 (fun _ => rfl) ⟨rfl, rfl⟩
set_option maxRecDepth 100000 in
set_option maxHeartbeats 4000000 in
theorem kt_78 {fz : Value} {sc : Nat × (Nat → Int32)} (hfz : fz = .null ∨ fz = .retAddr 60) (N : Nat) (P : Nat → Option Nat) (vl kp : Option Nat) (Mo : Nat → aC) (R : List aC) (d : Nat) (hd : 1 ≤ d) (x1 : Int32) (C : mS) (r : Int32) (C' : mS) (hf : k_78 N P vl R x1 C = some (r, C')) : v_V fz sc d 78 0 [some (.ref 0), some (.int x1)] [] (hX C P vl kp Mo R) (fun rv h' => rv = some (.int r) ∧ h' = hX C' P vl kp Mo R) := by
  unfold k_78 at hf
  obtain ⟨d, rfl⟩ : ∃ z, d = z + 1 := ⟨d - 1, by omega⟩
  refine v_blk 2 (i' := (a_tsw 0 4 25 [2, 6, 10, 14, 18] x1)) (L' := [some (.ref 0), some (.int x1)]) (st' := []) (h' := (hX C P vl kp Mo R)) (fun _ => rfl) ?_
  by_cases hb : (a_tsw 0 4 25 [2, 6, 10, 14, 18] x1) = 2
  · rw [if_pos hb] at hf
    rw [hb]
    obtain ⟨r1, C1, hc, hf⟩ := m_bd_ok hf
    refine v_call 3 (k' := 71) (i' := 5) (E := [some (.ref 1)]) (L' := [some (.ref 0), some (.int x1)]) (rest := []) (h1 := (hX C P vl kp Mo R)) (fun _ => rfl) ?_
    refine v_post (kt_71 hfz N P vl kp Mo R d (by omega)  C _ _ hc) ?_
    rintro rv h' ⟨rfl, rfl⟩
    obtain ⟨rfl, rfl⟩ := m_rt hf
    exact v_ret 1 (fun _ => rfl) ⟨rfl, rfl⟩
  rw [if_neg hb] at hf
  by_cases hb : (a_tsw 0 4 25 [2, 6, 10, 14, 18] x1) = 6
  · rw [if_pos hb] at hf
    rw [hb]
    obtain ⟨r2, C2, hc, hf⟩ := m_bd_ok hf
    refine v_call 3 (k' := 72) (i' := 9) (E := [some (.ref 1)]) (L' := [some (.ref 0), some (.int x1)]) (rest := []) (h1 := (hX C P vl kp Mo R)) (fun _ => rfl) ?_
    refine v_post (kt_72 hfz N P vl kp Mo R d (by omega)  C _ _ hc) ?_
    rintro rv h' ⟨rfl, rfl⟩
    obtain ⟨rfl, rfl⟩ := m_rt hf
    exact v_ret 1 (fun _ => rfl) ⟨rfl, rfl⟩
  rw [if_neg hb] at hf
  by_cases hb : (a_tsw 0 4 25 [2, 6, 10, 14, 18] x1) = 10
  · rw [if_pos hb] at hf
    rw [hb]
    obtain ⟨rfl, rfl⟩ := m_rt hf
    exact v_ret 4 (fun _ => rfl) ⟨rfl, rfl⟩
  rw [if_neg hb] at hf
  by_cases hb : (a_tsw 0 4 25 [2, 6, 10, 14, 18] x1) = 14
  · rw [if_pos hb] at hf
    rw [hb]
    obtain ⟨rfl, rfl⟩ := m_rt hf
    exact v_ret 4 (fun _ => rfl) ⟨rfl, rfl⟩
  rw [if_neg hb] at hf
  by_cases hb : (a_tsw 0 4 25 [2, 6, 10, 14, 18] x1) = 18
  · rw [if_pos hb] at hf
    rw [hb]
    obtain ⟨r3, C3, hc, hf⟩ := m_bd_ok hf
    refine v_call 6 (k' := 73) (i' := 24) (E := [some (.ref 1), some (.int (C 90 8))]) (L' := [some (.ref 0), some (.int x1)]) (rest := []) (h1 := (hX C P vl kp Mo R)) (fun _ => rfl) ?_
    refine v_post (kt_73 hfz N P vl kp Mo R d (by omega) (C 90 8) C _ _ hc) ?_
    rintro rv h' ⟨rfl, rfl⟩
    obtain ⟨rfl, rfl⟩ := m_rt hf
    exact v_ret 1 (fun _ => rfl) ⟨rfl, rfl⟩
  rw [if_neg hb] at hf
  by_cases hb : (a_tsw 0 4 25 [2, 6, 10, 14, 18] x1) = 25
  · rw [if_pos hb] at hf
    rw [hb]
    obtain ⟨rfl, rfl⟩ := m_rt hf
    exact v_ret 2 (fun _ => rfl) ⟨rfl, rfl⟩
  rw [if_neg hb] at hf
  cases hf
set_option maxRecDepth 100000 in
set_option maxHeartbeats 4000000 in
theorem kt_102 {fz : Value} {sc : Nat × (Nat → Int32)} (hfz : fz = .null ∨ fz = .retAddr 60) (N : Nat) (P : Nat → Option Nat) (vl kp : Option Nat) (Mo : Nat → aC) (R : List aC) (d : Nat) (hd : 0 ≤ d) (x0 : Int32) (C : mS) (r : Int32) (C' : mS) (hf : k_102 N P vl R x0 C = some (r, C')) : v_V fz sc d 102 0 [some (.int x0)] [] (hX C P vl kp Mo R) (fun rv h' => rv = some (.int r) ∧ h' = hX C' P vl kp Mo R) := by
  unfold k_102 at hf
  refine v_blk 2 (i' := (bif (a_ic .lt x0 (0 : Int32)) then 7 else 2)) (L' := [some (.int x0)]) (st' := []) (h' := (hX C P vl kp Mo R)) (fun _ => rfl) ?_
  rcases Bool.eq_false_or_eq_true (a_ic .lt x0 (0 : Int32)) with hb | hb
  · have hf := a_bt hb hf
    refine v_it hb ?_
    obtain ⟨rfl, rfl⟩ := m_rt hf
    exact v_ret 2 (fun _ => rfl) ⟨rfl, rfl⟩
  · have hf := a_be hb hf
    refine v_ie hb ?_
    refine v_blk 3 (i' := (bif (a_ic .ge x0 (4 : Int32)) then 7 else 5)) (L' := [some (.int x0)]) (st' := []) (h' := (hX C P vl kp Mo R)) (fun _ => rfl) ?_
    rcases Bool.eq_false_or_eq_true (a_ic .ge x0 (4 : Int32)) with hb | hb
    · have hf := a_bt hb hf
      refine v_it hb ?_
      obtain ⟨rfl, rfl⟩ := m_rt hf
      exact v_ret 2 (fun _ => rfl) ⟨rfl, rfl⟩
    · have hf := a_be hb hf
      refine v_ie hb ?_
      obtain ⟨rfl, rfl⟩ := m_rt hf
      exact v_ret 3 (fun _ => rfl) ⟨rfl, rfl⟩
set_option maxRecDepth 100000 in
set_option maxHeartbeats 4000000 in
theorem kt_105v3 {fz : Value} {sc : Nat × (Nat → Int32)} (hfz : fz = .null ∨ fz = .retAddr 60) (N : Nat) (P : Nat → Option Nat) (vl kp : Option Nat) (Mo : Nat → aC) (R : List aC) (d : Nat) (hd : 1 ≤ d) (x1 : Int32) (x2 : Int32) (C : mS) (r : Int32) (C' : mS) (hf : k_105v3 N P vl R x1 x2 C = some (r, C')) : v_V fz sc d 105 0 [some (.ref 3), some (.int x1), some (.int x2)] [] (hX C P vl kp Mo R) (fun rv h' => rv = some (.int r) ∧ h' = hX C' P vl kp Mo R) := by
  unfold k_105v3 at hf
  obtain ⟨d, rfl⟩ : ∃ z, d = z + 1 := ⟨d - 1, by omega⟩
  refine v_blk 3 (i' := (bif (a_ic .ne x2 (-1 : Int32)) then 5 else 3)) (L' := [some (.ref 3), some (.int x1), some (.int x2)]) (st' := []) (h' := (hX C P vl kp Mo R)) (fun _ => rfl) ?_
  rcases Bool.eq_false_or_eq_true (a_ic .ne x2 (-1 : Int32)) with hb | hb
  · have hf := a_bt hb hf
    refine v_it hb ?_
    obtain ⟨r1, C1, hc, hf⟩ := m_bd_ok hf
    refine v_call 2 (k' := 102) (i' := 7) (E := [some (.int x2)]) (L' := [some (.ref 3), some (.int x1), some (.int x2)]) (rest := []) (h1 := (hX C P vl kp Mo R)) (fun _ => rfl) ?_
    refine v_post (kt_102 hfz N P vl kp Mo R d (by omega) x2 C _ _ hc) ?_
    rintro rv h' ⟨rfl, rfl⟩
    refine v_blk 1 (i' := (bif (a_ic .ne r1 (0 : Int32)) then 10 else 8)) (L' := [some (.ref 3), some (.int x1), some (.int x2)]) (st' := []) (h' := (hX C1 P vl kp Mo R)) (fun _ => rfl) ?_
    rcases Bool.eq_false_or_eq_true (a_ic .ne r1 (0 : Int32)) with hb | hb
    · have hf := a_bt hb hf
      refine v_it hb ?_
      refine v_blk 2 (i' := (bif (a_ic .lt x1 (0 : Int32)) then 16 else 12)) (L' := [some (.ref 3), some (.int x1), some (.int x2)]) (st' := []) (h' := (hX C1 P vl kp Mo R)) (fun _ => rfl) ?_
      rcases Bool.eq_false_or_eq_true (a_ic .lt x1 (0 : Int32)) with hb | hb
      · have hf := a_bt hb hf
        refine v_it hb ?_
        obtain ⟨rfl, rfl⟩ := m_rt hf
        exact v_ret 2 (fun _ => rfl) ⟨rfl, rfl⟩
      · have hf := a_be hb hf
        refine v_ie hb ?_
        refine v_blk 4 (i' := (bif (a_ic .lt x1 (12 : Int32)) then 18 else 16)) (L' := [some (.ref 3), some (.int x1), some (.int x2)]) (st' := []) (h' := (hX C1 P vl kp Mo R)) (fun _ => rfl) ?_
        rcases Bool.eq_false_or_eq_true (a_ic .lt x1 (12 : Int32)) with hb | hb
        · have hf := a_bt hb hf
          refine v_it hb ?_
          obtain ⟨hg, hf⟩ := a_bif hf
          refine v_grd 4 (i' := 22) (L' := [some (.ref 3), some (.int x1), some (.int x2)]) (st' := []) (h' := (hX (va_up C1 1 (upd (C1 1) (x1).toNatClampNeg x2)) P vl kp Mo R)) (fun _ => rfl) hg ?_
          obtain ⟨C2, hA, hf⟩ := m_st_ok hf
          rw [hA]
          obtain ⟨rfl, rfl⟩ := m_rt hf
          exact v_ret 4 (fun _ => rfl) ⟨rfl, rfl⟩
        · have hf := a_be hb hf
          refine v_ie hb ?_
          obtain ⟨rfl, rfl⟩ := m_rt hf
          exact v_ret 2 (fun _ => rfl) ⟨rfl, rfl⟩
    · have hf := a_be hb hf
      refine v_ie hb ?_
      obtain ⟨rfl, rfl⟩ := m_rt hf
      exact v_ret 2 (fun _ => rfl) ⟨rfl, rfl⟩
  · have hf := a_be hb hf
    refine v_ie hb ?_
    obtain ⟨rfl, rfl⟩ := m_rt hf
    exact v_ret 2 (fun _ => rfl) ⟨rfl, rfl⟩
set_option maxRecDepth 100000 in
set_option maxHeartbeats 4000000 in
theorem kt_79 {fz : Value} {sc : Nat × (Nat → Int32)} (hfz : fz = .null ∨ fz = .retAddr 60) (N : Nat) (P : Nat → Option Nat) (vl kp : Option Nat) (Mo : Nat → aC) (R : List aC) (d : Nat) (hd : 2 ≤ d) (x1 : Int32) (C : mS) (r : Int32) (C' : mS) (hf : k_79 N P vl R x1 C = some (r, C')) : v_V fz sc d 79 0 [some (.ref 0), some (.int x1), none] [] (hX C P vl kp Mo R) (fun rv h' => rv = some (.int r) ∧ h' = hX C' P vl kp Mo R) := by
  unfold k_79 at hf
  obtain ⟨d, rfl⟩ : ∃ z, d = z + 1 := ⟨d - 1, by omega⟩
  obtain ⟨r1, C1, hc, hf⟩ := m_bd_ok hf
  refine v_call 8 (k' := 105) (i' := 8) (E := [some (.ref 3), some (.int (C 90 7)), some (.int x1)]) (L' := [some (.ref 0), some (.int x1), none]) (rest := []) (h1 := (hX C P vl kp Mo R)) (fun _ => rfl) ?_
  refine v_post (kt_105v3 hfz N P vl kp Mo R d (by omega) (C 90 7) x1 C _ _ hc) ?_
  rintro rv h' ⟨rfl, rfl⟩
  refine v_blk 3 (i' := (bif (a_ic .lt r1 (0 : Int32)) then 19 else 11)) (L' := [some (.ref 0), some (.int x1), some (.int r1)]) (st' := []) (h' := (hX C1 P vl kp Mo R)) (fun _ => rfl) ?_
  rcases Bool.eq_false_or_eq_true (a_ic .lt r1 (0 : Int32)) with hb | hb
  · have hf := a_bt hb hf
    refine v_it hb ?_
    obtain ⟨rfl, rfl⟩ := m_rt hf
    exact v_ret 2 (fun _ => rfl) ⟨rfl, rfl⟩
  · have hf := a_be hb hf
    refine v_ie hb ?_
    obtain ⟨rfl, rfl⟩ := m_rt hf
    exact v_ret 10 (fun _ => rfl) ⟨rfl, rfl⟩
set_option maxRecDepth 100000 in
set_option maxHeartbeats 4000000 in
theorem kt_81 {fz : Value} {sc : Nat × (Nat → Int32)} (hfz : fz = .null ∨ fz = .retAddr 60) (N : Nat) (P : Nat → Option Nat) (vl kp : Option Nat) (Mo : Nat → aC) (R : List aC) (d : Nat) (hd : 2 ≤ d) (x1 : Int32) (x2 : Int32) (x3 : Int32) (C : mS) (r : Int32) (C' : mS) (hf : k_81 N P vl R x1 x2 x3 C = some (r, C')) : v_V fz sc d 81 0 [some (.ref 0), some (.int x1), some (.int x2), some (.int x3), none, none, none] [] (hX C P vl kp Mo R) (fun rv h' => rv = some (.int r) ∧ h' = hX C' P vl kp Mo R) := by
  unfold k_81 at hf
  obtain ⟨d, rfl⟩ : ∃ z, d = z + 1 := ⟨d - 1, by omega⟩
  obtain ⟨r1, C1, hc, hf⟩ := m_bd_ok hf
  refine v_call 4 (k' := 70) (i' := 4) (E := [some (.ref 1), some (.int x1)]) (L' := [some (.ref 0), some (.int x1), some (.int x2), some (.int x3), none, none, none]) (rest := []) (h1 := (hX C P vl kp Mo R)) (fun _ => rfl) ?_
  refine v_post (kt_70 hfz N P vl kp Mo R d (by omega) x1 C _ _ hc) ?_
  rintro rv h' ⟨rfl, rfl⟩
  rcases m_op_ok hf with ⟨ho2, hf⟩ | ⟨a2, ho2, hf⟩
  · refine v_on ho2 ?_
    obtain ⟨rfl, rfl⟩ := m_rt hf
    exact v_ret 5 (fun _ => rfl) ⟨rfl, rfl⟩
  · refine v_os ho2 ?_
    obtain ⟨r3, C3, hc, hf⟩ := m_bd_ok hf
    refine v_call 5 (k' := 102) (i' := 9) (E := [some (.int x2)]) (L' := [some (.ref 0), some (.int x1), some (.int x2), some (.int x3), some (.ref a2), none, none]) (rest := []) (h1 := (hX C1 P vl kp Mo R)) (fun _ => rfl) ?_
    refine v_post (kt_102 hfz N P vl kp Mo R d (by omega) x2 C1 _ _ hc) ?_
    rintro rv h' ⟨rfl, rfl⟩
    refine v_blk 1 (i' := (bif (a_ic .ne r3 (0 : Int32)) then 12 else 10)) (L' := [some (.ref 0), some (.int x1), some (.int x2), some (.int x3), some (.ref a2), none, none]) (st' := []) (h' := (hX C3 P vl kp Mo R)) (fun _ => rfl) ?_
    rcases Bool.eq_false_or_eq_true (a_ic .ne r3 (0 : Int32)) with hb | hb
    · have hf := a_bt hb hf
      refine v_it hb ?_
      refine v_blk 2 (i' := (bif (a_ic .lt x3 (0 : Int32)) then 17 else 14)) (L' := [some (.ref 0), some (.int x1), some (.int x2), some (.int x3), some (.ref a2), none, none]) (st' := []) (h' := (hX C3 P vl kp Mo R)) (fun _ => rfl) ?_
      rcases Bool.eq_false_or_eq_true (a_ic .lt x3 (0 : Int32)) with hb | hb
      · have hf := a_bt hb hf
        refine v_it hb ?_
        obtain ⟨rfl, rfl⟩ := m_rt hf
        exact v_ret 2 (fun _ => rfl) ⟨rfl, rfl⟩
      · have hf := a_be hb hf
        refine v_ie hb ?_
        refine v_blk 3 (i' := (bif (a_ic .le x3 (99 : Int32)) then 19 else 17)) (L' := [some (.ref 0), some (.int x1), some (.int x2), some (.int x3), some (.ref a2), none, none]) (st' := []) (h' := (hX C3 P vl kp Mo R)) (fun _ => rfl) ?_
        rcases Bool.eq_false_or_eq_true (a_ic .le x3 (99 : Int32)) with hb | hb
        · have hf := a_bt hb hf
          refine v_it hb ?_
          obtain ⟨ci4, ka4, nu4, va4, ho_a2, hf⟩ := m_ob_ok hf
          refine v_blk 1 (i' := 20) (L' := [some (.ref 0), some (.int x1), some (.int x2), some (.int x3), some (.ref a2), none, none]) (st' := [(.ref a2)]) (h' := (hX C3 P vl kp Mo R)) (fun _ => rfl) ?_
          obtain ⟨hg, hf⟩ := a_bif hf
          refine v_io rfl rfl rfl (bdr_ok ho_a2) hg ?_
          obtain ⟨y5, hy, hf⟩ := m_li_ok hf
          rw [hy]
          refine v_blk 1 (i' := (bif (a_ic .ne y5 (0 : Int32)) then 24 else 22)) (L' := [some (.ref 0), some (.int x1), some (.int x2), some (.int x3), some (.ref a2), none, none]) (st' := []) (h' := (hX C3 P vl kp Mo R)) (fun _ => rfl) ?_
          rcases Bool.eq_false_or_eq_true (a_ic .ne y5 (0 : Int32)) with hb | hb
          · have hf := a_bt hb hf
            refine v_it hb ?_
            obtain ⟨hg, hf⟩ := a_bif hf
            refine v_grd 11 (i' := 35) (L' := [some (.ref 0), some (.int x1), some (.int x2), some (.int x3), some (.ref a2), some (.int ((x1 * (4 : Int32)) + x2)), none]) (st' := [(.int ((C3 3) (((x1 * (4 : Int32)) + x2)).toNatClampNeg))]) (h' := (hX C3 P vl kp Mo R)) (fun _ => rfl) hg ?_
            obtain ⟨y6, hy, hf⟩ := m_li_ok hf
            rw [hy]
            obtain ⟨hg, hf⟩ := a_bif hf
            refine v_grd 7 (i' := 42) (L' := [some (.ref 0), some (.int x1), some (.int x2), some (.int x3), some (.ref a2), some (.int ((x1 * (4 : Int32)) + x2)), some (.int y6)]) (st' := []) (h' := (hX (va_up C3 3 (upd (C3 3) (((x1 * (4 : Int32)) + x2)).toNatClampNeg x3)) P vl kp Mo R)) (fun _ => rfl) hg ?_
            obtain ⟨C7, hA, hf⟩ := m_st_ok hf
            rw [hA]
            obtain ⟨rfl, rfl⟩ := m_rt hf
            exact v_ret 2 (fun _ => rfl) ⟨rfl, rfl⟩
          · have hf := a_be hb hf
            refine v_ie hb ?_
            obtain ⟨rfl, rfl⟩ := m_rt hf
            exact v_ret 2 (fun _ => rfl) ⟨rfl, rfl⟩
        · have hf := a_be hb hf
          refine v_ie hb ?_
          obtain ⟨rfl, rfl⟩ := m_rt hf
          exact v_ret 2 (fun _ => rfl) ⟨rfl, rfl⟩
    · have hf := a_be hb hf
      refine v_ie hb ?_
      obtain ⟨rfl, rfl⟩ := m_rt hf
      exact v_ret 2 (fun _ => rfl) ⟨rfl, rfl⟩
set_option maxRecDepth 100000 in
set_option maxHeartbeats 4000000 in
theorem kt_82 {fz : Value} {sc : Nat × (Nat → Int32)} (hfz : fz = .null ∨ fz = .retAddr 60) (N : Nat) (P : Nat → Option Nat) (vl kp : Option Nat) (Mo : Nat → aC) (R : List aC) (d : Nat) (hd : 6 ≤ d) (x1 : Int32) (x2 : Int32) (C : mS) (r : Int32) (C' : mS) (hf : k_82 N P vl R x1 x2 C = some (r, C')) : v_V fz sc d 82 0 [some (.ref 0), some (.int x1), some (.int x2), none] [] (hX C P vl kp Mo R) (fun rv h' => rv = some (.int r) ∧ h' = hX C' P vl kp Mo R) := by
  unfold k_82 at hf
  obtain ⟨d, rfl⟩ : ∃ z, d = z + 1 := ⟨d - 1, by omega⟩
  obtain ⟨r1, C1, hc, hf⟩ := m_bd_ok hf
  refine v_call 4 (k' := 70) (i' := 4) (E := [some (.ref 1), some (.int x1)]) (L' := [some (.ref 0), some (.int x1), some (.int x2), none]) (rest := []) (h1 := (hX C P vl kp Mo R)) (fun _ => rfl) ?_
  refine v_post (kt_70 hfz N P vl kp Mo R d (by omega) x1 C _ _ hc) ?_
  rintro rv h' ⟨rfl, rfl⟩
  rcases m_op_ok hf with ⟨ho2, hf⟩ | ⟨a2, ho2, hf⟩
  · refine v_on ho2 ?_
    obtain ⟨rfl, rfl⟩ := m_rt hf
    exact v_ret 5 (fun _ => rfl) ⟨rfl, rfl⟩
  · refine v_os ho2 ?_
    obtain ⟨r3, C3, hc, hf⟩ := m_bd_ok hf
    refine v_call 7 (k' := 102) (i' := 13) (E := [some (.int (x2 - (10 : Int32)))]) (L' := [some (.ref 0), some (.int x1), some (.int x2), some (.ref a2)]) (rest := []) (h1 := (hX C1 P vl kp Mo R)) (fun _ => rfl) ?_
    refine v_post (kt_102 hfz N P vl kp Mo R d (by omega) (x2 - (10 : Int32)) C1 _ _ hc) ?_
    rintro rv h' ⟨rfl, rfl⟩
    refine v_blk 1 (i' := (bif (a_ic .eq r3 (0 : Int32)) then 29 else 14)) (L' := [some (.ref 0), some (.int x1), some (.int x2), some (.ref a2)]) (st' := []) (h' := (hX C3 P vl kp Mo R)) (fun _ => rfl) ?_
    rcases Bool.eq_false_or_eq_true (a_ic .eq r3 (0 : Int32)) with hb | hb
    · have hf := a_bt hb hf
      refine v_it hb ?_
      obtain ⟨r4, C4, hc, hf⟩ := m_bd_ok hf
      refine v_call 4 (k' := 102) (i' := 33) (E := [some (.int (x2 - (20 : Int32)))]) (L' := [some (.ref 0), some (.int x1), some (.int x2), some (.ref a2)]) (rest := []) (h1 := (hX C3 P vl kp Mo R)) (fun _ => rfl) ?_
      refine v_post (kt_102 hfz N P vl kp Mo R d (by omega) (x2 - (20 : Int32)) C3 _ _ hc) ?_
      rintro rv h' ⟨rfl, rfl⟩
      refine v_blk 1 (i' := (bif (a_ic .eq r4 (0 : Int32)) then 45 else 34)) (L' := [some (.ref 0), some (.int x1), some (.int x2), some (.ref a2)]) (st' := []) (h' := (hX C4 P vl kp Mo R)) (fun _ => rfl) ?_
      rcases Bool.eq_false_or_eq_true (a_ic .eq r4 (0 : Int32)) with hb | hb
      · have hf := a_bt hb hf
        refine v_it hb ?_
        refine v_blk 2 (i' := (a_tsw 0 2 59 [47, 50, 53] x2)) (L' := [some (.ref 0), some (.int x1), some (.int x2), some (.ref a2)]) (st' := []) (h' := (hX C4 P vl kp Mo R)) (fun _ => rfl) ?_
        by_cases hb : (a_tsw 0 2 59 [47, 50, 53] x2) = 47
        · rw [if_pos hb] at hf
          rw [hb]
          obtain ⟨ci5, ka5, nu5, va5, ho_a2, hf⟩ := m_ob_ok hf
          refine v_blk 1 (i' := 48) (L' := [some (.ref 0), some (.int x1), some (.int x2), some (.ref a2)]) (st' := [(.ref a2)]) (h' := (hX C4 P vl kp Mo R)) (fun _ => rfl) ?_
          obtain ⟨hg_a2_0_1_3_4_6_7_8, hf⟩ := a_bif hf
          refine v_gf rfl rfl rfl (bdr_ok ho_a2) rfl hg_a2_0_1_3_4_6_7_8 ?_
          obtain ⟨rfl, rfl⟩ := m_rt hf
          exact v_ret 1 (fun _ => rfl) ⟨rfl, rfl⟩
        rw [if_neg hb] at hf
        by_cases hb : (a_tsw 0 2 59 [47, 50, 53] x2) = 50
        · rw [if_pos hb] at hf
          rw [hb]
          obtain ⟨ci6, ka6, nu6, va6, ho_a2, hf⟩ := m_ob_ok hf
          refine v_blk 1 (i' := 51) (L' := [some (.ref 0), some (.int x1), some (.int x2), some (.ref a2)]) (st' := [(.ref a2)]) (h' := (hX C4 P vl kp Mo R)) (fun _ => rfl) ?_
          obtain ⟨hg_a2_0_1_3_4_6_7_8, hf⟩ := a_bif hf
          refine v_gf rfl rfl rfl (bdr_ok ho_a2) rfl hg_a2_0_1_3_4_6_7_8 ?_
          obtain ⟨rfl, rfl⟩ := m_rt hf
          exact v_ret 1 (fun _ => rfl) ⟨rfl, rfl⟩
        rw [if_neg hb] at hf
        by_cases hb : (a_tsw 0 2 59 [47, 50, 53] x2) = 53
        · rw [if_pos hb] at hf
          rw [hb]
          obtain ⟨hg, hf⟩ := a_bif hf
          refine v_grd 5 (i' := 58) (L' := [some (.ref 0), some (.int x1), some (.int x2), some (.ref a2)]) (st' := [(.int ((C4 2) (x1).toNatClampNeg))]) (h' := (hX C4 P vl kp Mo R)) (fun _ => rfl) hg ?_
          obtain ⟨y7, hy, hf⟩ := m_li_ok hf
          rw [hy]
          obtain ⟨rfl, rfl⟩ := m_rt hf
          exact v_ret 1 (fun _ => rfl) ⟨rfl, rfl⟩
        rw [if_neg hb] at hf
        by_cases hb : (a_tsw 0 2 59 [47, 50, 53] x2) = 59
        · rw [if_pos hb] at hf
          rw [hb]
          obtain ⟨rfl, rfl⟩ := m_rt hf
          exact v_ret 2 (fun _ => rfl) ⟨rfl, rfl⟩
        rw [if_neg hb] at hf
        cases hf
      · have hf := a_be hb hf
        refine v_ie hb ?_
        obtain ⟨r8, C8, hc, hf⟩ := m_bd_ok hf
        refine v_call 3 (k' := 10) (i' := 37) (E := [some (.ref 13)]) (L' := [some (.ref 0), some (.int x1), some (.int x2), some (.ref a2)]) (rest := []) (h1 := (hX C4 P vl kp Mo R)) (fun _ => rfl) ?_
        refine v_post (kt_10 hfz N P vl kp Mo R d (by omega)  C4 _ _ hc) ?_
        rintro rv h' ⟨rfl, rfl⟩
        obtain ⟨r9, C9, hc, hf⟩ := m_bd_ok hf
        refine v_call 7 (k' := 29) (i' := 44) (E := [some (.ref 13), some (.int x1), some (.int (x2 - (20 : Int32)))]) (L' := [some (.ref 0), some (.int x1), some (.int x2), some (.ref a2)]) (rest := []) (h1 := (hX C8 P vl kp Mo R)) (fun _ => rfl) ?_
        refine v_post (kt_29 hfz N P vl kp Mo R d (by omega) x1 (x2 - (20 : Int32)) C8 _ _ hc) ?_
        rintro rv h' ⟨rfl, rfl⟩
        obtain ⟨rfl, rfl⟩ := m_rt hf
        exact v_ret 1 (fun _ => rfl) ⟨rfl, rfl⟩
    · have hf := a_be hb hf
      refine v_ie hb ?_
      obtain ⟨r10, C10, hc, hf⟩ := m_bd_ok hf
      refine v_call 3 (k' := 10) (i' := 17) (E := [some (.ref 13)]) (L' := [some (.ref 0), some (.int x1), some (.int x2), some (.ref a2)]) (rest := []) (h1 := (hX C3 P vl kp Mo R)) (fun _ => rfl) ?_
      refine v_post (kt_10 hfz N P vl kp Mo R d (by omega)  C3 _ _ hc) ?_
      rintro rv h' ⟨rfl, rfl⟩
      obtain ⟨r11, C11, hc, hf⟩ := m_bd_ok hf
      refine v_call 4 (k' := 13) (i' := 21) (E := [some (.ref 13), some (.int x1), none, none]) (L' := [some (.ref 0), some (.int x1), some (.int x2), some (.ref a2)]) (rest := []) (h1 := (hX C10 P vl kp Mo R)) (fun _ => rfl) ?_
      refine v_post (kt_13 hfz N P vl kp Mo R d (by omega) x1 C10 _ _ hc) ?_
      rintro rv h' ⟨rfl, rfl⟩
      obtain ⟨r12, C12, hc, hf⟩ := m_bd_ok hf
      refine v_call 7 (k' := 22) (i' := 28) (E := [some (.ref 13), some (.int x1), some (.int (x2 - (10 : Int32)))]) (L' := [some (.ref 0), some (.int x1), some (.int x2), some (.ref a2)]) (rest := []) (h1 := (hX C11 P vl kp Mo R)) (fun _ => rfl) ?_
      refine v_post (kt_22 hfz N P vl kp Mo R d (by omega) x1 (x2 - (10 : Int32)) C11 _ _ hc) ?_
      rintro rv h' ⟨rfl, rfl⟩
      obtain ⟨rfl, rfl⟩ := m_rt hf
      exact v_ret 1 (fun _ => rfl) ⟨rfl, rfl⟩
set_option maxRecDepth 100000 in
set_option maxHeartbeats 4000000 in
theorem kt_83 {fz : Value} {sc : Nat × (Nat → Int32)} (hfz : fz = .null ∨ fz = .retAddr 60) (N : Nat) (P : Nat → Option Nat) (vl kp : Option Nat) (Mo : Nat → aC) (R : List aC) (d : Nat) (hd : 7 ≤ d) (C : mS) (r : Int32) (C' : mS) (hf : k_83 N P vl R  C = some (r, C')) : v_V fz sc d 83 0 [some (.ref 0)] [] (hX C P vl kp Mo R) (fun rv h' => rv = some (.int r) ∧ h' = hX C' P vl kp Mo R) := by
  unfold k_83 at hf
  obtain ⟨d, rfl⟩ : ∃ z, d = z + 1 := ⟨d - 1, by omega⟩
  refine v_blk 5 (i' := (bif (a_ic .lt (C 90 4) (99 : Int32)) then 7 else 5)) (L' := [some (.ref 0)]) (st' := []) (h' := (hX C P vl kp Mo R)) (fun _ => rfl) ?_
  rcases Bool.eq_false_or_eq_true (a_ic .lt (C 90 4) (99 : Int32)) with hb | hb
  · have hf := a_bt hb hf
    refine v_it hb ?_
    obtain ⟨r1, C1, hc, hf⟩ := m_bd_ok hf
    refine v_call 3 (k' := 10) (i' := 10) (E := [some (.ref 13)]) (L' := [some (.ref 0)]) (rest := []) (h1 := (hX C P vl kp Mo R)) (fun _ => rfl) ?_
    refine v_post (kt_10 hfz N P vl kp Mo R d (by omega)  C _ _ hc) ?_
    rintro rv h' ⟨rfl, rfl⟩
    obtain ⟨r2, C2, hc, hf⟩ := m_bd_ok hf
    refine v_call 3 (k' := 12) (i' := 13) (E := [some (.ref 13), none]) (L' := [some (.ref 0)]) (rest := []) (h1 := (hX C1 P vl kp Mo R)) (fun _ => rfl) ?_
    refine v_post (kt_12 hfz N P vl kp Mo R d (by omega)  C1 _ _ hc) ?_
    rintro rv h' ⟨rfl, rfl⟩
    obtain ⟨r3, C3, hc, hf⟩ := m_bd_ok hf
    refine v_call 3 (k' := 19) (i' := 16) (E := [some (.ref 13), none, none, none, none]) (L' := [some (.ref 0)]) (rest := []) (h1 := (hX C2 P vl kp Mo R)) (fun _ => rfl) ?_
    refine v_post (kt_19 hfz N P vl kp Mo R d (by omega)  C2 _ _ hc) ?_
    rintro rv h' ⟨rfl, rfl⟩
    obtain ⟨r4, C4, hc, hf⟩ := m_bd_ok hf
    refine v_call 4 (k' := 11) (i' := 20) (E := [some (.ref 13)]) (L' := [some (.ref 0)]) (rest := []) (h1 := (hX C3 P vl kp Mo R)) (fun _ => rfl) ?_
    refine v_post (kt_11 hfz N P vl kp Mo R d (by omega)  C3 _ _ hc) ?_
    rintro rv h' ⟨rfl, rfl⟩
    obtain ⟨rfl, rfl⟩ := m_rt hf
    exact v_ret 4 (fun _ => rfl) ⟨rfl, rfl⟩
  · have hf := a_be hb hf
    refine v_ie hb ?_
    obtain ⟨rfl, rfl⟩ := m_rt hf
    exact v_ret 2 (fun _ => rfl) ⟨rfl, rfl⟩
set_option maxRecDepth 100000 in
set_option maxHeartbeats 4000000 in
theorem kt_84_16 {fz : Value} {sc : Nat × (Nat → Int32)} (hfz : fz = .null ∨ fz = .retAddr 60) (N : Nat) (P : Nat → Option Nat) (vl kp : Option Nat) (Mo : Nat → aC) (R : List aC) (d : Nat) (hd : 7 ≤ d) (x1 : Int32) (x2 : Int32) (C : mS) (r : Int32) (C' : mS) (hf : k_84_16 N P vl R x1 x2 C = some (r, C')) : v_V fz sc d 84 16 [some (.ref 0), some (.int x1), some (.int x2)] [] (hX C P vl kp Mo R) (fun rv h' => rv = some (.int r) ∧ h' = hX C' P vl kp Mo R) := by
  unfold k_84_16 at hf
  obtain ⟨d, rfl⟩ : ∃ z, d = z + 1 := ⟨d - 1, by omega⟩
  obtain ⟨r2, C2, hc, hf⟩ := m_bd_ok hf
  refine v_call 3 (k' := 10) (i' := 19) (E := [some (.ref 13)]) (L' := [some (.ref 0), some (.int x1), some (.int x2)]) (rest := []) (h1 := (hX C P vl kp Mo R)) (fun _ => rfl) ?_
  refine v_post (kt_10 hfz N P vl kp Mo R d (by omega)  C _ _ hc) ?_
  rintro rv h' ⟨rfl, rfl⟩
  obtain ⟨r3, C3, hc, hf⟩ := m_bd_ok hf
  refine v_call 3 (k' := 12) (i' := 22) (E := [some (.ref 13), none]) (L' := [some (.ref 0), some (.int x1), some (.int x2)]) (rest := []) (h1 := (hX C2 P vl kp Mo R)) (fun _ => rfl) ?_
  refine v_post (kt_12 hfz N P vl kp Mo R d (by omega)  C2 _ _ hc) ?_
  rintro rv h' ⟨rfl, rfl⟩
  refine v_blk 2 (i' := (bif (a_ic .eq x2 (0 : Int32)) then 31 else 24)) (L' := [some (.ref 0), some (.int x1), some (.int x2)]) (st' := []) (h' := (hX C3 P vl kp Mo R)) (fun _ => rfl) ?_
  rcases Bool.eq_false_or_eq_true (a_ic .eq x2 (0 : Int32)) with hb | hb
  · have hf := a_bt hb hf
    refine v_it hb ?_
    refine v_blk 2 (i' := (bif (a_ic .ne x1 (0 : Int32)) then 37 else 33)) (L' := [some (.ref 0), some (.int x1), some (.int x2)]) (st' := []) (h' := (hX C3 P vl kp Mo R)) (fun _ => rfl) ?_
    rcases Bool.eq_false_or_eq_true (a_ic .ne x1 (0 : Int32)) with hb | hb
    · have hf := a_bt hb hf
      refine v_it hb ?_
      obtain ⟨r4, C4, hc, hf⟩ := m_bd_ok hf
      refine v_call 6 (k' := 23) (i' := 43) (E := [some (.ref 13), some (.int (C3 92 9))]) (L' := [some (.ref 0), some (.int x1), some (.int x2)]) (rest := []) (h1 := (hX C3 P vl kp Mo R)) (fun _ => rfl) ?_
      refine v_post (kt_23 hfz N P vl kp Mo R d (by omega) (C3 92 9) C3 _ _ hc) ?_
      rintro rv h' ⟨rfl, rfl⟩
      obtain ⟨rfl, rfl⟩ := m_rt hf
      exact v_ret 1 (fun _ => rfl) ⟨rfl, rfl⟩
    · have hf := a_be hb hf
      refine v_ie hb ?_
      obtain ⟨rfl, rfl⟩ := m_rt hf
      exact v_ret 5 (fun _ => rfl) ⟨rfl, rfl⟩
  · have hf := a_be hb hf
    refine v_ie hb ?_
    obtain ⟨r5, C5, hc, hf⟩ := m_bd_ok hf
    refine v_call 6 (k' := 16) (i' := 30) (E := [some (.ref 13), some (.int (x1 - (10 : Int32))), none]) (L' := [some (.ref 0), some (.int x1), some (.int x2)]) (rest := []) (h1 := (hX C3 P vl kp Mo R)) (fun _ => rfl) ?_
    refine v_post (kt_16 hfz N P vl kp Mo R d (by omega) (x1 - (10 : Int32)) C3 _ _ hc) ?_
    rintro rv h' ⟨rfl, rfl⟩
    obtain ⟨rfl, rfl⟩ := m_rt hf
    exact v_ret 1 (fun _ => rfl) ⟨rfl, rfl⟩
