/-! 42.kthm, piece 2: runs of the class's methods are their mirrored functions (by program) -/
set_option maxRecDepth 100000 in
set_option maxHeartbeats 4000000 in
theorem kt_12_2b {fz : Value} {sc : Nat × (Nat → Int32)} (hfz : fz = .null ∨ fz = .retAddr 60) (N : Nat) (P : Nat → Option Nat) (vl kp : Option Nat) (Mo : Nat → aC) (R : List aC) (d : Nat) (hd : 6 ≤ d) (rc2 : Int32 → mS → Option (Int32 × mS)) (hrc2 : ∀ (x1 : Int32) (C : mS) (r : Int32) (C' : mS), rc2 x1 C = some (r, C') → v_V fz sc d 12 2 [some (.ref 13), some (.int x1)] [] (hX C P vl kp Mo R) (fun rv h' => rv = none ∧ h' = hX C' P vl kp Mo R)) (x1 : Int32) (C : mS) (r : Int32) (C' : mS) (hf : k_12_2b N P vl R rc2 x1 C = some (r, C')) : v_V fz sc d 12 2 [some (.ref 13), some (.int x1)] [] (hX C P vl kp Mo R) (fun rv h' => rv = none ∧ h' = hX C' P vl kp Mo R) := by
  unfold k_12_2b at hf
  obtain ⟨d, rfl⟩ : ∃ z, d = z + 1 := ⟨d - 1, by omega⟩
  refine v_blk 5 (i' := (bif (a_ic .ge x1 (C 90 12)) then 12 else 7)) (L' := [some (.ref 13), some (.int x1)]) (st' := []) (h' := (hX C P vl kp Mo R)) (fun _ => rfl) ?_
  rcases Bool.eq_false_or_eq_true (a_ic .ge x1 (C 90 12)) with hb | hb
  · have hf := a_bt hb hf
    refine v_it hb ?_
    obtain ⟨r1, C1, hc, hf⟩ := m_bd_ok hf
    refine v_call 2 (k' := 15) (i' := 14) (E := [some (.ref 13), none, none, none]) (L' := [some (.ref 13), some (.int x1)]) (rest := []) (h1 := (hX C P vl kp Mo R)) (fun _ => rfl) ?_
    refine v_post (kt_15 hfz N P vl kp Mo R d (by omega)  C _ _ hc) ?_
    rintro rv h' ⟨rfl, rfl⟩
    obtain ⟨rfl, rfl⟩ := m_rt hf
    exact v_ret 1 (fun _ => rfl) ⟨rfl, rfl⟩
  · have hf := a_be hb hf
    refine v_ie hb ?_
    obtain ⟨r2, C2, hc, hf⟩ := m_bd_ok hf
    refine v_call 3 (k' := 13) (i' := 10) (E := [some (.ref 13), some (.int x1), none, none]) (L' := [some (.ref 13), some (.int x1)]) (rest := []) (h1 := (hX C P vl kp Mo R)) (fun _ => rfl) ?_
    refine v_post (kt_13 hfz N P vl kp Mo R d (by omega) x1 C _ _ hc) ?_
    rintro rv h' ⟨rfl, rfl⟩
    refine v_blk 2 (i' := 2) (L' := [some (.ref 13), some (.int (x1 + (1 : Int32)))]) (st' := []) (h' := (hX C2 P vl kp Mo R)) (fun _ => rfl) ?_
    exact hrc2 (x1 + (1 : Int32)) C2 _ _ hf
theorem kt_12_2 {fz : Value} {sc : Nat × (Nat → Int32)} (hfz : fz = .null ∨ fz = .retAddr 60) (N : Nat) (P : Nat → Option Nat) (vl kp : Option Nat) (Mo : Nat → aC) (R : List aC) (d : Nat) (hd : 6 ≤ d) : ∀ (n : Nat) (x1 : Int32) (C : mS) (r : Int32) (C' : mS) (hf : k_12_2 N P vl R n x1 C = some (r, C')), v_V fz sc d 12 2 [some (.ref 13), some (.int x1)] [] (hX C P vl kp Mo R) (fun rv h' => rv = none ∧ h' = hX C' P vl kp Mo R) := by
  intro n
  induction n with
  | zero => intro x1 C r C' hf; cases hf
  | succ n ih =>
    intro x1 C r C' hf
    exact kt_12_2b hfz N P vl kp Mo R d hd (k_12_2 N P vl R n) ih x1 C r C' hf
set_option maxRecDepth 100000 in
set_option maxHeartbeats 4000000 in
theorem kt_12 {fz : Value} {sc : Nat × (Nat → Int32)} (hfz : fz = .null ∨ fz = .retAddr 60) (N : Nat) (P : Nat → Option Nat) (vl kp : Option Nat) (Mo : Nat → aC) (R : List aC) (d : Nat) (hd : 6 ≤ d) (C : mS) (r : Int32) (C' : mS) (hf : k_12 N P vl R  C = some (r, C')) : v_V fz sc d 12 0 [some (.ref 13), none] [] (hX C P vl kp Mo R) (fun rv h' => rv = none ∧ h' = hX C' P vl kp Mo R) := by
  unfold k_12 at hf
  obtain ⟨d, rfl⟩ : ∃ z, d = z + 1 := ⟨d - 1, by omega⟩
  refine v_blk 2 (i' := 2) (L' := [some (.ref 13), some (.int (0 : Int32))]) (st' := []) (h' := (hX C P vl kp Mo R)) (fun _ => rfl) ?_
  exact kt_12_2 hfz N P vl kp Mo R (d + 1) hd N (0 : Int32) C _ _ hf
set_option maxRecDepth 100000 in
set_option maxHeartbeats 4000000 in
theorem kt_22 {fz : Value} {sc : Nat × (Nat → Int32)} (hfz : fz = .null ∨ fz = .retAddr 60) (N : Nat) (P : Nat → Option Nat) (vl kp : Option Nat) (Mo : Nat → aC) (R : List aC) (d : Nat) (hd : 0 ≤ d) (x1 : Int32) (x2 : Int32) (C : mS) (r : Int32) (C' : mS) (hf : k_22 N P vl R x1 x2 C = some (r, C')) : v_V fz sc d 22 0 [some (.ref 13), some (.int x1), some (.int x2)] [] (hX C P vl kp Mo R) (fun rv h' => rv = some (.int r) ∧ h' = hX C' P vl kp Mo R) := by
  unfold k_22 at hf
  obtain ⟨hg, hf⟩ := a_bif hf
  refine v_grd 8 (i' := 8) (L' := [some (.ref 13), some (.int x1), some (.int x2)]) (st' := [(.int ((C 10) (((x1 * (4 : Int32)) + x2)).toNatClampNeg))]) (h' := (hX C P vl kp Mo R)) (fun _ => rfl) hg ?_
  obtain ⟨y1, hy, hf⟩ := m_li_ok hf
  rw [hy]
  obtain ⟨rfl, rfl⟩ := m_rt hf
  exact v_ret 1 (fun _ => rfl) ⟨rfl, rfl⟩
set_option maxRecDepth 100000 in
set_option maxHeartbeats 4000000 in
theorem kt_17_4b {fz : Value} {sc : Nat × (Nat → Int32)} (hfz : fz = .null ∨ fz = .retAddr 60) (N : Nat) (P : Nat → Option Nat) (vl kp : Option Nat) (Mo : Nat → aC) (R : List aC) (d : Nat) (hd : 1 ≤ d) (rc4 : Int32 → Int32 → Int32 → mS → Option (Int32 × mS)) (hrc4 : ∀ (x1 : Int32) (x2 : Int32) (x3 : Int32) (C : mS) (r : Int32) (C' : mS), rc4 x1 x2 x3 C = some (r, C') → v_V fz sc d 17 4 [some (.ref 13), some (.int x1), some (.int x2), some (.int x3)] [] (hX C P vl kp Mo R) (fun rv h' => rv = some (.int r) ∧ h' = hX C' P vl kp Mo R)) (x1 : Int32) (x2 : Int32) (x3 : Int32) (C : mS) (r : Int32) (C' : mS) (hf : k_17_4b N P vl R rc4 x1 x2 x3 C = some (r, C')) : v_V fz sc d 17 4 [some (.ref 13), some (.int x1), some (.int x2), some (.int x3)] [] (hX C P vl kp Mo R) (fun rv h' => rv = some (.int r) ∧ h' = hX C' P vl kp Mo R) := by
  unfold k_17_4b at hf
  obtain ⟨d, rfl⟩ : ∃ z, d = z + 1 := ⟨d - 1, by omega⟩
  refine v_blk 3 (i' := (bif (a_ic .ge x3 (4 : Int32)) then 21 else 7)) (L' := [some (.ref 13), some (.int x1), some (.int x2), some (.int x3)]) (st' := []) (h' := (hX C P vl kp Mo R)) (fun _ => rfl) ?_
  rcases Bool.eq_false_or_eq_true (a_ic .ge x3 (4 : Int32)) with hb | hb
  · have hf := a_bt hb hf
    refine v_it hb ?_
    obtain ⟨hg, hf⟩ := a_bif hf
    refine v_grd 6 (i' := 27) (L' := [some (.ref 13), some (.int x1), some (.int x2), some (.int x3)]) (st' := [(.int ((C 11) ((C 92 9)).toNatClampNeg)), (.int x2)]) (h' := (hX C P vl kp Mo R)) (fun _ => rfl) hg ?_
    obtain ⟨y1, hy, hf⟩ := m_li_ok hf
    rw [hy]
    obtain ⟨r2, C2, hc, hf⟩ := m_bd_ok hf
    refine v_call 5 (k' := 22) (i' := 32) (E := [some (.ref 13), some (.int x1), some (.int (C 92 9))]) (L' := [some (.ref 13), some (.int x1), some (.int x2), some (.int x3)]) (rest := [(.int y1), (.int x2)]) (h1 := (hX C P vl kp Mo R)) (fun _ => rfl) ?_
    refine v_post (kt_22 hfz N P vl kp Mo R d (by omega) x1 (C 92 9) C _ _ hc) ?_
    rintro rv h' ⟨rfl, rfl⟩
    obtain ⟨rfl, rfl⟩ := m_rt hf
    exact v_ret 3 (fun _ => rfl) ⟨rfl, rfl⟩
  · have hf := a_be hb hf
    refine v_ie hb ?_
    obtain ⟨hg, hf⟩ := a_bif hf
    refine v_grd 5 (i' := 12) (L' := [some (.ref 13), some (.int x1), some (.int x2), some (.int x3)]) (st' := [(.int ((C 11) (x3).toNatClampNeg)), (.int x2)]) (h' := (hX C P vl kp Mo R)) (fun _ => rfl) hg ?_
    obtain ⟨y3, hy, hf⟩ := m_li_ok hf
    rw [hy]
    obtain ⟨r4, C4, hc, hf⟩ := m_bd_ok hf
    refine v_call 4 (k' := 22) (i' := 16) (E := [some (.ref 13), some (.int x1), some (.int x3)]) (L' := [some (.ref 13), some (.int x1), some (.int x2), some (.int x3)]) (rest := [(.int y3), (.int x2)]) (h1 := (hX C P vl kp Mo R)) (fun _ => rfl) ?_
    refine v_post (kt_22 hfz N P vl kp Mo R d (by omega) x1 x3 C _ _ hc) ?_
    rintro rv h' ⟨rfl, rfl⟩
    refine v_blk 2 (i' := 18) (L' := [some (.ref 13), some (.int x1), some (.int x2), some (.int x3)]) (st' := [(.int (if x2 < (y3 - r4) then (y3 - r4) else x2))]) (h' := (hX C4 P vl kp Mo R)) (fun _ => rfl) ?_
    obtain ⟨y5, hy, hf⟩ := m_li_ok hf
    rw [hy]
    refine v_blk 3 (i' := 4) (L' := [some (.ref 13), some (.int x1), some (.int y5), some (.int (x3 + (1 : Int32)))]) (st' := []) (h' := (hX C4 P vl kp Mo R)) (fun _ => rfl) ?_
    exact hrc4 x1 y5 (x3 + (1 : Int32)) C4 _ _ hf
theorem kt_17_4 {fz : Value} {sc : Nat × (Nat → Int32)} (hfz : fz = .null ∨ fz = .retAddr 60) (N : Nat) (P : Nat → Option Nat) (vl kp : Option Nat) (Mo : Nat → aC) (R : List aC) (d : Nat) (hd : 1 ≤ d) : ∀ (n : Nat) (x1 : Int32) (x2 : Int32) (x3 : Int32) (C : mS) (r : Int32) (C' : mS) (hf : k_17_4 N P vl R n x1 x2 x3 C = some (r, C')), v_V fz sc d 17 4 [some (.ref 13), some (.int x1), some (.int x2), some (.int x3)] [] (hX C P vl kp Mo R) (fun rv h' => rv = some (.int r) ∧ h' = hX C' P vl kp Mo R) := by
  intro n
  induction n with
  | zero => intro x1 x2 x3 C r C' hf; cases hf
  | succ n ih =>
    intro x1 x2 x3 C r C' hf
    exact kt_17_4b hfz N P vl kp Mo R d hd (k_17_4 N P vl R n) ih x1 x2 x3 C r C' hf
set_option maxRecDepth 100000 in
set_option maxHeartbeats 4000000 in
theorem kt_17 {fz : Value} {sc : Nat × (Nat → Int32)} (hfz : fz = .null ∨ fz = .retAddr 60) (N : Nat) (P : Nat → Option Nat) (vl kp : Option Nat) (Mo : Nat → aC) (R : List aC) (d : Nat) (hd : 1 ≤ d) (x1 : Int32) (C : mS) (r : Int32) (C' : mS) (hf : k_17 N P vl R x1 C = some (r, C')) : v_V fz sc d 17 0 [some (.ref 13), some (.int x1), none, none] [] (hX C P vl kp Mo R) (fun rv h' => rv = some (.int r) ∧ h' = hX C' P vl kp Mo R) := by
  unfold k_17 at hf
  obtain ⟨d, rfl⟩ : ∃ z, d = z + 1 := ⟨d - 1, by omega⟩
  refine v_blk 4 (i' := 4) (L' := [some (.ref 13), some (.int x1), some (.int (0 : Int32)), some (.int (0 : Int32))]) (st' := []) (h' := (hX C P vl kp Mo R)) (fun _ => rfl) ?_
  exact kt_17_4 hfz N P vl kp Mo R (d + 1) hd N x1 (0 : Int32) (0 : Int32) C _ _ hf
set_option maxRecDepth 100000 in
set_option maxHeartbeats 4000000 in
theorem kt_18_22b {fz : Value} {sc : Nat × (Nat → Int32)} (hfz : fz = .null ∨ fz = .retAddr 60) (N : Nat) (P : Nat → Option Nat) (vl kp : Option Nat) (Mo : Nat → aC) (R : List aC) (d : Nat) (hd : 1 ≤ d) (rc22 : Int32 → Int32 → Int32 → mS → Option (Int32 × mS)) (hrc22 : ∀ (x1 : Int32) (x2 : Int32) (x3 : Int32) (C : mS) (r : Int32) (C' : mS), rc22 x1 x2 x3 C = some (r, C') → v_V fz sc d 18 22 [some (.ref 13), some (.int x1), some (.int x2), some (.int x3)] [] (hX C P vl kp Mo R) (fun rv h' => rv = some (.int r) ∧ h' = hX C' P vl kp Mo R)) (x1 : Int32) (x2 : Int32) (x3 : Int32) (C : mS) (r : Int32) (C' : mS) (hf : k_18_22b N P vl R rc22 x1 x2 x3 C = some (r, C')) : v_V fz sc d 18 22 [some (.ref 13), some (.int x1), some (.int x2), some (.int x3)] [] (hX C P vl kp Mo R) (fun rv h' => rv = some (.int r) ∧ h' = hX C' P vl kp Mo R) := by
  unfold k_18_22b at hf
  obtain ⟨d, rfl⟩ : ∃ z, d = z + 1 := ⟨d - 1, by omega⟩
  refine v_blk 3 (i' := (bif (a_ic .ge x3 (4 : Int32)) then 38 else 25)) (L' := [some (.ref 13), some (.int x1), some (.int x2), some (.int x3)]) (st' := []) (h' := (hX C P vl kp Mo R)) (fun _ => rfl) ?_
  rcases Bool.eq_false_or_eq_true (a_ic .ge x3 (4 : Int32)) with hb | hb
  · have hf := a_bt hb hf
    refine v_it hb ?_
    refine v_blk 2 (i' := (bif (a_ic .ne x1 (0 : Int32)) then 42 else 40)) (L' := [some (.ref 13), some (.int x1), some (.int x2), some (.int x3)]) (st' := []) (h' := (hX C P vl kp Mo R)) (fun _ => rfl) ?_
    rcases Bool.eq_false_or_eq_true (a_ic .ne x1 (0 : Int32)) with hb | hb
    · have hf := a_bt hb hf
      refine v_it hb ?_
      obtain ⟨hg, hf⟩ := a_bif hf
      refine v_grd 5 (i' := 47) (L' := [some (.ref 13), some (.int x1), some (.int x2), some (.int x3)]) (st' := [(.int ((C 11) ((C 92 9)).toNatClampNeg))]) (h' := (hX C P vl kp Mo R)) (fun _ => rfl) hg ?_
      obtain ⟨y2, hy, hf⟩ := m_li_ok hf
      rw [hy]
      obtain ⟨hg, hf⟩ := a_bif hf
      refine v_grd 4 (i' := 51) (L' := [some (.ref 13), some (.int x1), some (.int x2), some (.int x3)]) (st' := [(.int ((y2 - x2) / x1))]) (h' := (hX C P vl kp Mo R)) (fun _ => rfl) hg ?_
      obtain ⟨y3, hy, hf⟩ := m_li_ok hf
      rw [hy]
      obtain ⟨rfl, rfl⟩ := m_rt hf
      exact v_ret 1 (fun _ => rfl) ⟨rfl, rfl⟩
    · have hf := a_be hb hf
      refine v_ie hb ?_
      obtain ⟨rfl, rfl⟩ := m_rt hf
      exact v_ret 3 (fun _ => rfl) ⟨rfl, rfl⟩
  · have hf := a_be hb hf
    refine v_ie hb ?_
    refine v_blk 4 (i' := (bif (a_ic .eq x3 (C 92 9)) then 36 else 29)) (L' := [some (.ref 13), some (.int x1), some (.int x2), some (.int x3)]) (st' := []) (h' := (hX C P vl kp Mo R)) (fun _ => rfl) ?_
    rcases Bool.eq_false_or_eq_true (a_ic .eq x3 (C 92 9)) with hb | hb
    · have hf := a_bt hb hf
      refine v_it hb ?_
      refine v_blk 2 (i' := 22) (L' := [some (.ref 13), some (.int x1), some (.int x2), some (.int (x3 + (1 : Int32)))]) (st' := []) (h' := (hX C P vl kp Mo R)) (fun _ => rfl) ?_
      exact hrc22 x1 x2 (x3 + (1 : Int32)) C _ _ hf
    · have hf := a_be hb hf
      refine v_ie hb ?_
      obtain ⟨hg, hf⟩ := a_bif hf
      refine v_grd 5 (i' := 34) (L' := [some (.ref 13), some (.int x1), some (.int x2), some (.int x3)]) (st' := [(.int ((C 11) (x3).toNatClampNeg)), (.int x2)]) (h' := (hX C P vl kp Mo R)) (fun _ => rfl) hg ?_
      obtain ⟨y4, hy, hf⟩ := m_li_ok hf
      rw [hy]
      refine v_blk 1 (i' := 35) (L' := [some (.ref 13), some (.int x1), some (.int x2), some (.int x3)]) (st' := [(.int (if x2 < y4 then y4 else x2))]) (h' := (hX C P vl kp Mo R)) (fun _ => rfl) ?_
      obtain ⟨y5, hy, hf⟩ := m_li_ok hf
      rw [hy]
      refine v_blk 3 (i' := 22) (L' := [some (.ref 13), some (.int x1), some (.int y5), some (.int (x3 + (1 : Int32)))]) (st' := []) (h' := (hX C P vl kp Mo R)) (fun _ => rfl) ?_
      exact hrc22 x1 y5 (x3 + (1 : Int32)) C _ _ hf
theorem kt_18_22 {fz : Value} {sc : Nat × (Nat → Int32)} (hfz : fz = .null ∨ fz = .retAddr 60) (N : Nat) (P : Nat → Option Nat) (vl kp : Option Nat) (Mo : Nat → aC) (R : List aC) (d : Nat) (hd : 1 ≤ d) : ∀ (n : Nat) (x1 : Int32) (x2 : Int32) (x3 : Int32) (C : mS) (r : Int32) (C' : mS) (hf : k_18_22 N P vl R n x1 x2 x3 C = some (r, C')), v_V fz sc d 18 22 [some (.ref 13), some (.int x1), some (.int x2), some (.int x3)] [] (hX C P vl kp Mo R) (fun rv h' => rv = some (.int r) ∧ h' = hX C' P vl kp Mo R) := by
  intro n
  induction n with
  | zero => intro x1 x2 x3 C r C' hf; cases hf
  | succ n ih =>
    intro x1 x2 x3 C r C' hf
    exact kt_18_22b hfz N P vl kp Mo R d hd (k_18_22 N P vl R n) ih x1 x2 x3 C r C' hf
set_option maxRecDepth 100000 in
set_option maxHeartbeats 4000000 in
theorem kt_18_4b {fz : Value} {sc : Nat × (Nat → Int32)} (hfz : fz = .null ∨ fz = .retAddr 60) (N : Nat) (P : Nat → Option Nat) (vl kp : Option Nat) (Mo : Nat → aC) (R : List aC) (d : Nat) (hd : 1 ≤ d) (rc4 : Int32 → Int32 → mS → Option (Int32 × mS)) (hrc4 : ∀ (x1 : Int32) (x2 : Int32) (C : mS) (r : Int32) (C' : mS), rc4 x1 x2 C = some (r, C') → v_V fz sc d 18 4 [some (.ref 13), some (.int x1), some (.int x2), none] [] (hX C P vl kp Mo R) (fun rv h' => rv = some (.int r) ∧ h' = hX C' P vl kp Mo R)) (x1 : Int32) (x2 : Int32) (C : mS) (r : Int32) (C' : mS) (hf : k_18_4b N P vl R rc4 x1 x2 C = some (r, C')) : v_V fz sc d 18 4 [some (.ref 13), some (.int x1), some (.int x2), none] [] (hX C P vl kp Mo R) (fun rv h' => rv = some (.int r) ∧ h' = hX C' P vl kp Mo R) := by
  unfold k_18_4b at hf
  obtain ⟨d, rfl⟩ : ∃ z, d = z + 1 := ⟨d - 1, by omega⟩
  refine v_blk 5 (i' := (bif (a_ic .ge x2 (C 90 12)) then 18 else 9)) (L' := [some (.ref 13), some (.int x1), some (.int x2), none]) (st' := []) (h' := (hX C P vl kp Mo R)) (fun _ => rfl) ?_
  rcases Bool.eq_false_or_eq_true (a_ic .ge x2 (C 90 12)) with hb | hb
  · have hf := a_bt hb hf
    refine v_it hb ?_
    refine v_blk 4 (i' := 22) (L' := [some (.ref 13), some (.int x1), some (.int (0 : Int32)), some (.int (0 : Int32))]) (st' := []) (h' := (hX C P vl kp Mo R)) (fun _ => rfl) ?_
    exact kt_18_22 hfz N P vl kp Mo R (d + 1) hd N x1 (0 : Int32) (0 : Int32) C _ _ hf
  · have hf := a_be hb hf
    refine v_ie hb ?_
    obtain ⟨r1, C1, hc, hf⟩ := m_bd_ok hf
    refine v_call 5 (k' := 22) (i' := 14) (E := [some (.ref 13), some (.int x2), some (.int (C 92 9))]) (L' := [some (.ref 13), some (.int x1), some (.int x2), none]) (rest := []) (h1 := (hX C P vl kp Mo R)) (fun _ => rfl) ?_
    refine v_post (kt_22 hfz N P vl kp Mo R d (by omega) x2 (C 92 9) C _ _ hc) ?_
    rintro rv h' ⟨rfl, rfl⟩
    refine v_blk 1 (i' := (bif (a_ic .le r1 (0 : Int32)) then 16 else 15)) (L' := [some (.ref 13), some (.int x1), some (.int x2), none]) (st' := []) (h' := (hX C1 P vl kp Mo R)) (fun _ => rfl) ?_
    rcases Bool.eq_false_or_eq_true (a_ic .le r1 (0 : Int32)) with hb | hb
    · have hf := a_bt hb hf
      refine v_it hb ?_
      refine v_blk 2 (i' := 4) (L' := [some (.ref 13), some (.int x1), some (.int (x2 + (1 : Int32))), none]) (st' := []) (h' := (hX C1 P vl kp Mo R)) (fun _ => rfl) ?_
      exact hrc4 x1 (x2 + (1 : Int32)) C1 _ _ hf
    · have hf := a_be hb hf
      refine v_ie hb ?_
      refine v_blk 3 (i' := 4) (L' := [some (.ref 13), some (.int (x1 + (1 : Int32))), some (.int (x2 + (1 : Int32))), none]) (st' := []) (h' := (hX C1 P vl kp Mo R)) (fun _ => rfl) ?_
      exact hrc4 (x1 + (1 : Int32)) (x2 + (1 : Int32)) C1 _ _ hf
theorem kt_18_4 {fz : Value} {sc : Nat × (Nat → Int32)} (hfz : fz = .null ∨ fz = .retAddr 60) (N : Nat) (P : Nat → Option Nat) (vl kp : Option Nat) (Mo : Nat → aC) (R : List aC) (d : Nat) (hd : 1 ≤ d) : ∀ (n : Nat) (x1 : Int32) (x2 : Int32) (C : mS) (r : Int32) (C' : mS) (hf : k_18_4 N P vl R n x1 x2 C = some (r, C')), v_V fz sc d 18 4 [some (.ref 13), some (.int x1), some (.int x2), none] [] (hX C P vl kp Mo R) (fun rv h' => rv = some (.int r) ∧ h' = hX C' P vl kp Mo R) := by
  intro n
  induction n with
  | zero => intro x1 x2 C r C' hf; cases hf
  | succ n ih =>
    intro x1 x2 C r C' hf
    exact kt_18_4b hfz N P vl kp Mo R d hd (k_18_4 N P vl R n) ih x1 x2 C r C' hf
set_option maxRecDepth 100000 in
set_option maxHeartbeats 4000000 in
theorem kt_18 {fz : Value} {sc : Nat × (Nat → Int32)} (hfz : fz = .null ∨ fz = .retAddr 60) (N : Nat) (P : Nat → Option Nat) (vl kp : Option Nat) (Mo : Nat → aC) (R : List aC) (d : Nat) (hd : 1 ≤ d) (C : mS) (r : Int32) (C' : mS) (hf : k_18 N P vl R  C = some (r, C')) : v_V fz sc d 18 0 [some (.ref 13), none, none, none] [] (hX C P vl kp Mo R) (fun rv h' => rv = some (.int r) ∧ h' = hX C' P vl kp Mo R) := by
  unfold k_18 at hf
  obtain ⟨d, rfl⟩ : ∃ z, d = z + 1 := ⟨d - 1, by omega⟩
  refine v_blk 4 (i' := 4) (L' := [some (.ref 13), some (.int (0 : Int32)), some (.int (0 : Int32)), none]) (st' := []) (h' := (hX C P vl kp Mo R)) (fun _ => rfl) ?_
  exact kt_18_4 hfz N P vl kp Mo R (d + 1) hd N (0 : Int32) (0 : Int32) C _ _ hf
set_option maxRecDepth 100000 in
set_option maxHeartbeats 4000000 in
theorem kt_71 {fz : Value} {sc : Nat × (Nat → Int32)} (hfz : fz = .null ∨ fz = .retAddr 60) (N : Nat) (P : Nat → Option Nat) (vl kp : Option Nat) (Mo : Nat → aC) (R : List aC) (d : Nat) (hd : 0 ≤ d) (C : mS) (r : Int32) (C' : mS) (hf : k_71 N P vl R  C = some (r, C')) : v_V fz sc d 71 0 [some (.ref 1)] [] (hX C P vl kp Mo R) (fun rv h' => rv = some (.int r) ∧ h' = hX C' P vl kp Mo R) := by
  unfold k_71 at hf
  refine v_blk 2 (i' := 2) (L' := [some (.ref 1)]) (st' := [(va_rf vl)]) (h' := (hX C P vl kp Mo R)) (fun _ => rfl) ?_
  rcases m_op_ok hf with ⟨ho1, hf⟩ | ⟨a1, ho1, hf⟩
  · refine v_on ho1 ?_
    obtain ⟨rfl, rfl⟩ := m_rt hf
    exact v_ret 4 (fun _ => rfl) ⟨rfl, rfl⟩
  · refine v_os ho1 ?_
    refine v_blk 3 (i' := 7) (L' := [some (.ref 1)]) (st' := [(va_rf vl)]) (h' := (hX C P vl kp Mo R)) (fun _ => rfl) ?_
    refine v_os ho1 ?_
    obtain ⟨cr2, er2, ar2, ru2, gi2, ho_a1, hf⟩ := m_vo_ok hf
    refine v_gf rfl rfl rfl (vly_ok ho_a1) rfl rfl ?_
    obtain ⟨rfl, rfl⟩ := m_rt hf
    exact v_ret 1 (fun _ => rfl) ⟨rfl, rfl⟩
set_option maxRecDepth 100000 in
set_option maxHeartbeats 4000000 in
theorem kt_16 {fz : Value} {sc : Nat × (Nat → Int32)} (hfz : fz = .null ∨ fz = .retAddr 60) (N : Nat) (P : Nat → Option Nat) (vl kp : Option Nat) (Mo : Nat → aC) (R : List aC) (d : Nat) (hd : 2 ≤ d) (x1 : Int32) (C : mS) (r : Int32) (C' : mS) (hf : k_16 N P vl R x1 C = some (r, C')) : v_V fz sc d 16 0 [some (.ref 13), some (.int x1), none] [] (hX C P vl kp Mo R) (fun rv h' => rv = some (.int r) ∧ h' = hX C' P vl kp Mo R) := by
  unfold k_16 at hf
  obtain ⟨d, rfl⟩ : ∃ z, d = z + 1 := ⟨d - 1, by omega⟩
  refine v_blk 3 (i' := (bif (a_ic .ne (C 92 5) (0 : Int32)) then 5 else 3)) (L' := [some (.ref 13), some (.int x1), none]) (st' := []) (h' := (hX C P vl kp Mo R)) (fun _ => rfl) ?_
  rcases Bool.eq_false_or_eq_true (a_ic .ne (C 92 5) (0 : Int32)) with hb | hb
  · have hf := a_bt hb hf
    refine v_it hb ?_
    obtain ⟨r1, C1, hc, hf⟩ := m_bd_ok hf
    refine v_call 5 (k' := 22) (i' := 10) (E := [some (.ref 13), some (.int x1), some (.int (C 92 9))]) (L' := [some (.ref 13), some (.int x1), none]) (rest := []) (h1 := (hX C P vl kp Mo R)) (fun _ => rfl) ?_
    refine v_post (kt_22 hfz N P vl kp Mo R d (by omega) x1 (C 92 9) C _ _ hc) ?_
    rintro rv h' ⟨rfl, rfl⟩
    obtain ⟨r2, C2, hc, hf⟩ := m_bd_ok hf
    refine v_call 4 (k' := 71) (i' := 14) (E := [some (.ref 1)]) (L' := [some (.ref 13), some (.int x1), some (.int r1)]) (rest := []) (h1 := (hX C1 P vl kp Mo R)) (fun _ => rfl) ?_
    refine v_post (kt_71 hfz N P vl kp Mo R d (by omega)  C1 _ _ hc) ?_
    rintro rv h' ⟨rfl, rfl⟩
    refine v_blk 1 (i' := (a_lsw 26 [(1, 26), (2, 32)] [15, 19] r2)) (L' := [some (.ref 13), some (.int x1), some (.int r1)]) (st' := []) (h' := (hX C2 P vl kp Mo R)) (fun _ => rfl) ?_
    by_cases hb : (a_lsw 26 [(1, 26), (2, 32)] [15, 19] r2) = 15
    · rw [if_pos hb] at hf
      rw [hb]
      obtain ⟨r3, C3, hc, hf⟩ := m_bd_ok hf
      refine v_call 3 (k' := 17) (i' := 18) (E := [some (.ref 13), some (.int x1), none, none]) (L' := [some (.ref 13), some (.int x1), some (.int r1)]) (rest := []) (h1 := (hX C2 P vl kp Mo R)) (fun _ => rfl) ?_
      refine v_post (kt_17 hfz N P vl kp Mo R d (by omega) x1 C2 _ _ hc) ?_
      rintro rv h' ⟨rfl, rfl⟩
      obtain ⟨rfl, rfl⟩ := m_rt hf
      exact v_ret 1 (fun _ => rfl) ⟨rfl, rfl⟩
    rw [if_neg hb] at hf
    by_cases hb : (a_lsw 26 [(1, 26), (2, 32)] [15, 19] r2) = 19
    · rw [if_pos hb] at hf
      rw [hb]
      obtain ⟨r4, C4, hc, hf⟩ := m_bd_ok hf
      refine v_call 4 (k' := 18) (i' := 23) (E := [some (.ref 13), none, none, none]) (L' := [some (.ref 13), some (.int x1), some (.int r1)]) (rest := [(.int r1), (.int (0 : Int32))]) (h1 := (hX C2 P vl kp Mo R)) (fun _ => rfl) ?_
      refine v_post (kt_18 hfz N P vl kp Mo R d (by omega)  C2 _ _ hc) ?_
      rintro rv h' ⟨rfl, rfl⟩
      refine v_blk 2 (i' := 25) (L' := [some (.ref 13), some (.int x1), some (.int r1)]) (st' := [(.int (if (0 : Int32) < (r1 - r4) then (r1 - r4) else (0 : Int32)))]) (h' := (hX C4 P vl kp Mo R)) (fun _ => rfl) ?_
      obtain ⟨y5, hy, hf⟩ := m_li_ok hf
      rw [hy]
      obtain ⟨rfl, rfl⟩ := m_rt hf
      exact v_ret 1 (fun _ => rfl) ⟨rfl, rfl⟩
    rw [if_neg hb] at hf
    by_cases hb : (a_lsw 26 [(1, 26), (2, 32)] [15, 19] r2) = 26
    · rw [if_pos hb] at hf
      rw [hb]
      obtain ⟨rfl, rfl⟩ := m_rt hf
      exact v_ret 2 (fun _ => rfl) ⟨rfl, rfl⟩
    rw [if_neg hb] at hf
    cases hf
  · have hf := a_be hb hf
    refine v_ie hb ?_
    obtain ⟨rfl, rfl⟩ := m_rt hf
    exact v_ret 2 (fun _ => rfl) ⟨rfl, rfl⟩
set_option maxRecDepth 100000 in
set_option maxHeartbeats 4000000 in
theorem kt_72 {fz : Value} {sc : Nat × (Nat → Int32)} (hfz : fz = .null ∨ fz = .retAddr 60) (N : Nat) (P : Nat → Option Nat) (vl kp : Option Nat) (Mo : Nat → aC) (R : List aC) (d : Nat) (hd : 0 ≤ d) (C : mS) (r : Int32) (C' : mS) (hf : k_72 N P vl R  C = some (r, C')) : v_V fz sc d 72 0 [some (.ref 1)] [] (hX C P vl kp Mo R) (fun rv h' => rv = some (.int r) ∧ h' = hX C' P vl kp Mo R) := by
  unfold k_72 at hf
  refine v_blk 2 (i' := 2) (L' := [some (.ref 1)]) (st' := [(va_rf vl)]) (h' := (hX C P vl kp Mo R)) (fun _ => rfl) ?_
  rcases m_op_ok hf with ⟨ho1, hf⟩ | ⟨a1, ho1, hf⟩
  · refine v_on ho1 ?_
    obtain ⟨rfl, rfl⟩ := m_rt hf
    exact v_ret 4 (fun _ => rfl) ⟨rfl, rfl⟩
  · refine v_os ho1 ?_
    refine v_blk 3 (i' := 7) (L' := [some (.ref 1)]) (st' := [(va_rf vl)]) (h' := (hX C P vl kp Mo R)) (fun _ => rfl) ?_
    refine v_os ho1 ?_
    obtain ⟨cr2, er2, ar2, ru2, gi2, ho_a1, hf⟩ := m_vo_ok hf
    refine v_gf rfl rfl rfl (vly_ok ho_a1) rfl rfl ?_
    obtain ⟨rfl, rfl⟩ := m_rt hf
    exact v_ret 1 (fun _ => rfl) ⟨rfl, rfl⟩
set_option maxRecDepth 100000 in
set_option maxHeartbeats 4000000 in
theorem kt_74 {fz : Value} {sc : Nat × (Nat → Int32)} (hfz : fz = .null ∨ fz = .retAddr 60) (N : Nat) (P : Nat → Option Nat) (vl kp : Option Nat) (Mo : Nat → aC) (R : List aC) (d : Nat) (hd : 0 ≤ d) (x1 : Int32) (C : mS) (r : Int32) (C' : mS) (hf : k_74 N P vl R x1 C = some (r, C')) : v_V fz sc d 74 0 [some (.ref 1), some (.int x1)] [] (hX C P vl kp Mo R) (fun rv h' => rv = some (.int r) ∧ h' = hX C' P vl kp Mo R) := by
  unfold k_74 at hf
  refine v_blk 6 (i' := (bif (a_ic .ge (x1 + (1 : Int32)) (C 90 7)) then 10 else 6)) (L' := [some (.ref 1), some (.int x1)]) (st' := []) (h' := (hX C P vl kp Mo R)) (fun _ => rfl) ?_
  rcases Bool.eq_false_or_eq_true (a_ic .ge (x1 + (1 : Int32)) (C 90 7)) with hb | hb
  · have hf := a_bt hb hf
    refine v_it hb ?_
    obtain ⟨rfl, rfl⟩ := m_rt hf
    exact v_ret 2 (fun _ => rfl) ⟨rfl, rfl⟩
  · have hf := a_be hb hf
    refine v_ie hb ?_
    obtain ⟨rfl, rfl⟩ := m_rt hf
    exact v_ret 5 (fun _ => rfl) ⟨rfl, rfl⟩
set_option maxRecDepth 100000 in
set_option maxHeartbeats 4000000 in
theorem kt_19_49 {fz : Value} {sc : Nat × (Nat → Int32)} (hfz : fz = .null ∨ fz = .retAddr 60) (N : Nat) (P : Nat → Option Nat) (vl kp : Option Nat) (Mo : Nat → aC) (R : List aC) (d : Nat) (hd : 3 ≤ d) (x1 : Int32) (C : mS) (r : Int32) (C' : mS) (hf : k_19_49 N P vl R x1 C = some (r, C')) : v_V fz sc d 19 49 [some (.ref 13), some (.int x1), none, none, none] [] (hX C P vl kp Mo R) (fun rv h' => rv = some (.int r) ∧ h' = hX C' P vl kp Mo R) := by
  unfold k_19_49 at hf
  obtain ⟨d, rfl⟩ : ∃ z, d = z + 1 := ⟨d - 1, by omega⟩
  obtain ⟨rfl, rfl⟩ := m_rt hf
  exact v_ret 12 (fun _ => rfl) ⟨rfl, rfl⟩
set_option maxRecDepth 100000 in
set_option maxHeartbeats 4000000 in
theorem kt_19_8b {fz : Value} {sc : Nat × (Nat → Int32)} (hfz : fz = .null ∨ fz = .retAddr 60) (N : Nat) (P : Nat → Option Nat) (vl kp : Option Nat) (Mo : Nat → aC) (R : List aC) (d : Nat) (hd : 3 ≤ d) (rc8 : Int32 → Int32 → Int32 → mS → Option (Int32 × mS)) (hrc8 : ∀ (x1 : Int32) (x2 : Int32) (x3 : Int32) (C : mS) (r : Int32) (C' : mS), rc8 x1 x2 x3 C = some (r, C') → v_V fz sc d 19 8 [some (.ref 13), some (.int x1), some (.int x2), some (.int x3), none] [] (hX C P vl kp Mo R) (fun rv h' => rv = some (.int r) ∧ h' = hX C' P vl kp Mo R)) (x1 : Int32) (x2 : Int32) (x3 : Int32) (C : mS) (r : Int32) (C' : mS) (hf : k_19_8b N P vl R rc8 x1 x2 x3 C = some (r, C')) : v_V fz sc d 19 8 [some (.ref 13), some (.int x1), some (.int x2), some (.int x3), none] [] (hX C P vl kp Mo R) (fun rv h' => rv = some (.int r) ∧ h' = hX C' P vl kp Mo R) := by
  unfold k_19_8b at hf
  obtain ⟨d, rfl⟩ : ∃ z, d = z + 1 := ⟨d - 1, by omega⟩
  refine v_blk 5 (i' := (bif (a_ic .ge x3 (C 90 12)) then 39 else 13)) (L' := [some (.ref 13), some (.int x1), some (.int x2), some (.int x3), none]) (st' := []) (h' := (hX C P vl kp Mo R)) (fun _ => rfl) ?_
  rcases Bool.eq_false_or_eq_true (a_ic .ge x3 (C 90 12)) with hb | hb
  · have hf := a_bt hb hf
    refine v_it hb ?_
    refine v_blk 3 (i' := (bif (a_ic .ne (C 92 5) (0 : Int32)) then 49 else 42)) (L' := [some (.ref 13), some (.int x1), some (.int x2), some (.int x3), none]) (st' := []) (h' := (hX C P vl kp Mo R)) (fun _ => rfl) ?_
    rcases Bool.eq_false_or_eq_true (a_ic .ne (C 92 5) (0 : Int32)) with hb | hb
    · have hf := a_bt hb hf
      refine v_it hb ?_
      refine v_weak (L' := [some (.ref 13), some (.int x1), none, none, none]) (show a_wk [some (.ref 13), some (.int x1), none, none, none] [some (.ref 13), some (.int x1), some (.int x2), some (.int x3), none] from ⟨rfl, ⟨rfl, ⟨(fun v hv => by cases hv; rfl), ⟨(fun v hv => by cases hv; rfl), ⟨(fun v hv => by cases hv), trivial⟩⟩⟩⟩⟩) ?_
      exact kt_19_49 hfz N P vl kp Mo R (d + 1) hd x1 C _ _ hf
    · have hf := a_be hb hf
      refine v_ie hb ?_
      obtain ⟨r2, C2, hc, hf⟩ := m_bd_ok hf
      refine v_call 6 (k' := 74) (i' := 48) (E := [some (.ref 1), some (.int (C 92 6))]) (L' := [some (.ref 13), some (.int x1), some (.int x2), some (.int x3), none]) (rest := [(.ref 13)]) (h1 := (hX C P vl kp Mo R)) (fun _ => rfl) ?_
      refine v_post (kt_74 hfz N P vl kp Mo R d (by omega) (C 92 6) C _ _ hc) ?_
      rintro rv h' ⟨rfl, rfl⟩
      refine v_blk 1 (i' := 49) (L' := [some (.ref 13), some (.int x1), some (.int x2), some (.int x3), none]) (st' := []) (h' := (hX (va_up C2 92 (upd (C2 92) 6 r2)) P vl kp Mo R)) (fun _ => rfl) ?_
      refine v_weak (L' := [some (.ref 13), some (.int x1), none, none, none]) (show a_wk [some (.ref 13), some (.int x1), none, none, none] [some (.ref 13), some (.int x1), some (.int x2), some (.int x3), none] from ⟨rfl, ⟨rfl, ⟨(fun v hv => by cases hv; rfl), ⟨(fun v hv => by cases hv; rfl), ⟨(fun v hv => by cases hv), trivial⟩⟩⟩⟩⟩) ?_
      exact kt_19_49 hfz N P vl kp Mo R (d + 1) hd x1 (va_up C2 92 (upd (C2 92) 6 r2)) _ _ hf
  · have hf := a_be hb hf
    refine v_ie hb ?_
    obtain ⟨r3, C3, hc, hf⟩ := m_bd_ok hf
    refine v_call 3 (k' := 16) (i' := 16) (E := [some (.ref 13), some (.int x3), none]) (L' := [some (.ref 13), some (.int x1), some (.int x2), some (.int x3), none]) (rest := []) (h1 := (hX C P vl kp Mo R)) (fun _ => rfl) ?_
    refine v_post (kt_16 hfz N P vl kp Mo R d (by omega) x3 C _ _ hc) ?_
    rintro rv h' ⟨rfl, rfl⟩
    obtain ⟨hg, hf⟩ := a_bif hf
    refine v_grd 14 (i' := 30) (L' := [some (.ref 13), some (.int (x1 + r3)), some (.int x2), some (.int x3), some (.int r3)]) (st' := [(.int ((C3 9) (x3).toNatClampNeg)), (.int (0 : Int32)), (.int (999 : Int32)), (.int x3), (.ref 14)]) (h' := (hX C3 P vl kp Mo R)) (fun _ => rfl) hg ?_
    obtain ⟨y4, hy, hf⟩ := m_li_ok hf
    rw [hy]
    refine v_blk 3 (i' := 33) (L' := [some (.ref 13), some (.int (x1 + r3)), some (.int x2), some (.int x3), some (.int r3)]) (st' := [(.int (if (0 : Int32) < (y4 - r3) then (y4 - r3) else (0 : Int32))), (.int (999 : Int32)), (.int x3), (.ref 14)]) (h' := (hX C3 P vl kp Mo R)) (fun _ => rfl) ?_
    obtain ⟨y5, hy, hf⟩ := m_li_ok hf
    rw [hy]
    refine v_blk 3 (i' := 36) (L' := [some (.ref 13), some (.int (x1 + r3)), some (.int x2), some (.int x3), some (.int r3)]) (st' := [(.int (if (y5 + x2) < (999 : Int32) then (y5 + x2) else (999 : Int32))), (.int x3), (.ref 14)]) (h' := (hX C3 P vl kp Mo R)) (fun _ => rfl) ?_
    obtain ⟨y6, hy, hf⟩ := m_li_ok hf
    rw [hy]
    obtain ⟨hg, hf⟩ := a_bif hf
    refine v_grd 1 (i' := 37) (L' := [some (.ref 13), some (.int (x1 + r3)), some (.int x2), some (.int x3), some (.int r3)]) (st' := []) (h' := (hX (va_up C3 9 (upd (C3 9) (x3).toNatClampNeg y6)) P vl kp Mo R)) (fun _ => rfl) hg ?_
    obtain ⟨C7, hA, hf⟩ := m_st_ok hf
    rw [hA]
    refine v_blk 2 (i' := 8) (L' := [some (.ref 13), some (.int (x1 + r3)), some (.int x2), some (.int (x3 + (1 : Int32))), some (.int r3)]) (st' := []) (h' := (hX C7 P vl kp Mo R)) (fun _ => rfl) ?_
    refine v_weak (L' := [some (.ref 13), some (.int (x1 + r3)), some (.int x2), some (.int (x3 + (1 : Int32))), none]) (show a_wk [some (.ref 13), some (.int (x1 + r3)), some (.int x2), some (.int (x3 + (1 : Int32))), none] [some (.ref 13), some (.int (x1 + r3)), some (.int x2), some (.int (x3 + (1 : Int32))), some (.int r3)] from ⟨rfl, ⟨rfl, ⟨rfl, ⟨rfl, ⟨(fun v hv => by cases hv; rfl), trivial⟩⟩⟩⟩⟩) ?_
    exact hrc8 (x1 + r3) x2 (x3 + (1 : Int32)) C7 _ _ hf
theorem kt_19_8 {fz : Value} {sc : Nat × (Nat → Int32)} (hfz : fz = .null ∨ fz = .retAddr 60) (N : Nat) (P : Nat → Option Nat) (vl kp : Option Nat) (Mo : Nat → aC) (R : List aC) (d : Nat) (hd : 3 ≤ d) : ∀ (n : Nat) (x1 : Int32) (x2 : Int32) (x3 : Int32) (C : mS) (r : Int32) (C' : mS) (hf : k_19_8 N P vl R n x1 x2 x3 C = some (r, C')), v_V fz sc d 19 8 [some (.ref 13), some (.int x1), some (.int x2), some (.int x3), none] [] (hX C P vl kp Mo R) (fun rv h' => rv = some (.int r) ∧ h' = hX C' P vl kp Mo R) := by
  intro n
  induction n with
  | zero => intro x1 x2 x3 C r C' hf; cases hf
  | succ n ih =>
    intro x1 x2 x3 C r C' hf
    exact kt_19_8b hfz N P vl kp Mo R d hd (k_19_8 N P vl R n) ih x1 x2 x3 C r C' hf
set_option maxRecDepth 100000 in
set_option maxHeartbeats 4000000 in
theorem kt_19 {fz : Value} {sc : Nat × (Nat → Int32)} (hfz : fz = .null ∨ fz = .retAddr 60) (N : Nat) (P : Nat → Option Nat) (vl kp : Option Nat) (Mo : Nat → aC) (R : List aC) (d : Nat) (hd : 3 ≤ d) (C : mS) (r : Int32) (C' : mS) (hf : k_19 N P vl R  C = some (r, C')) : v_V fz sc d 19 0 [some (.ref 13), none, none, none, none] [] (hX C P vl kp Mo R) (fun rv h' => rv = some (.int r) ∧ h' = hX C' P vl kp Mo R) := by
  unfold k_19 at hf
  obtain ⟨d, rfl⟩ : ∃ z, d = z + 1 := ⟨d - 1, by omega⟩
  obtain ⟨r1, C1, hc, hf⟩ := m_bd_ok hf
  refine v_call 5 (k' := 72) (i' := 5) (E := [some (.ref 1)]) (L' := [some (.ref 13), some (.int (0 : Int32)), none, none, none]) (rest := []) (h1 := (hX C P vl kp Mo R)) (fun _ => rfl) ?_
  refine v_post (kt_72 hfz N P vl kp Mo R d (by omega)  C _ _ hc) ?_
  rintro rv h' ⟨rfl, rfl⟩
  refine v_blk 3 (i' := 8) (L' := [some (.ref 13), some (.int (0 : Int32)), some (.int r1), some (.int (0 : Int32)), none]) (st' := []) (h' := (hX C1 P vl kp Mo R)) (fun _ => rfl) ?_
  exact kt_19_8 hfz N P vl kp Mo R (d + 1) hd N (0 : Int32) r1 (0 : Int32) C1 _ _ hf
set_option maxRecDepth 100000 in
set_option maxHeartbeats 4000000 in
theorem kt_23 {fz : Value} {sc : Nat × (Nat → Int32)} (hfz : fz = .null ∨ fz = .retAddr 60) (N : Nat) (P : Nat → Option Nat) (vl kp : Option Nat) (Mo : Nat → aC) (R : List aC) (d : Nat) (hd : 0 ≤ d) (x1 : Int32) (C : mS) (r : Int32) (C' : mS) (hf : k_23 N P vl R x1 C = some (r, C')) : v_V fz sc d 23 0 [some (.ref 13), some (.int x1)] [] (hX C P vl kp Mo R) (fun rv h' => rv = some (.int r) ∧ h' = hX C' P vl kp Mo R) := by
  unfold k_23 at hf
  obtain ⟨hg, hf⟩ := a_bif hf
  refine v_grd 4 (i' := 4) (L' := [some (.ref 13), some (.int x1)]) (st' := [(.int ((C 11) (x1).toNatClampNeg))]) (h' := (hX C P vl kp Mo R)) (fun _ => rfl) hg ?_
  obtain ⟨y1, hy, hf⟩ := m_li_ok hf
  rw [hy]
  obtain ⟨rfl, rfl⟩ := m_rt hf
  exact v_ret 1 (fun _ => rfl) ⟨rfl, rfl⟩
set_option maxRecDepth 100000 in
set_option maxHeartbeats 4000000 in
theorem kt_29 {fz : Value} {sc : Nat × (Nat → Int32)} (hfz : fz = .null ∨ fz = .retAddr 60) (N : Nat) (P : Nat → Option Nat) (vl kp : Option Nat) (Mo : Nat → aC) (R : List aC) (d : Nat) (hd : 3 ≤ d) (x1 : Int32) (x2 : Int32) (C : mS) (r : Int32) (C' : mS) (hf : k_29 N P vl R x1 x2 C = some (r, C')) : v_V fz sc d 29 0 [some (.ref 13), some (.int x1), some (.int x2)] [] (hX C P vl kp Mo R) (fun rv h' => rv = some (.int r) ∧ h' = hX C' P vl kp Mo R) := by
  unfold k_29 at hf
  obtain ⟨d, rfl⟩ : ∃ z, d = z + 1 := ⟨d - 1, by omega⟩
  obtain ⟨r1, C1, hc, hf⟩ := m_bd_ok hf
  refine v_call 5 (k' := 70) (i' := 5) (E := [some (.ref 1), some (.int x1)]) (L' := [some (.ref 13), some (.int x1), some (.int x2)]) (rest := [(.ref 13)]) (h1 := (hX C P vl kp Mo R)) (fun _ => rfl) ?_
  refine v_post (kt_70 hfz N P vl kp Mo R d (by omega) x1 C _ _ hc) ?_
  rintro rv h' ⟨rfl, rfl⟩
  rcases m_op_ok hf with ⟨ho2, hf⟩ | ⟨a2, ho2, hf⟩
  · refine v_on ho2 ?_
    obtain ⟨r3, C3, hc, hf⟩ := m_bd_ok hf
    refine v_call 6 (k' := 32) (i' := 11) (E := [some (.ref 13), some (.null), some (.int x2), some (.int (C1 92 7)), some (.int (C1 92 8)), none]) (L' := [some (.ref 13), some (.int x1), some (.int x2)]) (rest := []) (h1 := (hX C1 P vl kp Mo R)) (fun _ => rfl) ?_
    refine v_post (kt_32 hfz N P vl kp Mo R d (by omega) none x2 (C1 92 7) (C1 92 8) C1 _ _ hc) ?_
    rintro rv h' ⟨rfl, rfl⟩
    obtain ⟨rfl, rfl⟩ := m_rt hf
    exact v_ret 1 (fun _ => rfl) ⟨rfl, rfl⟩
  · refine v_os ho2 ?_
    obtain ⟨r4, C4, hc, hf⟩ := m_bd_ok hf
    refine v_call 6 (k' := 32) (i' := 11) (E := [some (.ref 13), some (.ref a2), some (.int x2), some (.int (C1 92 7)), some (.int (C1 92 8)), none]) (L' := [some (.ref 13), some (.int x1), some (.int x2)]) (rest := []) (h1 := (hX C1 P vl kp Mo R)) (fun _ => rfl) ?_
    refine v_post (kt_32 hfz N P vl kp Mo R d (by omega) (some a2) x2 (C1 92 7) (C1 92 8) C1 _ _ hc) ?_
    rintro rv h' ⟨rfl, rfl⟩
    obtain ⟨rfl, rfl⟩ := m_rt hf
    exact v_ret 1 (fun _ => rfl) ⟨rfl, rfl⟩
set_option maxRecDepth 100000 in
set_option maxHeartbeats 4000000 in
theorem kt_24 {fz : Value} {sc : Nat × (Nat → Int32)} (hfz : fz = .null ∨ fz = .retAddr 60) (N : Nat) (P : Nat → Option Nat) (vl kp : Option Nat) (Mo : Nat → aC) (R : List aC) (d : Nat) (hd : 4 ≤ d) (x1 : Int32) (C : mS) (r : Int32) (C' : mS) (hf : k_24 N P vl R x1 C = some (r, C')) : v_V fz sc d 24 0 [some (.ref 13), some (.int x1)] [] (hX C P vl kp Mo R) (fun rv h' => rv = some (.int r) ∧ h' = hX C' P vl kp Mo R) := by
  unfold k_24 at hf
  obtain ⟨d, rfl⟩ : ∃ z, d = z + 1 := ⟨d - 1, by omega⟩
  obtain ⟨r1, C1, hc, hf⟩ := m_bd_ok hf
  refine v_call 5 (k' := 29) (i' := 5) (E := [some (.ref 13), some (.int x1), some (.int (C 92 9))]) (L' := [some (.ref 13), some (.int x1)]) (rest := []) (h1 := (hX C P vl kp Mo R)) (fun _ => rfl) ?_
  refine v_post (kt_29 hfz N P vl kp Mo R d (by omega) x1 (C 92 9) C _ _ hc) ?_
  rintro rv h' ⟨rfl, rfl⟩
  obtain ⟨r2, C2, hc, hf⟩ := m_bd_ok hf
  refine v_call 3 (k' := 16) (i' := 8) (E := [some (.ref 13), some (.int x1), none]) (L' := [some (.ref 13), some (.int x1)]) (rest := [(.int r1)]) (h1 := (hX C1 P vl kp Mo R)) (fun _ => rfl) ?_
  refine v_post (kt_16 hfz N P vl kp Mo R d (by omega) x1 C1 _ _ hc) ?_
  rintro rv h' ⟨rfl, rfl⟩
  obtain ⟨rfl, rfl⟩ := m_rt hf
  exact v_ret 2 (fun _ => rfl) ⟨rfl, rfl⟩
set_option maxRecDepth 100000 in
set_option maxHeartbeats 4000000 in
theorem kt_25 {fz : Value} {sc : Nat × (Nat → Int32)} (hfz : fz = .null ∨ fz = .retAddr 60) (N : Nat) (P : Nat → Option Nat) (vl kp : Option Nat) (Mo : Nat → aC) (R : List aC) (d : Nat) (hd : 5 ≤ d) (x1 : Int32) (x2 : Int32) (x3 : Int32) (C : mS) (r : Int32) (C' : mS) (hf : k_25 N P vl R x1 x2 x3 C = some (r, C')) : v_V fz sc d 25 0 [some (.ref 13), some (.int x1), some (.int x2), some (.int x3), none, none, none] [] (hX C P vl kp Mo R) (fun rv h' => rv = some (.int r) ∧ h' = hX C' P vl kp Mo R) := by
  unfold k_25 at hf
  obtain ⟨d, rfl⟩ : ∃ z, d = z + 1 := ⟨d - 1, by omega⟩
  obtain ⟨hg, hf⟩ := a_bif hf
  refine v_grd 10 (i' := 10) (L' := [some (.ref 13), some (.int x1), some (.int x2), some (.int x3), some (.int ((x1 * (4 : Int32)) + x2)), none, none]) (st' := [(.int ((C 10) (((x1 * (4 : Int32)) + x2)).toNatClampNeg))]) (h' := (hX C P vl kp Mo R)) (fun _ => rfl) hg ?_
  obtain ⟨y1, hy, hf⟩ := m_li_ok hf
  rw [hy]
  obtain ⟨hg, hf⟩ := a_bif hf
  refine v_grd 6 (i' := 16) (L' := [some (.ref 13), some (.int x1), some (.int x2), some (.int x3), some (.int ((x1 * (4 : Int32)) + x2)), some (.int y1), none]) (st' := []) (h' := (hX (va_up C 10 (upd (C 10) (((x1 * (4 : Int32)) + x2)).toNatClampNeg x3)) P vl kp Mo R)) (fun _ => rfl) hg ?_
  obtain ⟨C2, hA, hf⟩ := m_st_ok hf
  rw [hA]
  obtain ⟨r3, C3, hc, hf⟩ := m_bd_ok hf
  refine v_call 2 (k' := 15) (i' := 18) (E := [some (.ref 13), none, none, none]) (L' := [some (.ref 13), some (.int x1), some (.int x2), some (.int x3), some (.int ((x1 * (4 : Int32)) + x2)), some (.int y1), none]) (rest := []) (h1 := (hX C2 P vl kp Mo R)) (fun _ => rfl) ?_
  refine v_post (kt_15 hfz N P vl kp Mo R d (by omega)  C2 _ _ hc) ?_
  rintro rv h' ⟨rfl, rfl⟩
  obtain ⟨r4, C4, hc, hf⟩ := m_bd_ok hf
  refine v_call 3 (k' := 24) (i' := 21) (E := [some (.ref 13), some (.int x1)]) (L' := [some (.ref 13), some (.int x1), some (.int x2), some (.int x3), some (.int ((x1 * (4 : Int32)) + x2)), some (.int y1), none]) (rest := []) (h1 := (hX C3 P vl kp Mo R)) (fun _ => rfl) ?_
  refine v_post (kt_24 hfz N P vl kp Mo R d (by omega) x1 C3 _ _ hc) ?_
  rintro rv h' ⟨rfl, rfl⟩
  obtain ⟨hg, hf⟩ := a_bif hf
  refine v_grd 6 (i' := 27) (L' := [some (.ref 13), some (.int x1), some (.int x2), some (.int x3), some (.int ((x1 * (4 : Int32)) + x2)), some (.int y1), some (.int r4)]) (st' := []) (h' := (hX (va_up C4 10 (upd (C4 10) (((x1 * (4 : Int32)) + x2)).toNatClampNeg y1)) P vl kp Mo R)) (fun _ => rfl) hg ?_
  obtain ⟨C5, hA, hf⟩ := m_st_ok hf
  rw [hA]
  obtain ⟨rfl, rfl⟩ := m_rt hf
  exact v_ret 2 (fun _ => rfl) ⟨rfl, rfl⟩
set_option maxRecDepth 100000 in
set_option maxHeartbeats 4000000 in
theorem kt_26_2b {fz : Value} {sc : Nat × (Nat → Int32)} (hfz : fz = .null ∨ fz = .retAddr 60) (N : Nat) (P : Nat → Option Nat) (vl kp : Option Nat) (Mo : Nat → aC) (R : List aC) (d : Nat) (hd : 6 ≤ d) (rc2 : Int32 → Int32 → Int32 → mS → Option (Int32 × mS)) (hrc2 : ∀ (x1 : Int32) (x2 : Int32) (x3 : Int32) (C : mS) (r : Int32) (C' : mS), rc2 x1 x2 x3 C = some (r, C') → v_V fz sc d 26 2 [some (.ref 13), some (.int x1), some (.int x2), some (.int x3), none] [] (hX C P vl kp Mo R) (fun rv h' => rv = some (.int r) ∧ h' = hX C' P vl kp Mo R)) (x1 : Int32) (x2 : Int32) (x3 : Int32) (C : mS) (r : Int32) (C' : mS) (hf : k_26_2b N P vl R rc2 x1 x2 x3 C = some (r, C')) : v_V fz sc d 26 2 [some (.ref 13), some (.int x1), some (.int x2), some (.int x3), none] [] (hX C P vl kp Mo R) (fun rv h' => rv = some (.int r) ∧ h' = hX C' P vl kp Mo R) := by
  unfold k_26_2b at hf
  obtain ⟨d, rfl⟩ : ∃ z, d = z + 1 := ⟨d - 1, by omega⟩
  refine v_blk 3 (i' := (bif (a_ic .ge x3 (4 : Int32)) then 29 else 5)) (L' := [some (.ref 13), some (.int x1), some (.int x2), some (.int x3), none]) (st' := []) (h' := (hX C P vl kp Mo R)) (fun _ => rfl) ?_
  rcases Bool.eq_false_or_eq_true (a_ic .ge x3 (4 : Int32)) with hb | hb
  · have hf := a_bt hb hf
    refine v_it hb ?_
    obtain ⟨r1, C1, hc, hf⟩ := m_bd_ok hf
    refine v_call 2 (k' := 15) (i' := 31) (E := [some (.ref 13), none, none, none]) (L' := [some (.ref 13), some (.int x1), some (.int x2), some (.int x3), none]) (rest := []) (h1 := (hX C P vl kp Mo R)) (fun _ => rfl) ?_
    refine v_post (kt_15 hfz N P vl kp Mo R d (by omega)  C _ _ hc) ?_
    rintro rv h' ⟨rfl, rfl⟩
    obtain ⟨r2, C2, hc, hf⟩ := m_bd_ok hf
    refine v_call 3 (k' := 24) (i' := 34) (E := [some (.ref 13), some (.int x1)]) (L' := [some (.ref 13), some (.int x1), some (.int x2), some (.int x3), none]) (rest := []) (h1 := (hX C1 P vl kp Mo R)) (fun _ => rfl) ?_
    refine v_post (kt_24 hfz N P vl kp Mo R d (by omega) x1 C1 _ _ hc) ?_
    rintro rv h' ⟨rfl, rfl⟩
    obtain ⟨r3, C3, hc, hf⟩ := m_bd_ok hf
    refine v_call 3 (k' := 24) (i' := 37) (E := [some (.ref 13), some (.int x2)]) (L' := [some (.ref 13), some (.int x1), some (.int x2), some (.int x3), none]) (rest := [(.int r2)]) (h1 := (hX C2 P vl kp Mo R)) (fun _ => rfl) ?_
    refine v_post (kt_24 hfz N P vl kp Mo R d (by omega) x2 C2 _ _ hc) ?_
    rintro rv h' ⟨rfl, rfl⟩
    obtain ⟨r4, C4, hc, hf⟩ := m_bd_ok hf
    refine v_call 5 (k' := 13) (i' := 42) (E := [some (.ref 13), some (.int x1), none, none]) (L' := [some (.ref 13), some (.int x1), some (.int x2), some (.int (r2 + r3)), none]) (rest := []) (h1 := (hX C3 P vl kp Mo R)) (fun _ => rfl) ?_
    refine v_post (kt_13 hfz N P vl kp Mo R d (by omega) x1 C3 _ _ hc) ?_
    rintro rv h' ⟨rfl, rfl⟩
    obtain ⟨r5, C5, hc, hf⟩ := m_bd_ok hf
    refine v_call 3 (k' := 13) (i' := 45) (E := [some (.ref 13), some (.int x2), none, none]) (L' := [some (.ref 13), some (.int x1), some (.int x2), some (.int (r2 + r3)), none]) (rest := []) (h1 := (hX C4 P vl kp Mo R)) (fun _ => rfl) ?_
    refine v_post (kt_13 hfz N P vl kp Mo R d (by omega) x2 C4 _ _ hc) ?_
    rintro rv h' ⟨rfl, rfl⟩
    obtain ⟨rfl, rfl⟩ := m_rt hf
    exact v_ret 2 (fun _ => rfl) ⟨rfl, rfl⟩
  · have hf := a_be hb hf
    refine v_ie hb ?_
    obtain ⟨r6, C6, hc, hf⟩ := m_bd_ok hf
    refine v_call 4 (k' := 29) (i' := 9) (E := [some (.ref 13), some (.int x1), some (.int x3)]) (L' := [some (.ref 13), some (.int x1), some (.int x2), some (.int x3), none]) (rest := []) (h1 := (hX C P vl kp Mo R)) (fun _ => rfl) ?_
    refine v_post (kt_29 hfz N P vl kp Mo R d (by omega) x1 x3 C _ _ hc) ?_
    rintro rv h' ⟨rfl, rfl⟩
    obtain ⟨r7, C7, hc, hf⟩ := m_bd_ok hf
    refine v_call 4 (k' := 29) (i' := 13) (E := [some (.ref 13), some (.int x2), some (.int x3)]) (L' := [some (.ref 13), some (.int x1), some (.int x2), some (.int x3), none]) (rest := [(.int r6)]) (h1 := (hX C6 P vl kp Mo R)) (fun _ => rfl) ?_
    refine v_post (kt_29 hfz N P vl kp Mo R d (by omega) x2 x3 C6 _ _ hc) ?_
    rintro rv h' ⟨rfl, rfl⟩
    refine v_blk 3 (i' := 16) (L' := [some (.ref 13), some (.int x1), some (.int x2), some (.int x3), none]) (st' := [(.int ((r6 + r7) / (2 : Int32)))]) (h' := (hX C7 P vl kp Mo R)) (fun _ => rfl) ?_
    obtain ⟨y8, hy, hf⟩ := m_li_ok hf
    rw [hy]
    obtain ⟨r9, C9, hc, hf⟩ := m_bd_ok hf
    refine v_call 6 (k' := 14) (i' := 22) (E := [some (.ref 13), some (.int x1), some (.int x3), some (.int y8)]) (L' := [some (.ref 13), some (.int x1), some (.int x2), some (.int x3), some (.int y8)]) (rest := []) (h1 := (hX C7 P vl kp Mo R)) (fun _ => rfl) ?_
    refine v_post (kt_14 hfz N P vl kp Mo R d (by omega) x1 x3 y8 C7 _ _ hc) ?_
    rintro rv h' ⟨rfl, rfl⟩
    obtain ⟨r10, C10, hc, hf⟩ := m_bd_ok hf
    refine v_call 5 (k' := 14) (i' := 27) (E := [some (.ref 13), some (.int x2), some (.int x3), some (.int y8)]) (L' := [some (.ref 13), some (.int x1), some (.int x2), some (.int x3), some (.int y8)]) (rest := []) (h1 := (hX C9 P vl kp Mo R)) (fun _ => rfl) ?_
    refine v_post (kt_14 hfz N P vl kp Mo R d (by omega) x2 x3 y8 C9 _ _ hc) ?_
    rintro rv h' ⟨rfl, rfl⟩
    refine v_blk 2 (i' := 2) (L' := [some (.ref 13), some (.int x1), some (.int x2), some (.int (x3 + (1 : Int32))), some (.int y8)]) (st' := []) (h' := (hX C10 P vl kp Mo R)) (fun _ => rfl) ?_
    refine v_weak (L' := [some (.ref 13), some (.int x1), some (.int x2), some (.int (x3 + (1 : Int32))), none]) (show a_wk [some (.ref 13), some (.int x1), some (.int x2), some (.int (x3 + (1 : Int32))), none] [some (.ref 13), some (.int x1), some (.int x2), some (.int (x3 + (1 : Int32))), some (.int y8)] from ⟨rfl, ⟨rfl, ⟨rfl, ⟨rfl, ⟨(fun v hv => by cases hv; rfl), trivial⟩⟩⟩⟩⟩) ?_
    exact hrc2 x1 x2 (x3 + (1 : Int32)) C10 _ _ hf
theorem kt_26_2 {fz : Value} {sc : Nat × (Nat → Int32)} (hfz : fz = .null ∨ fz = .retAddr 60) (N : Nat) (P : Nat → Option Nat) (vl kp : Option Nat) (Mo : Nat → aC) (R : List aC) (d : Nat) (hd : 6 ≤ d) : ∀ (n : Nat) (x1 : Int32) (x2 : Int32) (x3 : Int32) (C : mS) (r : Int32) (C' : mS) (hf : k_26_2 N P vl R n x1 x2 x3 C = some (r, C')), v_V fz sc d 26 2 [some (.ref 13), some (.int x1), some (.int x2), some (.int x3), none] [] (hX C P vl kp Mo R) (fun rv h' => rv = some (.int r) ∧ h' = hX C' P vl kp Mo R) := by
  intro n
  induction n with
  | zero => intro x1 x2 x3 C r C' hf; cases hf
  | succ n ih =>
    intro x1 x2 x3 C r C' hf
    exact kt_26_2b hfz N P vl kp Mo R d hd (k_26_2 N P vl R n) ih x1 x2 x3 C r C' hf
