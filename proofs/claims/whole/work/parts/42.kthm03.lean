/-! 42.kthm, piece 3: runs of the class's methods are their mirrored functions (by program) -/
set_option maxRecDepth 100000 in
set_option maxHeartbeats 4000000 in
theorem kt_26 {fz : Value} {sc : Nat × (Nat → Int32)} (hfz : fz = .null ∨ fz = .retAddr 60) (N : Nat) (P : Nat → Option Nat) (vl kp : Option Nat) (Mo : Nat → aC) (R : List aC) (d : Nat) (hd : 6 ≤ d) (x1 : Int32) (x2 : Int32) (C : mS) (r : Int32) (C' : mS) (hf : k_26 N P vl R x1 x2 C = some (r, C')) : v_V fz sc d 26 0 [some (.ref 13), some (.int x1), some (.int x2), none, none] [] (hX C P vl kp Mo R) (fun rv h' => rv = some (.int r) ∧ h' = hX C' P vl kp Mo R) := by
  unfold k_26 at hf
  obtain ⟨d, rfl⟩ : ∃ z, d = z + 1 := ⟨d - 1, by omega⟩
  refine v_blk 2 (i' := 2) (L' := [some (.ref 13), some (.int x1), some (.int x2), some (.int (0 : Int32)), none]) (st' := []) (h' := (hX C P vl kp Mo R)) (fun _ => rfl) ?_
  exact kt_26_2 hfz N P vl kp Mo R (d + 1) hd N x1 x2 (0 : Int32) C _ _ hf
set_option maxRecDepth 100000 in
set_option maxHeartbeats 4000000 in
theorem kt_31_4b {fz : Value} {sc : Nat × (Nat → Int32)} (hfz : fz = .null ∨ fz = .retAddr 60) (N : Nat) (P : Nat → Option Nat) (vl kp : Option Nat) (Mo : Nat → aC) (R : List aC) (d : Nat) (hd : 3 ≤ d) (rc4 : Int32 → Int32 → Int32 → Int32 → Int32 → mS → Option (Int32 × mS)) (hrc4 : ∀ (x1 : Int32) (x2 : Int32) (x3 : Int32) (x4 : Int32) (x5 : Int32) (C : mS) (r : Int32) (C' : mS), rc4 x1 x2 x3 x4 x5 C = some (r, C') → v_V fz sc d 31 4 [some (.ref 13), some (.int x1), some (.int x2), some (.int x3), some (.int x4), some (.int x5)] [] (hX C P vl kp Mo R) (fun rv h' => rv = some (.int r) ∧ h' = hX C' P vl kp Mo R)) (x1 : Int32) (x2 : Int32) (x3 : Int32) (x4 : Int32) (x5 : Int32) (C : mS) (r : Int32) (C' : mS) (hf : k_31_4b N P vl R rc4 x1 x2 x3 x4 x5 C = some (r, C')) : v_V fz sc d 31 4 [some (.ref 13), some (.int x1), some (.int x2), some (.int x3), some (.int x4), some (.int x5)] [] (hX C P vl kp Mo R) (fun rv h' => rv = some (.int r) ∧ h' = hX C' P vl kp Mo R) := by
  unfold k_31_4b at hf
  obtain ⟨d, rfl⟩ : ∃ z, d = z + 1 := ⟨d - 1, by omega⟩
  refine v_blk 5 (i' := (bif (a_ic .ge x5 (C 90 12)) then 23 else 9)) (L' := [some (.ref 13), some (.int x1), some (.int x2), some (.int x3), some (.int x4), some (.int x5)]) (st' := []) (h' := (hX C P vl kp Mo R)) (fun _ => rfl) ?_
  rcases Bool.eq_false_or_eq_true (a_ic .ge x5 (C 90 12)) with hb | hb
  · have hf := a_bt hb hf
    refine v_it hb ?_
    obtain ⟨rfl, rfl⟩ := m_rt hf
    exact v_ret 2 (fun _ => rfl) ⟨rfl, rfl⟩
  · have hf := a_be hb hf
    refine v_ie hb ?_
    obtain ⟨r1, C1, hc, hf⟩ := m_bd_ok hf
    refine v_call 6 (k' := 70) (i' := 15) (E := [some (.ref 1), some (.int x5)]) (L' := [some (.ref 13), some (.int x1), some (.int x2), some (.int x3), some (.int x4), some (.int x5)]) (rest := [(.ref 13), (.int x4)]) (h1 := (hX C P vl kp Mo R)) (fun _ => rfl) ?_
    refine v_post (kt_70 hfz N P vl kp Mo R d (by omega) x5 C _ _ hc) ?_
    rintro rv h' ⟨rfl, rfl⟩
    rcases m_op_ok hf with ⟨ho2, hf⟩ | ⟨a2, ho2, hf⟩
    · refine v_on ho2 ?_
      obtain ⟨r3, C3, hc, hf⟩ := m_bd_ok hf
      refine v_call 4 (k' := 32) (i' := 19) (E := [some (.ref 13), some (.null), some (.int x1), some (.int x2), some (.int x3), none]) (L' := [some (.ref 13), some (.int x1), some (.int x2), some (.int x3), some (.int x4), some (.int x5)]) (rest := [(.int x4)]) (h1 := (hX C1 P vl kp Mo R)) (fun _ => rfl) ?_
      refine v_post (kt_32 hfz N P vl kp Mo R d (by omega) none x1 x2 x3 C1 _ _ hc) ?_
      rintro rv h' ⟨rfl, rfl⟩
      refine v_blk 4 (i' := 4) (L' := [some (.ref 13), some (.int x1), some (.int x2), some (.int x3), some (.int (x4 + r3)), some (.int (x5 + (1 : Int32)))]) (st' := []) (h' := (hX C3 P vl kp Mo R)) (fun _ => rfl) ?_
      exact hrc4 x1 x2 x3 (x4 + r3) (x5 + (1 : Int32)) C3 _ _ hf
    · refine v_os ho2 ?_
      obtain ⟨r4, C4, hc, hf⟩ := m_bd_ok hf
      refine v_call 4 (k' := 32) (i' := 19) (E := [some (.ref 13), some (.ref a2), some (.int x1), some (.int x2), some (.int x3), none]) (L' := [some (.ref 13), some (.int x1), some (.int x2), some (.int x3), some (.int x4), some (.int x5)]) (rest := [(.int x4)]) (h1 := (hX C1 P vl kp Mo R)) (fun _ => rfl) ?_
      refine v_post (kt_32 hfz N P vl kp Mo R d (by omega) (some a2) x1 x2 x3 C1 _ _ hc) ?_
      rintro rv h' ⟨rfl, rfl⟩
      refine v_blk 4 (i' := 4) (L' := [some (.ref 13), some (.int x1), some (.int x2), some (.int x3), some (.int (x4 + r4)), some (.int (x5 + (1 : Int32)))]) (st' := []) (h' := (hX C4 P vl kp Mo R)) (fun _ => rfl) ?_
      exact hrc4 x1 x2 x3 (x4 + r4) (x5 + (1 : Int32)) C4 _ _ hf
theorem kt_31_4 {fz : Value} {sc : Nat × (Nat → Int32)} (hfz : fz = .null ∨ fz = .retAddr 60) (N : Nat) (P : Nat → Option Nat) (vl kp : Option Nat) (Mo : Nat → aC) (R : List aC) (d : Nat) (hd : 3 ≤ d) : ∀ (n : Nat) (x1 : Int32) (x2 : Int32) (x3 : Int32) (x4 : Int32) (x5 : Int32) (C : mS) (r : Int32) (C' : mS) (hf : k_31_4 N P vl R n x1 x2 x3 x4 x5 C = some (r, C')), v_V fz sc d 31 4 [some (.ref 13), some (.int x1), some (.int x2), some (.int x3), some (.int x4), some (.int x5)] [] (hX C P vl kp Mo R) (fun rv h' => rv = some (.int r) ∧ h' = hX C' P vl kp Mo R) := by
  intro n
  induction n with
  | zero => intro x1 x2 x3 x4 x5 C r C' hf; cases hf
  | succ n ih =>
    intro x1 x2 x3 x4 x5 C r C' hf
    exact kt_31_4b hfz N P vl kp Mo R d hd (k_31_4 N P vl R n) ih x1 x2 x3 x4 x5 C r C' hf
set_option maxRecDepth 100000 in
set_option maxHeartbeats 4000000 in
theorem kt_31 {fz : Value} {sc : Nat × (Nat → Int32)} (hfz : fz = .null ∨ fz = .retAddr 60) (N : Nat) (P : Nat → Option Nat) (vl kp : Option Nat) (Mo : Nat → aC) (R : List aC) (d : Nat) (hd : 3 ≤ d) (x1 : Int32) (x2 : Int32) (x3 : Int32) (C : mS) (r : Int32) (C' : mS) (hf : k_31 N P vl R x1 x2 x3 C = some (r, C')) : v_V fz sc d 31 0 [some (.ref 13), some (.int x1), some (.int x2), some (.int x3), none, none] [] (hX C P vl kp Mo R) (fun rv h' => rv = some (.int r) ∧ h' = hX C' P vl kp Mo R) := by
  unfold k_31 at hf
  obtain ⟨d, rfl⟩ : ∃ z, d = z + 1 := ⟨d - 1, by omega⟩
  refine v_blk 4 (i' := 4) (L' := [some (.ref 13), some (.int x1), some (.int x2), some (.int x3), some (.int (0 : Int32)), some (.int (0 : Int32))]) (st' := []) (h' := (hX C P vl kp Mo R)) (fun _ => rfl) ?_
  exact kt_31_4 hfz N P vl kp Mo R (d + 1) hd N x1 x2 x3 (0 : Int32) (0 : Int32) C _ _ hf
set_option maxRecDepth 100000 in
set_option maxHeartbeats 4000000 in
theorem kt_30 {fz : Value} {sc : Nat × (Nat → Int32)} (hfz : fz = .null ∨ fz = .retAddr 60) (N : Nat) (P : Nat → Option Nat) (vl kp : Option Nat) (Mo : Nat → aC) (R : List aC) (d : Nat) (hd : 4 ≤ d) (x1 : Int32) (C : mS) (r : Int32) (C' : mS) (hf : k_30 N P vl R x1 C = some (r, C')) : v_V fz sc d 30 0 [some (.ref 13), some (.int x1)] [] (hX C P vl kp Mo R) (fun rv h' => rv = some (.int r) ∧ h' = hX C' P vl kp Mo R) := by
  unfold k_30 at hf
  obtain ⟨d, rfl⟩ : ∃ z, d = z + 1 := ⟨d - 1, by omega⟩
  obtain ⟨r1, C1, hc, hf⟩ := m_bd_ok hf
  refine v_call 7 (k' := 31) (i' := 7) (E := [some (.ref 13), some (.int x1), some (.int (C 92 7)), some (.int (C 92 8)), none, none]) (L' := [some (.ref 13), some (.int x1)]) (rest := []) (h1 := (hX C P vl kp Mo R)) (fun _ => rfl) ?_
  refine v_post (kt_31 hfz N P vl kp Mo R d (by omega) x1 (C 92 7) (C 92 8) C _ _ hc) ?_
  rintro rv h' ⟨rfl, rfl⟩
  obtain ⟨rfl, rfl⟩ := m_rt hf
  exact v_ret 1 (fun _ => rfl) ⟨rfl, rfl⟩
set_option maxRecDepth 100000 in
set_option maxHeartbeats 4000000 in
theorem kt_43 {fz : Value} {sc : Nat × (Nat → Int32)} (hfz : fz = .null ∨ fz = .retAddr 60) (N : Nat) (P : Nat → Option Nat) (vl kp : Option Nat) (Mo : Nat → aC) (R : List aC) (d : Nat) (hd : 0 ≤ d) (C : mS) (r : Int32) (C' : mS) (hf : k_43 N P vl R  C = some (r, C')) : v_V fz sc d 43 0 [some (.ref 9)] [] (hX C P vl kp Mo R) (fun rv h' => rv = none ∧ h' = hX C' P vl kp Mo R) := by
  unfold k_43 at hf
  refine v_blk 12 (i' := (bif (a_ic .ge ((C 91 9) + (1 : Int32)) (C 91 8)) then 18 else 12)) (L' := [some (.ref 9)]) (st' := [(.ref 9)]) (h' := (hX (va_up C 91 (upd (C 91) 9 ((C 91 9) + (1 : Int32)))) P vl kp Mo R)) (fun _ => rfl) ?_
  rcases Bool.eq_false_or_eq_true (a_ic .ge ((C 91 9) + (1 : Int32)) (C 91 8)) with hb | hb
  · have hf := a_bt hb hf
    refine v_it hb ?_
    obtain ⟨C1, hA, hf⟩ := m_st_ok hf
    rw [hA]
    obtain ⟨rfl, rfl⟩ := m_rt hf
    exact v_ret 3 (fun _ => rfl) ⟨rfl, rfl⟩
  · have hf := a_be hb hf
    refine v_ie hb ?_
    obtain ⟨C2, hA, hf⟩ := m_st_ok hf
    rw [hA]
    obtain ⟨hg, hf⟩ := a_bif hf
    refine v_grd 5 (i' := 17) (L' := [some (.ref 9)]) (st' := [(.int ((C2 0) ((C2 91 9)).toNatClampNeg)), (.ref 9)]) (h' := (hX C2 P vl kp Mo R)) (fun _ => rfl) hg ?_
    obtain ⟨y3, hy, hf⟩ := m_li_ok hf
    rw [hy]
    obtain ⟨rfl, rfl⟩ := m_rt hf
    exact v_ret 3 (fun _ => rfl) ⟨rfl, rfl⟩
set_option maxRecDepth 100000 in
set_option maxHeartbeats 4000000 in
theorem kt_45 {fz : Value} {sc : Nat × (Nat → Int32)} (hfz : fz = .null ∨ fz = .retAddr 60) (N : Nat) (P : Nat → Option Nat) (vl kp : Option Nat) (Mo : Nat → aC) (R : List aC) (d : Nat) (hd : 6 ≤ d) (x0 : Int32) (C : mS) (r : Nat) (C' : mS) (hf : k_45 N P vl R x0 C = some (r, C')) : v_V fz sc d 45 0 [some (.int x0)] [] (hX C P vl kp Mo R) (fun rv h' => rv = some (.retAddr r) ∧ h' = hX C' P vl kp Mo R) := by
  unfold k_45 at hf
  obtain ⟨d, rfl⟩ : ∃ z, d = z + 1 := ⟨d - 1, by omega⟩
  refine v_blk 2 (i' := (a_lsw 8 [(103, 41), (104, 35), (114, 38)] [6, 2, 4] x0)) (L' := [some (.int x0)]) (st' := []) (h' := (hX C P vl kp Mo R)) (fun _ => rfl) ?_
  by_cases hb : (a_lsw 8 [(103, 41), (104, 35), (114, 38)] [6, 2, 4] x0) = 6
  · rw [if_pos hb] at hf
    rw [hb]
    obtain ⟨rfl, rfl⟩ := m_rt hf
    exact v_ret 2 (fun _ => rfl) ⟨rfl, rfl⟩
  rw [if_neg hb] at hf
  by_cases hb : (a_lsw 8 [(103, 41), (104, 35), (114, 38)] [6, 2, 4] x0) = 2
  · rw [if_pos hb] at hf
    rw [hb]
    obtain ⟨rfl, rfl⟩ := m_rt hf
    exact v_ret 2 (fun _ => rfl) ⟨rfl, rfl⟩
  rw [if_neg hb] at hf
  by_cases hb : (a_lsw 8 [(103, 41), (104, 35), (114, 38)] [6, 2, 4] x0) = 4
  · rw [if_pos hb] at hf
    rw [hb]
    obtain ⟨rfl, rfl⟩ := m_rt hf
    exact v_ret 2 (fun _ => rfl) ⟨rfl, rfl⟩
  rw [if_neg hb] at hf
  by_cases hb : (a_lsw 8 [(103, 41), (104, 35), (114, 38)] [6, 2, 4] x0) = 8
  · rw [if_pos hb] at hf
    rw [hb]
    obtain ⟨rfl, rfl⟩ := m_rt hf
    exact v_ret 2 (fun _ => rfl) ⟨rfl, rfl⟩
  rw [if_neg hb] at hf
  cases hf
set_option maxRecDepth 100000 in
set_option maxHeartbeats 4000000 in
theorem kt_46_2b {fz : Value} {sc : Nat × (Nat → Int32)} (hfz : fz = .null ∨ fz = .retAddr 60) (N : Nat) (P : Nat → Option Nat) (vl kp : Option Nat) (Mo : Nat → aC) (R : List aC) (d : Nat) (hd : 6 ≤ d) (rc2 : Nat → Int32 → mS → Option (Int32 × mS)) (hrc2 : ∀ (x1 : Nat) (x2 : Int32) (C : mS) (r : Int32) (C' : mS), rc2 x1 x2 C = some (r, C') → v_V fz sc d 46 2 [some (.ref 9), some (.retAddr x1), some (.int x2)] [] (hX C P vl kp Mo R) (fun rv h' => rv = some (.int r) ∧ h' = hX C' P vl kp Mo R)) (x1 : Nat) (x2 : Int32) (C : mS) (r : Int32) (C' : mS) (hf : k_46_2b N P vl R rc2 x1 x2 C = some (r, C')) : v_V fz sc d 46 2 [some (.ref 9), some (.retAddr x1), some (.int x2)] [] (hX C P vl kp Mo R) (fun rv h' => rv = some (.int r) ∧ h' = hX C' P vl kp Mo R) := by
  unfold k_46_2b at hf
  obtain ⟨d, rfl⟩ : ∃ z, d = z + 1 := ⟨d - 1, by omega⟩
  obtain ⟨r1, hc, hf⟩ := m_bs_ok hf
  refine v_blk 2 (i' := 4) (L' := [some (.ref 9), some (.retAddr x1), some (.int x2)]) (st' := [(.retAddr x1), (.int x2)]) (h' := (hX C P vl kp Mo R)) (fun _ => rfl) ?_
  refine v_cs (n := 0) (w := x1) (kk := 182) (E := [some (.retAddr x1)]) (rest := [(.int x2)]) rfl rfl rfl (t_len_lt hc) rfl rfl rfl ?_
  refine v_post (t_len_ok hfz (by omega) hc) ?_
  rintro rv h' ⟨rfl, rfl⟩
  refine v_blk 1 (i' := (bif (a_ic .ge x2 r1) then 18 else 6)) (L' := [some (.ref 9), some (.retAddr x1), some (.int x2)]) (st' := []) (h' := (hX C P vl kp Mo R)) (fun _ => rfl) ?_
  rcases Bool.eq_false_or_eq_true (a_ic .ge x2 r1) with hb | hb
  · have hf := a_bt hb hf
    refine v_it hb ?_
    obtain ⟨rfl, rfl⟩ := m_rt hf
    exact v_ret 2 (fun _ => rfl) ⟨rfl, rfl⟩
  · have hf := a_be hb hf
    refine v_ie hb ?_
    obtain ⟨r2, hc, hf⟩ := m_bs_ok hf
    refine v_blk 4 (i' := 10) (L' := [some (.ref 9), some (.retAddr x1), some (.int x2)]) (st' := [(.int x2), (.retAddr x1), (.int (C 91 10))]) (h' := (hX C P vl kp Mo R)) (fun _ => rfl) ?_
    refine v_cs (n := 1) (w := x1) (kk := 183) (E := [some (.retAddr x1), some (.int x2)]) (rest := [(.int (C 91 10))]) rfl rfl rfl (t_chr_lt hc) rfl rfl rfl ?_
    refine v_post (t_chr_ok hfz (by omega) hc) ?_
    rintro rv h' ⟨rfl, rfl⟩
    refine v_blk 1 (i' := (bif (a_ic .eq (C 91 10) r2) then 14 else 12)) (L' := [some (.ref 9), some (.retAddr x1), some (.int x2)]) (st' := []) (h' := (hX C P vl kp Mo R)) (fun _ => rfl) ?_
    rcases Bool.eq_false_or_eq_true (a_ic .eq (C 91 10) r2) with hb | hb
    · have hf := a_bt hb hf
      refine v_it hb ?_
      obtain ⟨r3, C3, hc, hf⟩ := m_bd_ok hf
      refine v_call 2 (k' := 43) (i' := 16) (E := [some (.ref 9)]) (L' := [some (.ref 9), some (.retAddr x1), some (.int x2)]) (rest := []) (h1 := (hX C P vl kp Mo R)) (fun _ => rfl) ?_
      refine v_post (kt_43 hfz N P vl kp Mo R d (by omega)  C _ _ hc) ?_
      rintro rv h' ⟨rfl, rfl⟩
      refine v_blk 2 (i' := 2) (L' := [some (.ref 9), some (.retAddr x1), some (.int (x2 + (1 : Int32)))]) (st' := []) (h' := (hX C3 P vl kp Mo R)) (fun _ => rfl) ?_
      exact hrc2 x1 (x2 + (1 : Int32)) C3 _ _ hf
    · have hf := a_be hb hf
      refine v_ie hb ?_
      obtain ⟨rfl, rfl⟩ := m_rt hf
      exact v_ret 2 (fun _ => rfl) ⟨rfl, rfl⟩
theorem kt_46_2 {fz : Value} {sc : Nat × (Nat → Int32)} (hfz : fz = .null ∨ fz = .retAddr 60) (N : Nat) (P : Nat → Option Nat) (vl kp : Option Nat) (Mo : Nat → aC) (R : List aC) (d : Nat) (hd : 6 ≤ d) : ∀ (n : Nat) (x1 : Nat) (x2 : Int32) (C : mS) (r : Int32) (C' : mS) (hf : k_46_2 N P vl R n x1 x2 C = some (r, C')), v_V fz sc d 46 2 [some (.ref 9), some (.retAddr x1), some (.int x2)] [] (hX C P vl kp Mo R) (fun rv h' => rv = some (.int r) ∧ h' = hX C' P vl kp Mo R) := by
  intro n
  induction n with
  | zero => intro x1 x2 C r C' hf; cases hf
  | succ n ih =>
    intro x1 x2 C r C' hf
    exact kt_46_2b hfz N P vl kp Mo R d hd (k_46_2 N P vl R n) ih x1 x2 C r C' hf
set_option maxRecDepth 100000 in
set_option maxHeartbeats 4000000 in
theorem kt_46 {fz : Value} {sc : Nat × (Nat → Int32)} (hfz : fz = .null ∨ fz = .retAddr 60) (N : Nat) (P : Nat → Option Nat) (vl kp : Option Nat) (Mo : Nat → aC) (R : List aC) (d : Nat) (hd : 6 ≤ d) (x1 : Nat) (C : mS) (r : Int32) (C' : mS) (hf : k_46 N P vl R x1 C = some (r, C')) : v_V fz sc d 46 0 [some (.ref 9), some (.retAddr x1), none] [] (hX C P vl kp Mo R) (fun rv h' => rv = some (.int r) ∧ h' = hX C' P vl kp Mo R) := by
  unfold k_46 at hf
  obtain ⟨d, rfl⟩ : ∃ z, d = z + 1 := ⟨d - 1, by omega⟩
  refine v_blk 2 (i' := 2) (L' := [some (.ref 9), some (.retAddr x1), some (.int (0 : Int32))]) (st' := []) (h' := (hX C P vl kp Mo R)) (fun _ => rfl) ?_
  exact kt_46_2 hfz N P vl kp Mo R (d + 1) hd N x1 (0 : Int32) C _ _ hf
set_option maxRecDepth 100000 in
set_option maxHeartbeats 4000000 in
theorem kt_47 {fz : Value} {sc : Nat × (Nat → Int32)} (hfz : fz = .null ∨ fz = .retAddr 60) (N : Nat) (P : Nat → Option Nat) (vl kp : Option Nat) (Mo : Nat → aC) (R : List aC) (d : Nat) (hd : 1 ≤ d) (C : mS) (r : Int32) (C' : mS) (hf : k_47 N P vl R  C = some (r, C')) : v_V fz sc d 47 0 [some (.ref 9), none] [] (hX C P vl kp Mo R) (fun rv h' => rv = some (.int r) ∧ h' = hX C' P vl kp Mo R) := by
  unfold k_47 at hf
  obtain ⟨d, rfl⟩ : ∃ z, d = z + 1 := ⟨d - 1, by omega⟩
  refine v_blk 4 (i' := (bif (a_ic .lt (C 91 10) (48 : Int32)) then 8 else 4)) (L' := [some (.ref 9), none]) (st' := []) (h' := (hX C P vl kp Mo R)) (fun _ => rfl) ?_
  rcases Bool.eq_false_or_eq_true (a_ic .lt (C 91 10) (48 : Int32)) with hb | hb
  · have hf := a_bt hb hf
    refine v_it hb ?_
    obtain ⟨rfl, rfl⟩ := m_rt hf
    exact v_ret 2 (fun _ => rfl) ⟨rfl, rfl⟩
  · have hf := a_be hb hf
    refine v_ie hb ?_
    refine v_blk 4 (i' := (bif (a_ic .le (C 91 10) (50 : Int32)) then 10 else 8)) (L' := [some (.ref 9), none]) (st' := []) (h' := (hX C P vl kp Mo R)) (fun _ => rfl) ?_
    rcases Bool.eq_false_or_eq_true (a_ic .le (C 91 10) (50 : Int32)) with hb | hb
    · have hf := a_bt hb hf
      refine v_it hb ?_
      obtain ⟨r1, C1, hc, hf⟩ := m_bd_ok hf
      refine v_call 7 (k' := 43) (i' := 17) (E := [some (.ref 9)]) (L' := [some (.ref 9), some (.int ((C 91 10) - (48 : Int32)))]) (rest := []) (h1 := (hX C P vl kp Mo R)) (fun _ => rfl) ?_
      refine v_post (kt_43 hfz N P vl kp Mo R d (by omega)  C _ _ hc) ?_
      rintro rv h' ⟨rfl, rfl⟩
      obtain ⟨rfl, rfl⟩ := m_rt hf
      exact v_ret 2 (fun _ => rfl) ⟨rfl, rfl⟩
    · have hf := a_be hb hf
      refine v_ie hb ?_
      obtain ⟨rfl, rfl⟩ := m_rt hf
      exact v_ret 2 (fun _ => rfl) ⟨rfl, rfl⟩
set_option maxRecDepth 100000 in
set_option maxHeartbeats 4000000 in
theorem kt_48 {fz : Value} {sc : Nat × (Nat → Int32)} (hfz : fz = .null ∨ fz = .retAddr 60) (N : Nat) (P : Nat → Option Nat) (vl kp : Option Nat) (Mo : Nat → aC) (R : List aC) (d : Nat) (hd : 1 ≤ d) (C : mS) (r : Int32) (C' : mS) (hf : k_48 N P vl R  C = some (r, C')) : v_V fz sc d 48 0 [some (.ref 9), none] [] (hX C P vl kp Mo R) (fun rv h' => rv = some (.int r) ∧ h' = hX C' P vl kp Mo R) := by
  unfold k_48 at hf
  obtain ⟨d, rfl⟩ : ∃ z, d = z + 1 := ⟨d - 1, by omega⟩
  refine v_blk 4 (i' := (bif (a_ic .lt (C 91 10) (48 : Int32)) then 8 else 4)) (L' := [some (.ref 9), none]) (st' := []) (h' := (hX C P vl kp Mo R)) (fun _ => rfl) ?_
  rcases Bool.eq_false_or_eq_true (a_ic .lt (C 91 10) (48 : Int32)) with hb | hb
  · have hf := a_bt hb hf
    refine v_it hb ?_
    obtain ⟨rfl, rfl⟩ := m_rt hf
    exact v_ret 2 (fun _ => rfl) ⟨rfl, rfl⟩
  · have hf := a_be hb hf
    refine v_ie hb ?_
    refine v_blk 4 (i' := (bif (a_ic .le (C 91 10) (57 : Int32)) then 10 else 8)) (L' := [some (.ref 9), none]) (st' := []) (h' := (hX C P vl kp Mo R)) (fun _ => rfl) ?_
    rcases Bool.eq_false_or_eq_true (a_ic .le (C 91 10) (57 : Int32)) with hb | hb
    · have hf := a_bt hb hf
      refine v_it hb ?_
      obtain ⟨r1, C1, hc, hf⟩ := m_bd_ok hf
      refine v_call 7 (k' := 43) (i' := 17) (E := [some (.ref 9)]) (L' := [some (.ref 9), some (.int ((C 91 10) - (48 : Int32)))]) (rest := []) (h1 := (hX C P vl kp Mo R)) (fun _ => rfl) ?_
      refine v_post (kt_43 hfz N P vl kp Mo R d (by omega)  C _ _ hc) ?_
      rintro rv h' ⟨rfl, rfl⟩
      refine v_blk 2 (i' := (bif (a_ic .eq ((C 91 10) - (48 : Int32)) (0 : Int32)) then 27 else 19)) (L' := [some (.ref 9), some (.int ((C 91 10) - (48 : Int32)))]) (st' := []) (h' := (hX C1 P vl kp Mo R)) (fun _ => rfl) ?_
      rcases Bool.eq_false_or_eq_true (a_ic .eq ((C 91 10) - (48 : Int32)) (0 : Int32)) with hb | hb
      · have hf := a_bt hb hf
        refine v_it hb ?_
        obtain ⟨rfl, rfl⟩ := m_rt hf
        exact v_ret 2 (fun _ => rfl) ⟨rfl, rfl⟩
      · have hf := a_be hb hf
        refine v_ie hb ?_
        refine v_blk 4 (i' := (bif (a_ic .lt (C1 91 10) (48 : Int32)) then 27 else 23)) (L' := [some (.ref 9), some (.int ((C 91 10) - (48 : Int32)))]) (st' := []) (h' := (hX C1 P vl kp Mo R)) (fun _ => rfl) ?_
        rcases Bool.eq_false_or_eq_true (a_ic .lt (C1 91 10) (48 : Int32)) with hb | hb
        · have hf := a_bt hb hf
          refine v_it hb ?_
          obtain ⟨rfl, rfl⟩ := m_rt hf
          exact v_ret 2 (fun _ => rfl) ⟨rfl, rfl⟩
        · have hf := a_be hb hf
          refine v_ie hb ?_
          refine v_blk 4 (i' := (bif (a_ic .le (C1 91 10) (57 : Int32)) then 29 else 27)) (L' := [some (.ref 9), some (.int ((C 91 10) - (48 : Int32)))]) (st' := []) (h' := (hX C1 P vl kp Mo R)) (fun _ => rfl) ?_
          rcases Bool.eq_false_or_eq_true (a_ic .le (C1 91 10) (57 : Int32)) with hb | hb
          · have hf := a_bt hb hf
            refine v_it hb ?_
            obtain ⟨r2, C2, hc, hf⟩ := m_bd_ok hf
            refine v_call 11 (k' := 43) (i' := 40) (E := [some (.ref 9)]) (L' := [some (.ref 9), some (.int (((((C 91 10) - (48 : Int32)) * (10 : Int32)) + (C1 91 10)) - (48 : Int32)))]) (rest := []) (h1 := (hX C1 P vl kp Mo R)) (fun _ => rfl) ?_
            refine v_post (kt_43 hfz N P vl kp Mo R d (by omega)  C1 _ _ hc) ?_
            rintro rv h' ⟨rfl, rfl⟩
            obtain ⟨rfl, rfl⟩ := m_rt hf
            exact v_ret 2 (fun _ => rfl) ⟨rfl, rfl⟩
          · have hf := a_be hb hf
            refine v_ie hb ?_
            obtain ⟨rfl, rfl⟩ := m_rt hf
            exact v_ret 2 (fun _ => rfl) ⟨rfl, rfl⟩
    · have hf := a_be hb hf
      refine v_ie hb ?_
      obtain ⟨rfl, rfl⟩ := m_rt hf
      exact v_ret 2 (fun _ => rfl) ⟨rfl, rfl⟩
set_option maxRecDepth 100000 in
set_option maxHeartbeats 4000000 in
theorem kt_49 {fz : Value} {sc : Nat × (Nat → Int32)} (hfz : fz = .null ∨ fz = .retAddr 60) (N : Nat) (P : Nat → Option Nat) (vl kp : Option Nat) (Mo : Nat → aC) (R : List aC) (d : Nat) (hd : 0 ≤ d) (x1 : Int32) (C : mS) (r : Int32) (C' : mS) (hf : k_49 N P vl R x1 C = some (r, C')) : v_V fz sc d 49 0 [some (.ref 9), some (.int x1)] [] (hX C P vl kp Mo R) (fun rv h' => rv = some (.int r) ∧ h' = hX C' P vl kp Mo R) := by
  unfold k_49 at hf
  refine v_blk 4 (i' := (bif (a_ic .lt (C 91 4) (10 : Int32)) then 6 else 4)) (L' := [some (.ref 9), some (.int x1)]) (st' := []) (h' := (hX C P vl kp Mo R)) (fun _ => rfl) ?_
  rcases Bool.eq_false_or_eq_true (a_ic .lt (C 91 4) (10 : Int32)) with hb | hb
  · have hf := a_bt hb hf
    refine v_it hb ?_
    obtain ⟨hg, hf⟩ := a_bif hf
    refine v_grd 6 (i' := 12) (L' := [some (.ref 9), some (.int x1)]) (st' := []) (h' := (hX (va_up C 8 (upd (C 8) ((C 91 4)).toNatClampNeg x1)) P vl kp Mo R)) (fun _ => rfl) hg ?_
    obtain ⟨C1, hA, hf⟩ := m_st_ok hf
    rw [hA]
    obtain ⟨hg, hf⟩ := a_bif hf
    refine v_grd 7 (i' := 19) (L' := [some (.ref 9), some (.int x1)]) (st' := []) (h' := (hX (va_up C1 7 (upd (C1 7) ((C1 91 4)).toNatClampNeg (C1 91 3))) P vl kp Mo R)) (fun _ => rfl) hg ?_
    obtain ⟨C2, hA, hf⟩ := m_st_ok hf
    rw [hA]
    obtain ⟨rfl, rfl⟩ := m_rt hf
    exact v_ret 8 (fun _ => rfl) ⟨rfl, rfl⟩
  · have hf := a_be hb hf
    refine v_ie hb ?_
    obtain ⟨rfl, rfl⟩ := m_rt hf
    exact v_ret 2 (fun _ => rfl) ⟨rfl, rfl⟩
set_option maxRecDepth 100000 in
set_option maxHeartbeats 4000000 in
theorem kt_54 {fz : Value} {sc : Nat × (Nat → Int32)} (hfz : fz = .null ∨ fz = .retAddr 60) (N : Nat) (P : Nat → Option Nat) (vl kp : Option Nat) (Mo : Nat → aC) (R : List aC) (d : Nat) (hd : 0 ≤ d) (x1 : Int32) (C : mS) (r : Int32) (C' : mS) (hf : k_54 N P vl R x1 C = some (r, C')) : v_V fz sc d 54 0 [some (.ref 9), some (.int x1)] [] (hX C P vl kp Mo R) (fun rv h' => rv = some (.int r) ∧ h' = hX C' P vl kp Mo R) := by
  unfold k_54 at hf
  refine v_blk 4 (i' := (bif (a_ic .lt (C 91 3) (120 : Int32)) then 6 else 4)) (L' := [some (.ref 9), some (.int x1)]) (st' := []) (h' := (hX C P vl kp Mo R)) (fun _ => rfl) ?_
  rcases Bool.eq_false_or_eq_true (a_ic .lt (C 91 3) (120 : Int32)) with hb | hb
  · have hf := a_bt hb hf
    refine v_it hb ?_
    obtain ⟨hg, hf⟩ := a_bif hf
    refine v_grd 6 (i' := 12) (L' := [some (.ref 9), some (.int x1)]) (st' := []) (h' := (hX (va_up C 6 (upd (C 6) ((C 91 3)).toNatClampNeg x1)) P vl kp Mo R)) (fun _ => rfl) hg ?_
    obtain ⟨C1, hA, hf⟩ := m_st_ok hf
    rw [hA]
    obtain ⟨rfl, rfl⟩ := m_rt hf
    exact v_ret 8 (fun _ => rfl) ⟨rfl, rfl⟩
  · have hf := a_be hb hf
    refine v_ie hb ?_
    obtain ⟨rfl, rfl⟩ := m_rt hf
    exact v_ret 2 (fun _ => rfl) ⟨rfl, rfl⟩
set_option maxRecDepth 100000 in
set_option maxHeartbeats 4000000 in
theorem kt_53 {fz : Value} {sc : Nat × (Nat → Int32)} (hfz : fz = .null ∨ fz = .retAddr 60) (N : Nat) (P : Nat → Option Nat) (vl kp : Option Nat) (Mo : Nat → aC) (R : List aC) (d : Nat) (hd : 0 ≤ d) (x0 : Int32) (C : mS) (r : Int32) (C' : mS) (hf : k_53 N P vl R x0 C = some (r, C')) : v_V fz sc d 53 0 [some (.int x0)] [] (hX C P vl kp Mo R) (fun rv h' => rv = some (.int r) ∧ h' = hX C' P vl kp Mo R) := by
  unfold k_53 at hf
  refine v_blk 2 (i' := (a_lsw 12 [(100, 55), (107, 59), (112, 57), (119, 51), (121, 53)] [6, 10, 8, 2, 4] x0)) (L' := [some (.int x0)]) (st' := []) (h' := (hX C P vl kp Mo R)) (fun _ => rfl) ?_
  by_cases hb : (a_lsw 12 [(100, 55), (107, 59), (112, 57), (119, 51), (121, 53)] [6, 10, 8, 2, 4] x0) = 6
  · rw [if_pos hb] at hf
    rw [hb]
    obtain ⟨rfl, rfl⟩ := m_rt hf
    exact v_ret 2 (fun _ => rfl) ⟨rfl, rfl⟩
  rw [if_neg hb] at hf
  by_cases hb : (a_lsw 12 [(100, 55), (107, 59), (112, 57), (119, 51), (121, 53)] [6, 10, 8, 2, 4] x0) = 10
  · rw [if_pos hb] at hf
    rw [hb]
    obtain ⟨rfl, rfl⟩ := m_rt hf
    exact v_ret 2 (fun _ => rfl) ⟨rfl, rfl⟩
  rw [if_neg hb] at hf
  by_cases hb : (a_lsw 12 [(100, 55), (107, 59), (112, 57), (119, 51), (121, 53)] [6, 10, 8, 2, 4] x0) = 8
  · rw [if_pos hb] at hf
    rw [hb]
    obtain ⟨rfl, rfl⟩ := m_rt hf
    exact v_ret 2 (fun _ => rfl) ⟨rfl, rfl⟩
  rw [if_neg hb] at hf
  by_cases hb : (a_lsw 12 [(100, 55), (107, 59), (112, 57), (119, 51), (121, 53)] [6, 10, 8, 2, 4] x0) = 2
  · rw [if_pos hb] at hf
    rw [hb]
    obtain ⟨rfl, rfl⟩ := m_rt hf
    exact v_ret 2 (fun _ => rfl) ⟨rfl, rfl⟩
  rw [if_neg hb] at hf
  by_cases hb : (a_lsw 12 [(100, 55), (107, 59), (112, 57), (119, 51), (121, 53)] [6, 10, 8, 2, 4] x0) = 4
  · rw [if_pos hb] at hf
    rw [hb]
    obtain ⟨rfl, rfl⟩ := m_rt hf
    exact v_ret 2 (fun _ => rfl) ⟨rfl, rfl⟩
  rw [if_neg hb] at hf
  by_cases hb : (a_lsw 12 [(100, 55), (107, 59), (112, 57), (119, 51), (121, 53)] [6, 10, 8, 2, 4] x0) = 12
  · rw [if_pos hb] at hf
    rw [hb]
    obtain ⟨rfl, rfl⟩ := m_rt hf
    exact v_ret 2 (fun _ => rfl) ⟨rfl, rfl⟩
  rw [if_neg hb] at hf
  cases hf
set_option maxRecDepth 100000 in
set_option maxHeartbeats 4000000 in
theorem kt_52 {fz : Value} {sc : Nat × (Nat → Int32)} (hfz : fz = .null ∨ fz = .retAddr 60) (N : Nat) (P : Nat → Option Nat) (vl kp : Option Nat) (Mo : Nat → aC) (R : List aC) (d : Nat) (hd : 2 ≤ d) (C : mS) (r : Int32) (C' : mS) (hf : k_52 N P vl R  C = some (r, C')) : v_V fz sc d 52 0 [some (.ref 9), none, none, none] [] (hX C P vl kp Mo R) (fun rv h' => rv = some (.int r) ∧ h' = hX C' P vl kp Mo R) := by
  unfold k_52 at hf
  obtain ⟨d, rfl⟩ : ∃ z, d = z + 1 := ⟨d - 1, by omega⟩
  obtain ⟨r1, C1, hc, hf⟩ := m_bd_ok hf
  refine v_call 3 (k' := 53) (i' := 3) (E := [some (.int (C 91 10))]) (L' := [some (.ref 9), none, none, none]) (rest := []) (h1 := (hX C P vl kp Mo R)) (fun _ => rfl) ?_
  refine v_post (kt_53 hfz N P vl kp Mo R d (by omega) (C 91 10) C _ _ hc) ?_
  rintro rv h' ⟨rfl, rfl⟩
  refine v_blk 3 (i' := (bif (a_ic .ge r1 (0 : Int32)) then 8 else 6)) (L' := [some (.ref 9), some (.int r1), none, none]) (st' := []) (h' := (hX C1 P vl kp Mo R)) (fun _ => rfl) ?_
  rcases Bool.eq_false_or_eq_true (a_ic .ge r1 (0 : Int32)) with hb | hb
  · have hf := a_bt hb hf
    refine v_it hb ?_
    obtain ⟨r2, C2, hc, hf⟩ := m_bd_ok hf
    refine v_call 2 (k' := 43) (i' := 10) (E := [some (.ref 9)]) (L' := [some (.ref 9), some (.int r1), none, none]) (rest := []) (h1 := (hX C1 P vl kp Mo R)) (fun _ => rfl) ?_
    refine v_post (kt_43 hfz N P vl kp Mo R d (by omega)  C1 _ _ hc) ?_
    rintro rv h' ⟨rfl, rfl⟩
    refine v_blk 4 (i' := (bif (a_ic .lt (C2 91 10) (60 : Int32)) then 18 else 14)) (L' := [some (.ref 9), some (.int r1), none, none]) (st' := []) (h' := (hX C2 P vl kp Mo R)) (fun _ => rfl) ?_
    rcases Bool.eq_false_or_eq_true (a_ic .lt (C2 91 10) (60 : Int32)) with hb | hb
    · have hf := a_bt hb hf
      refine v_it hb ?_
      obtain ⟨rfl, rfl⟩ := m_rt hf
      exact v_ret 2 (fun _ => rfl) ⟨rfl, rfl⟩
    · have hf := a_be hb hf
      refine v_ie hb ?_
      refine v_blk 4 (i' := (bif (a_ic .le (C2 91 10) (62 : Int32)) then 20 else 18)) (L' := [some (.ref 9), some (.int r1), none, none]) (st' := []) (h' := (hX C2 P vl kp Mo R)) (fun _ => rfl) ?_
      rcases Bool.eq_false_or_eq_true (a_ic .le (C2 91 10) (62 : Int32)) with hb | hb
      · have hf := a_bt hb hf
        refine v_it hb ?_
        obtain ⟨r3, C3, hc, hf⟩ := m_bd_ok hf
        refine v_call 7 (k' := 43) (i' := 27) (E := [some (.ref 9)]) (L' := [some (.ref 9), some (.int r1), some (.int ((C2 91 10) - (60 : Int32))), none]) (rest := []) (h1 := (hX C2 P vl kp Mo R)) (fun _ => rfl) ?_
        refine v_post (kt_43 hfz N P vl kp Mo R d (by omega)  C2 _ _ hc) ?_
        rintro rv h' ⟨rfl, rfl⟩
        obtain ⟨r4, C4, hc, hf⟩ := m_bd_ok hf
        refine v_call 2 (k' := 48) (i' := 29) (E := [some (.ref 9), none]) (L' := [some (.ref 9), some (.int r1), some (.int ((C2 91 10) - (60 : Int32))), none]) (rest := []) (h1 := (hX C3 P vl kp Mo R)) (fun _ => rfl) ?_
        refine v_post (kt_48 hfz N P vl kp Mo R d (by omega)  C3 _ _ hc) ?_
        rintro rv h' ⟨rfl, rfl⟩
        refine v_blk 3 (i' := (bif (a_ic .lt r4 (0 : Int32)) then 46 else 32)) (L' := [some (.ref 9), some (.int r1), some (.int ((C2 91 10) - (60 : Int32))), some (.int r4)]) (st' := []) (h' := (hX C4 P vl kp Mo R)) (fun _ => rfl) ?_
        rcases Bool.eq_false_or_eq_true (a_ic .lt r4 (0 : Int32)) with hb | hb
        · have hf := a_bt hb hf
          refine v_it hb ?_
          obtain ⟨rfl, rfl⟩ := m_rt hf
          exact v_ret 2 (fun _ => rfl) ⟨rfl, rfl⟩
        · have hf := a_be hb hf
          refine v_ie hb ?_
          obtain ⟨r5, C5, hc, hf⟩ := m_bd_ok hf
          refine v_call 11 (k' := 54) (i' := 43) (E := [some (.ref 9), some (.int ((((r1 * (3 : Int32)) + ((C2 91 10) - (60 : Int32))) * (100 : Int32)) + r4))]) (L' := [some (.ref 9), some (.int r1), some (.int ((C2 91 10) - (60 : Int32))), some (.int r4)]) (rest := []) (h1 := (hX C4 P vl kp Mo R)) (fun _ => rfl) ?_
          refine v_post (kt_54 hfz N P vl kp Mo R d (by omega) ((((r1 * (3 : Int32)) + ((C2 91 10) - (60 : Int32))) * (100 : Int32)) + r4) C4 _ _ hc) ?_
          rintro rv h' ⟨rfl, rfl⟩
          refine v_blk 1 (i' := (bif (a_ic .eq r5 (0 : Int32)) then 46 else 44)) (L' := [some (.ref 9), some (.int r1), some (.int ((C2 91 10) - (60 : Int32))), some (.int r4)]) (st' := []) (h' := (hX C5 P vl kp Mo R)) (fun _ => rfl) ?_
          rcases Bool.eq_false_or_eq_true (a_ic .eq r5 (0 : Int32)) with hb | hb
          · have hf := a_bt hb hf
            refine v_it hb ?_
            obtain ⟨rfl, rfl⟩ := m_rt hf
            exact v_ret 2 (fun _ => rfl) ⟨rfl, rfl⟩
          · have hf := a_be hb hf
            refine v_ie hb ?_
            obtain ⟨rfl, rfl⟩ := m_rt hf
            exact v_ret 3 (fun _ => rfl) ⟨rfl, rfl⟩
      · have hf := a_be hb hf
        refine v_ie hb ?_
        obtain ⟨rfl, rfl⟩ := m_rt hf
        exact v_ret 2 (fun _ => rfl) ⟨rfl, rfl⟩
  · have hf := a_be hb hf
    refine v_ie hb ?_
    obtain ⟨rfl, rfl⟩ := m_rt hf
    exact v_ret 2 (fun _ => rfl) ⟨rfl, rfl⟩
set_option maxRecDepth 100000 in
set_option maxHeartbeats 4000000 in
theorem kt_50_55 {fz : Value} {sc : Nat × (Nat → Int32)} (hfz : fz = .null ∨ fz = .retAddr 60) (N : Nat) (P : Nat → Option Nat) (vl kp : Option Nat) (Mo : Nat → aC) (R : List aC) (rf : Int32 → mS → Option (Int32 × mS)) (D : Nat) (hD : 10 ≤ D) (hrf : ∀ (d : Nat) (x1 : Int32) (C : mS) (r : Int32) (C' : mS), D ≤ d → rf x1 C = some (r, C') → v_V fz sc d 51 0 [some (.ref 9), some (.int x1), none] [] (hX C P vl kp Mo R) (fun rv h' => rv = some (.int r) ∧ h' = hX C' P vl kp Mo R)) (d : Nat) (hd : D + 1 ≤ d) (rc6 : Int32 → Int32 → Int32 → Int32 → mS → Option (Int32 × mS)) (hrc6 : ∀ (x1 : Int32) (x2 : Int32) (x3 : Int32) (x4 : Int32) (C : mS) (r : Int32) (C' : mS), rc6 x1 x2 x3 x4 C = some (r, C') → v_V fz sc d 50 6 [some (.ref 9), some (.int x1), some (.int x2), some (.int x3), some (.int x4)] [] (hX C P vl kp Mo R) (fun rv h' => rv = some (.int r) ∧ h' = hX C' P vl kp Mo R)) (x1 : Int32) (x2 : Int32) (x3 : Int32) (x4 : Int32) (C : mS) (r : Int32) (C' : mS) (hf : k_50_55 N P vl R rf rc6 x1 x2 x3 x4 C = some (r, C')) : v_V fz sc d 50 55 [some (.ref 9), some (.int x1), some (.int x2), some (.int x3), some (.int x4)] [] (hX C P vl kp Mo R) (fun rv h' => rv = some (.int r) ∧ h' = hX C' P vl kp Mo R) := by
  unfold k_50_55 at hf
  obtain ⟨d, rfl⟩ : ∃ z, d = z + 1 := ⟨d - 1, by omega⟩
  obtain ⟨r4, C4, hc, hf⟩ := m_bd_ok hf
  refine v_call 2 (k' := 43) (i' := 57) (E := [some (.ref 9)]) (L' := [some (.ref 9), some (.int x1), some (.int x2), some (.int x3), some (.int x4)]) (rest := []) (h1 := (hX C P vl kp Mo R)) (fun _ => rfl) ?_
  refine v_post (kt_43 hfz N P vl kp Mo R d (by omega)  C _ _ hc) ?_
  rintro rv h' ⟨rfl, rfl⟩
  refine v_blk 2 (i' := 6) (L' := [some (.ref 9), some (.int x1), some (.int x2), some (.int x3), some (.int (x4 + (1 : Int32)))]) (st' := []) (h' := (hX C4 P vl kp Mo R)) (fun _ => rfl) ?_
  exact hrc6 x1 x2 x3 (x4 + (1 : Int32)) C4 _ _ hf
set_option maxRecDepth 100000 in
set_option maxHeartbeats 4000000 in
theorem kt_50_48 {fz : Value} {sc : Nat × (Nat → Int32)} (hfz : fz = .null ∨ fz = .retAddr 60) (N : Nat) (P : Nat → Option Nat) (vl kp : Option Nat) (Mo : Nat → aC) (R : List aC) (rf : Int32 → mS → Option (Int32 × mS)) (D : Nat) (hD : 10 ≤ D) (hrf : ∀ (d : Nat) (x1 : Int32) (C : mS) (r : Int32) (C' : mS), D ≤ d → rf x1 C = some (r, C') → v_V fz sc d 51 0 [some (.ref 9), some (.int x1), none] [] (hX C P vl kp Mo R) (fun rv h' => rv = some (.int r) ∧ h' = hX C' P vl kp Mo R)) (d : Nat) (hd : D + 1 ≤ d) (rc6 : Int32 → Int32 → Int32 → Int32 → mS → Option (Int32 × mS)) (hrc6 : ∀ (x1 : Int32) (x2 : Int32) (x3 : Int32) (x4 : Int32) (C : mS) (r : Int32) (C' : mS), rc6 x1 x2 x3 x4 C = some (r, C') → v_V fz sc d 50 6 [some (.ref 9), some (.int x1), some (.int x2), some (.int x3), some (.int x4)] [] (hX C P vl kp Mo R) (fun rv h' => rv = some (.int r) ∧ h' = hX C' P vl kp Mo R)) (x1 : Int32) (x2 : Int32) (x4 : Int32) (t0 : Int32) (C : mS) (r : Int32) (C' : mS) (hf : k_50_48 N P vl R rf rc6 x1 x2 x4 t0 C = some (r, C')) : v_V fz sc d 50 48 [some (.ref 9), some (.int x1), some (.int x2), none, some (.int x4)] [(.int t0)] (hX C P vl kp Mo R) (fun rv h' => rv = some (.int r) ∧ h' = hX C' P vl kp Mo R) := by
  unfold k_50_48 at hf
  obtain ⟨d, rfl⟩ : ∃ z, d = z + 1 := ⟨d - 1, by omega⟩
  refine v_blk 3 (i' := (bif (a_ic .ne x2 (0 : Int32)) then 55 else 51)) (L' := [some (.ref 9), some (.int x1), some (.int x2), some (.int t0), some (.int x4)]) (st' := []) (h' := (hX C P vl kp Mo R)) (fun _ => rfl) ?_
  rcases Bool.eq_false_or_eq_true (a_ic .ne x2 (0 : Int32)) with hb | hb
  · have hf := a_bt hb hf
    refine v_it hb ?_
    exact kt_50_55 hfz N P vl kp Mo R rf D hD hrf (d + 1) hd rc6 hrc6 x1 x2 t0 x4 C _ _ hf
  · have hf := a_be hb hf
    refine v_ie hb ?_
    refine v_blk 2 (i' := (bif (a_ic .ne t0 (0 : Int32)) then 55 else 53)) (L' := [some (.ref 9), some (.int x1), some (.int x2), some (.int t0), some (.int x4)]) (st' := []) (h' := (hX C P vl kp Mo R)) (fun _ => rfl) ?_
    rcases Bool.eq_false_or_eq_true (a_ic .ne t0 (0 : Int32)) with hb | hb
    · have hf := a_bt hb hf
      refine v_it hb ?_
      exact kt_50_55 hfz N P vl kp Mo R rf D hD hrf (d + 1) hd rc6 hrc6 x1 x2 t0 x4 C _ _ hf
    · have hf := a_be hb hf
      refine v_ie hb ?_
      obtain ⟨rfl, rfl⟩ := m_rt hf
      exact v_ret 2 (fun _ => rfl) ⟨rfl, rfl⟩
set_option maxRecDepth 100000 in
set_option maxHeartbeats 4000000 in
theorem kt_50_37 {fz : Value} {sc : Nat × (Nat → Int32)} (hfz : fz = .null ∨ fz = .retAddr 60) (N : Nat) (P : Nat → Option Nat) (vl kp : Option Nat) (Mo : Nat → aC) (R : List aC) (rf : Int32 → mS → Option (Int32 × mS)) (D : Nat) (hD : 10 ≤ D) (hrf : ∀ (d : Nat) (x1 : Int32) (C : mS) (r : Int32) (C' : mS), D ≤ d → rf x1 C = some (r, C') → v_V fz sc d 51 0 [some (.ref 9), some (.int x1), none] [] (hX C P vl kp Mo R) (fun rv h' => rv = some (.int r) ∧ h' = hX C' P vl kp Mo R)) (d : Nat) (hd : D + 1 ≤ d) (rc6 : Int32 → Int32 → Int32 → Int32 → mS → Option (Int32 × mS)) (hrc6 : ∀ (x1 : Int32) (x2 : Int32) (x3 : Int32) (x4 : Int32) (C : mS) (r : Int32) (C' : mS), rc6 x1 x2 x3 x4 C = some (r, C') → v_V fz sc d 50 6 [some (.ref 9), some (.int x1), some (.int x2), some (.int x3), some (.int x4)] [] (hX C P vl kp Mo R) (fun rv h' => rv = some (.int r) ∧ h' = hX C' P vl kp Mo R)) (x1 : Int32) (x2 : Int32) (x3 : Int32) (x4 : Int32) (C : mS) (r : Int32) (C' : mS) (hf : k_50_37 N P vl R rf rc6 x1 x2 x3 x4 C = some (r, C')) : v_V fz sc d 50 37 [some (.ref 9), some (.int x1), some (.int x2), some (.int x3), some (.int x4)] [] (hX C P vl kp Mo R) (fun rv h' => rv = some (.int r) ∧ h' = hX C' P vl kp Mo R) := by
  unfold k_50_37 at hf
  obtain ⟨d, rfl⟩ : ∃ z, d = z + 1 := ⟨d - 1, by omega⟩
  refine v_blk 2 (i' := (bif (a_ic .eq x2 (0 : Int32)) then 41 else 39)) (L' := [some (.ref 9), some (.int x1), some (.int x2), some (.int x3), some (.int x4)]) (st' := []) (h' := (hX C P vl kp Mo R)) (fun _ => rfl) ?_
  rcases Bool.eq_false_or_eq_true (a_ic .eq x2 (0 : Int32)) with hb | hb
  · have hf := a_bt hb hf
    refine v_it hb ?_
    refine v_blk 4 (i' := (bif (a_ic .ne (C 91 10) (124 : Int32)) then 47 else 45)) (L' := [some (.ref 9), some (.int x1), some (.int x2), some (.int x3), some (.int x4)]) (st' := []) (h' := (hX C P vl kp Mo R)) (fun _ => rfl) ?_
    rcases Bool.eq_false_or_eq_true (a_ic .ne (C 91 10) (124 : Int32)) with hb | hb
    · have hf := a_bt hb hf
      refine v_it hb ?_
      refine v_blk 1 (i' := 48) (L' := [some (.ref 9), some (.int x1), some (.int x2), some (.int x3), some (.int x4)]) (st' := [(.int (0 : Int32))]) (h' := (hX C P vl kp Mo R)) (fun _ => rfl) ?_
      refine v_weak (L' := [some (.ref 9), some (.int x1), some (.int x2), none, some (.int x4)]) (show a_wk [some (.ref 9), some (.int x1), some (.int x2), none, some (.int x4)] [some (.ref 9), some (.int x1), some (.int x2), some (.int x3), some (.int x4)] from ⟨rfl, ⟨rfl, ⟨rfl, ⟨(fun v hv => by cases hv; rfl), ⟨rfl, trivial⟩⟩⟩⟩⟩) ?_
      exact kt_50_48 hfz N P vl kp Mo R rf D hD hrf (d + 1) hd rc6 hrc6 x1 x2 x4 (0 : Int32) C _ _ hf
    · have hf := a_be hb hf
      refine v_ie hb ?_
      refine v_blk 2 (i' := 48) (L' := [some (.ref 9), some (.int x1), some (.int x2), some (.int x3), some (.int x4)]) (st' := [(.int (1 : Int32))]) (h' := (hX C P vl kp Mo R)) (fun _ => rfl) ?_
      refine v_weak (L' := [some (.ref 9), some (.int x1), some (.int x2), none, some (.int x4)]) (show a_wk [some (.ref 9), some (.int x1), some (.int x2), none, some (.int x4)] [some (.ref 9), some (.int x1), some (.int x2), some (.int x3), some (.int x4)] from ⟨rfl, ⟨rfl, ⟨rfl, ⟨(fun v hv => by cases hv; rfl), ⟨rfl, trivial⟩⟩⟩⟩⟩) ?_
      exact kt_50_48 hfz N P vl kp Mo R rf D hD hrf (d + 1) hd rc6 hrc6 x1 x2 x4 (1 : Int32) C _ _ hf
  · have hf := a_be hb hf
    refine v_ie hb ?_
    refine v_blk 2 (i' := 48) (L' := [some (.ref 9), some (.int x1), some (.int x2), some (.int x3), some (.int x4)]) (st' := [(.int x3)]) (h' := (hX C P vl kp Mo R)) (fun _ => rfl) ?_
    refine v_weak (L' := [some (.ref 9), some (.int x1), some (.int x2), none, some (.int x4)]) (show a_wk [some (.ref 9), some (.int x1), some (.int x2), none, some (.int x4)] [some (.ref 9), some (.int x1), some (.int x2), some (.int x3), some (.int x4)] from ⟨rfl, ⟨rfl, ⟨rfl, ⟨(fun v hv => by cases hv; rfl), ⟨rfl, trivial⟩⟩⟩⟩⟩) ?_
    exact kt_50_48 hfz N P vl kp Mo R rf D hD hrf (d + 1) hd rc6 hrc6 x1 x2 x4 x3 C _ _ hf
set_option maxRecDepth 100000 in
set_option maxHeartbeats 4000000 in
theorem kt_50_28 {fz : Value} {sc : Nat × (Nat → Int32)} (hfz : fz = .null ∨ fz = .retAddr 60) (N : Nat) (P : Nat → Option Nat) (vl kp : Option Nat) (Mo : Nat → aC) (R : List aC) (rf : Int32 → mS → Option (Int32 × mS)) (D : Nat) (hD : 10 ≤ D) (hrf : ∀ (d : Nat) (x1 : Int32) (C : mS) (r : Int32) (C' : mS), D ≤ d → rf x1 C = some (r, C') → v_V fz sc d 51 0 [some (.ref 9), some (.int x1), none] [] (hX C P vl kp Mo R) (fun rv h' => rv = some (.int r) ∧ h' = hX C' P vl kp Mo R)) (d : Nat) (hd : D + 1 ≤ d) (rc6 : Int32 → Int32 → Int32 → Int32 → mS → Option (Int32 × mS)) (hrc6 : ∀ (x1 : Int32) (x2 : Int32) (x3 : Int32) (x4 : Int32) (C : mS) (r : Int32) (C' : mS), rc6 x1 x2 x3 x4 C = some (r, C') → v_V fz sc d 50 6 [some (.ref 9), some (.int x1), some (.int x2), some (.int x3), some (.int x4)] [] (hX C P vl kp Mo R) (fun rv h' => rv = some (.int r) ∧ h' = hX C' P vl kp Mo R)) (x1 : Int32) (x3 : Int32) (x4 : Int32) (t0 : Int32) (C : mS) (r : Int32) (C' : mS) (hf : k_50_28 N P vl R rf rc6 x1 x3 x4 t0 C = some (r, C')) : v_V fz sc d 50 28 [some (.ref 9), some (.int x1), none, some (.int x3), some (.int x4)] [(.int t0)] (hX C P vl kp Mo R) (fun rv h' => rv = some (.int r) ∧ h' = hX C' P vl kp Mo R) := by
  unfold k_50_28 at hf
  obtain ⟨d, rfl⟩ : ∃ z, d = z + 1 := ⟨d - 1, by omega⟩
  refine v_blk 3 (i' := (bif (a_ic .ne t0 (0 : Int32)) then 37 else 31)) (L' := [some (.ref 9), some (.int x1), some (.int t0), some (.int x3), some (.int x4)]) (st' := []) (h' := (hX C P vl kp Mo R)) (fun _ => rfl) ?_
  rcases Bool.eq_false_or_eq_true (a_ic .ne t0 (0 : Int32)) with hb | hb
  · have hf := a_bt hb hf
    refine v_it hb ?_
    exact kt_50_37 hfz N P vl kp Mo R rf D hD hrf (d + 1) hd rc6 hrc6 x1 t0 x3 x4 C _ _ hf
  · have hf := a_be hb hf
    refine v_ie hb ?_
    refine v_blk 2 (i' := (bif (a_ic .eq x3 (0 : Int32)) then 37 else 33)) (L' := [some (.ref 9), some (.int x1), some (.int t0), some (.int x3), some (.int x4)]) (st' := []) (h' := (hX C P vl kp Mo R)) (fun _ => rfl) ?_
    rcases Bool.eq_false_or_eq_true (a_ic .eq x3 (0 : Int32)) with hb | hb
    · have hf := a_bt hb hf
      refine v_it hb ?_
      exact kt_50_37 hfz N P vl kp Mo R rf D hD hrf (d + 1) hd rc6 hrc6 x1 t0 x3 x4 C _ _ hf
    · have hf := a_be hb hf
      refine v_ie hb ?_
      obtain ⟨r3, C3, hc, hf⟩ := m_bd_ok hf
      refine v_call 3 (k' := 54) (i' := 36) (E := [some (.ref 9), some (.int (-3 : Int32))]) (L' := [some (.ref 9), some (.int x1), some (.int t0), some (.int x3), some (.int x4)]) (rest := []) (h1 := (hX C P vl kp Mo R)) (fun _ => rfl) ?_
      refine v_post (kt_54 hfz N P vl kp Mo R d (by omega) (-3 : Int32) C _ _ hc) ?_
      rintro rv h' ⟨rfl, rfl⟩
      refine v_blk 1 (i' := 37) (L' := [some (.ref 9), some (.int x1), some (.int t0), some (.int x3), some (.int x4)]) (st' := []) (h' := (hX C3 P vl kp Mo R)) (fun _ => rfl) ?_
      exact kt_50_37 hfz N P vl kp Mo R rf D hD hrf (d + 1) hd rc6 hrc6 x1 t0 x3 x4 C3 _ _ hf
set_option maxRecDepth 100000 in
set_option maxHeartbeats 4000000 in
theorem kt_50_21 {fz : Value} {sc : Nat × (Nat → Int32)} (hfz : fz = .null ∨ fz = .retAddr 60) (N : Nat) (P : Nat → Option Nat) (vl kp : Option Nat) (Mo : Nat → aC) (R : List aC) (rf : Int32 → mS → Option (Int32 × mS)) (D : Nat) (hD : 10 ≤ D) (hrf : ∀ (d : Nat) (x1 : Int32) (C : mS) (r : Int32) (C' : mS), D ≤ d → rf x1 C = some (r, C') → v_V fz sc d 51 0 [some (.ref 9), some (.int x1), none] [] (hX C P vl kp Mo R) (fun rv h' => rv = some (.int r) ∧ h' = hX C' P vl kp Mo R)) (d : Nat) (hd : D + 1 ≤ d) (rc6 : Int32 → Int32 → Int32 → Int32 → mS → Option (Int32 × mS)) (hrc6 : ∀ (x1 : Int32) (x2 : Int32) (x3 : Int32) (x4 : Int32) (C : mS) (r : Int32) (C' : mS), rc6 x1 x2 x3 x4 C = some (r, C') → v_V fz sc d 50 6 [some (.ref 9), some (.int x1), some (.int x2), some (.int x3), some (.int x4)] [] (hX C P vl kp Mo R) (fun rv h' => rv = some (.int r) ∧ h' = hX C' P vl kp Mo R)) (x1 : Int32) (x3 : Int32) (x4 : Int32) (C : mS) (r : Int32) (C' : mS) (hf : k_50_21 N P vl R rf rc6 x1 x3 x4 C = some (r, C')) : v_V fz sc d 50 21 [some (.ref 9), some (.int x1), none, some (.int x3), some (.int x4)] [] (hX C P vl kp Mo R) (fun rv h' => rv = some (.int r) ∧ h' = hX C' P vl kp Mo R) := by
  unfold k_50_21 at hf
  obtain ⟨d, rfl⟩ : ∃ z, d = z + 1 := ⟨d - 1, by omega⟩
  refine v_blk 4 (i' := (bif (a_ic .ne (C 91 10) (38 : Int32)) then 27 else 25)) (L' := [some (.ref 9), some (.int x1), none, some (.int x3), some (.int x4)]) (st' := []) (h' := (hX C P vl kp Mo R)) (fun _ => rfl) ?_
  rcases Bool.eq_false_or_eq_true (a_ic .ne (C 91 10) (38 : Int32)) with hb | hb
  · have hf := a_bt hb hf
    refine v_it hb ?_
    refine v_blk 1 (i' := 28) (L' := [some (.ref 9), some (.int x1), none, some (.int x3), some (.int x4)]) (st' := [(.int (0 : Int32))]) (h' := (hX C P vl kp Mo R)) (fun _ => rfl) ?_
    exact kt_50_28 hfz N P vl kp Mo R rf D hD hrf (d + 1) hd rc6 hrc6 x1 x3 x4 (0 : Int32) C _ _ hf
  · have hf := a_be hb hf
    refine v_ie hb ?_
    refine v_blk 2 (i' := 28) (L' := [some (.ref 9), some (.int x1), none, some (.int x3), some (.int x4)]) (st' := [(.int (1 : Int32))]) (h' := (hX C P vl kp Mo R)) (fun _ => rfl) ?_
    exact kt_50_28 hfz N P vl kp Mo R rf D hD hrf (d + 1) hd rc6 hrc6 x1 x3 x4 (1 : Int32) C _ _ hf
set_option maxRecDepth 100000 in
set_option maxHeartbeats 4000000 in
theorem kt_50_6b {fz : Value} {sc : Nat × (Nat → Int32)} (hfz : fz = .null ∨ fz = .retAddr 60) (N : Nat) (P : Nat → Option Nat) (vl kp : Option Nat) (Mo : Nat → aC) (R : List aC) (rf : Int32 → mS → Option (Int32 × mS)) (D : Nat) (hD : 10 ≤ D) (hrf : ∀ (d : Nat) (x1 : Int32) (C : mS) (r : Int32) (C' : mS), D ≤ d → rf x1 C = some (r, C') → v_V fz sc d 51 0 [some (.ref 9), some (.int x1), none] [] (hX C P vl kp Mo R) (fun rv h' => rv = some (.int r) ∧ h' = hX C' P vl kp Mo R)) (d : Nat) (hd : D + 1 ≤ d) (rc6 : Int32 → Int32 → Int32 → Int32 → mS → Option (Int32 × mS)) (hrc6 : ∀ (x1 : Int32) (x2 : Int32) (x3 : Int32) (x4 : Int32) (C : mS) (r : Int32) (C' : mS), rc6 x1 x2 x3 x4 C = some (r, C') → v_V fz sc d 50 6 [some (.ref 9), some (.int x1), some (.int x2), some (.int x3), some (.int x4)] [] (hX C P vl kp Mo R) (fun rv h' => rv = some (.int r) ∧ h' = hX C' P vl kp Mo R)) (x1 : Int32) (x2 : Int32) (x3 : Int32) (x4 : Int32) (C : mS) (r : Int32) (C' : mS) (hf : k_50_6b N P vl R rf rc6 x1 x2 x3 x4 C = some (r, C')) : v_V fz sc d 50 6 [some (.ref 9), some (.int x1), some (.int x2), some (.int x3), some (.int x4)] [] (hX C P vl kp Mo R) (fun rv h' => rv = some (.int r) ∧ h' = hX C' P vl kp Mo R) := by
  unfold k_50_6b at hf
  obtain ⟨d, rfl⟩ : ∃ z, d = z + 1 := ⟨d - 1, by omega⟩
  refine v_blk 3 (i' := (bif (a_ic .ge x4 (120 : Int32)) then 59 else 9)) (L' := [some (.ref 9), some (.int x1), some (.int x2), some (.int x3), some (.int x4)]) (st' := []) (h' := (hX C P vl kp Mo R)) (fun _ => rfl) ?_
  rcases Bool.eq_false_or_eq_true (a_ic .ge x4 (120 : Int32)) with hb | hb
  · have hf := a_bt hb hf
    refine v_it hb ?_
    obtain ⟨rfl, rfl⟩ := m_rt hf
    exact v_ret 2 (fun _ => rfl) ⟨rfl, rfl⟩
  · have hf := a_be hb hf
    refine v_ie hb ?_
    obtain ⟨r1, C1, hc, hf⟩ := m_bd_ok hf
    refine v_call 3 (k' := 51) (i' := 12) (E := [some (.ref 9), some (.int x1), none]) (L' := [some (.ref 9), some (.int x1), some (.int x2), some (.int x3), some (.int x4)]) (rest := []) (h1 := (hX C P vl kp Mo R)) (fun _ => rfl) ?_
    refine v_post (hrf d _ _ _ _ (by omega) hc) ?_
    rintro rv h' ⟨rfl, rfl⟩
    refine v_blk 1 (i' := (bif (a_ic .ne r1 (0 : Int32)) then 15 else 13)) (L' := [some (.ref 9), some (.int x1), some (.int x2), some (.int x3), some (.int x4)]) (st' := []) (h' := (hX C1 P vl kp Mo R)) (fun _ => rfl) ?_
    rcases Bool.eq_false_or_eq_true (a_ic .ne r1 (0 : Int32)) with hb | hb
    · have hf := a_bt hb hf
      refine v_it hb ?_
      refine v_blk 2 (i' := (bif (a_ic .eq x2 (0 : Int32)) then 21 else 17)) (L' := [some (.ref 9), some (.int x1), some (.int x2), some (.int x3), some (.int x4)]) (st' := []) (h' := (hX C1 P vl kp Mo R)) (fun _ => rfl) ?_
      rcases Bool.eq_false_or_eq_true (a_ic .eq x2 (0 : Int32)) with hb | hb
      · have hf := a_bt hb hf
        refine v_it hb ?_
        refine v_weak (L' := [some (.ref 9), some (.int x1), none, some (.int x3), some (.int x4)]) (show a_wk [some (.ref 9), some (.int x1), none, some (.int x3), some (.int x4)] [some (.ref 9), some (.int x1), some (.int x2), some (.int x3), some (.int x4)] from ⟨rfl, ⟨rfl, ⟨(fun v hv => by cases hv; rfl), ⟨rfl, ⟨rfl, trivial⟩⟩⟩⟩⟩) ?_
        exact kt_50_21 hfz N P vl kp Mo R rf D hD hrf (d + 1) hd rc6 hrc6 x1 x3 x4 C1 _ _ hf
      · have hf := a_be hb hf
        refine v_ie hb ?_
        obtain ⟨r2, C2, hc, hf⟩ := m_bd_ok hf
        refine v_call 3 (k' := 54) (i' := 20) (E := [some (.ref 9), some (.int (-2 : Int32))]) (L' := [some (.ref 9), some (.int x1), some (.int x2), some (.int x3), some (.int x4)]) (rest := []) (h1 := (hX C1 P vl kp Mo R)) (fun _ => rfl) ?_
        refine v_post (kt_54 hfz N P vl kp Mo R d (by omega) (-2 : Int32) C1 _ _ hc) ?_
        rintro rv h' ⟨rfl, rfl⟩
        refine v_blk 1 (i' := 21) (L' := [some (.ref 9), some (.int x1), some (.int x2), some (.int x3), some (.int x4)]) (st' := []) (h' := (hX C2 P vl kp Mo R)) (fun _ => rfl) ?_
        refine v_weak (L' := [some (.ref 9), some (.int x1), none, some (.int x3), some (.int x4)]) (show a_wk [some (.ref 9), some (.int x1), none, some (.int x3), some (.int x4)] [some (.ref 9), some (.int x1), some (.int x2), some (.int x3), some (.int x4)] from ⟨rfl, ⟨rfl, ⟨(fun v hv => by cases hv; rfl), ⟨rfl, ⟨rfl, trivial⟩⟩⟩⟩⟩) ?_
        exact kt_50_21 hfz N P vl kp Mo R rf D hD hrf (d + 1) hd rc6 hrc6 x1 x3 x4 C2 _ _ hf
    · have hf := a_be hb hf
      refine v_ie hb ?_
      obtain ⟨rfl, rfl⟩ := m_rt hf
      exact v_ret 2 (fun _ => rfl) ⟨rfl, rfl⟩
theorem kt_50_6 {fz : Value} {sc : Nat × (Nat → Int32)} (hfz : fz = .null ∨ fz = .retAddr 60) (N : Nat) (P : Nat → Option Nat) (vl kp : Option Nat) (Mo : Nat → aC) (R : List aC) (rf : Int32 → mS → Option (Int32 × mS)) (D : Nat) (hD : 10 ≤ D) (hrf : ∀ (d : Nat) (x1 : Int32) (C : mS) (r : Int32) (C' : mS), D ≤ d → rf x1 C = some (r, C') → v_V fz sc d 51 0 [some (.ref 9), some (.int x1), none] [] (hX C P vl kp Mo R) (fun rv h' => rv = some (.int r) ∧ h' = hX C' P vl kp Mo R)) (d : Nat) (hd : D + 1 ≤ d) : ∀ (n : Nat) (x1 : Int32) (x2 : Int32) (x3 : Int32) (x4 : Int32) (C : mS) (r : Int32) (C' : mS) (hf : k_50_6 N P vl R rf n x1 x2 x3 x4 C = some (r, C')), v_V fz sc d 50 6 [some (.ref 9), some (.int x1), some (.int x2), some (.int x3), some (.int x4)] [] (hX C P vl kp Mo R) (fun rv h' => rv = some (.int r) ∧ h' = hX C' P vl kp Mo R) := by
  intro n
  induction n with
  | zero => intro x1 x2 x3 x4 C r C' hf; cases hf
  | succ n ih =>
    intro x1 x2 x3 x4 C r C' hf
    exact kt_50_6b hfz N P vl kp Mo R rf D hD hrf d hd (k_50_6 N P vl R rf n) ih x1 x2 x3 x4 C r C' hf
