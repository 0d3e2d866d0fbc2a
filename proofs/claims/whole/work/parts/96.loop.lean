/-! 96.loop: the law's loop; all that is owed -/
theorem hX_hz (C A : mS) (P : Nat → Option Nat) (vl kp : Option Nat) (R : List aC) : a_hz (hX C P vl kp (moA A) R) ≤ 10000 + a_hz R := by
  unfold hX a_hz
  simp only [List.map_cons, List.sum_cons]
  show 8 + (17 + (120 + (12 + (8 + (8 + (32 + (20 + (12 + (11 + (120 + (10 + (10 + (10 + (8 + (32 + (4 + (5 + (21 + (8 + (32 + (36 + (25 + (947 + (947 + (11 + (5 + (64 + (32 + (4 + (36 + (8 + (20 + (List.map a_sz R).sum)))))))))))))))))))))))))))))))) ≤ _
  omega
section LO
variable {fz : Value} {L : Nat} {xs : Nat → Int32}
def LQ : Option Value → List aC → Prop := fun r h => r = some (.int 1) ∧ h.length ≤ 600000 ∧ a_hz h ≤ 7302250
theorem tsw26 (y : Int32) : (∃ q, q < 26 ∧ y = Int32.ofNat q) ∨ a_tsw 0 25 545 [22, 39, 46, 63, 80, 117, 154, 181, 188, 205, 232, 259, 286, 303, 320, 337, 364, 391, 409, 426, 433, 470, 487, 514, 521, 528] y = 545 := by
  by_cases c : 0 ≤ y.toInt ∧ y.toInt < (26 : Nat)
  · exact .inl (o_ex c.1 c.2)
  · right
    unfold a_tsw
    rw [if_pos (by omega)]
theorem ts_0 : a_tsw 0 25 545 [22, 39, 46, 63, 80, 117, 154, 181, 188, 205, 232, 259, 286, 303, 320, 337, 364, 391, 409, 426, 433, 470, 487, 514, 521, 528] (Int32.ofNat 0) = 22 := by decide
theorem ts_1 : a_tsw 0 25 545 [22, 39, 46, 63, 80, 117, 154, 181, 188, 205, 232, 259, 286, 303, 320, 337, 364, 391, 409, 426, 433, 470, 487, 514, 521, 528] (Int32.ofNat 1) = 39 := by decide
theorem ts_2 : a_tsw 0 25 545 [22, 39, 46, 63, 80, 117, 154, 181, 188, 205, 232, 259, 286, 303, 320, 337, 364, 391, 409, 426, 433, 470, 487, 514, 521, 528] (Int32.ofNat 2) = 46 := by decide
theorem ts_3 : a_tsw 0 25 545 [22, 39, 46, 63, 80, 117, 154, 181, 188, 205, 232, 259, 286, 303, 320, 337, 364, 391, 409, 426, 433, 470, 487, 514, 521, 528] (Int32.ofNat 3) = 63 := by decide
theorem ts_4 : a_tsw 0 25 545 [22, 39, 46, 63, 80, 117, 154, 181, 188, 205, 232, 259, 286, 303, 320, 337, 364, 391, 409, 426, 433, 470, 487, 514, 521, 528] (Int32.ofNat 4) = 80 := by decide
theorem ts_5 : a_tsw 0 25 545 [22, 39, 46, 63, 80, 117, 154, 181, 188, 205, 232, 259, 286, 303, 320, 337, 364, 391, 409, 426, 433, 470, 487, 514, 521, 528] (Int32.ofNat 5) = 117 := by decide
theorem ts_6 : a_tsw 0 25 545 [22, 39, 46, 63, 80, 117, 154, 181, 188, 205, 232, 259, 286, 303, 320, 337, 364, 391, 409, 426, 433, 470, 487, 514, 521, 528] (Int32.ofNat 6) = 154 := by decide
theorem ts_7 : a_tsw 0 25 545 [22, 39, 46, 63, 80, 117, 154, 181, 188, 205, 232, 259, 286, 303, 320, 337, 364, 391, 409, 426, 433, 470, 487, 514, 521, 528] (Int32.ofNat 7) = 181 := by decide
theorem ts_8 : a_tsw 0 25 545 [22, 39, 46, 63, 80, 117, 154, 181, 188, 205, 232, 259, 286, 303, 320, 337, 364, 391, 409, 426, 433, 470, 487, 514, 521, 528] (Int32.ofNat 8) = 188 := by decide
theorem ts_9 : a_tsw 0 25 545 [22, 39, 46, 63, 80, 117, 154, 181, 188, 205, 232, 259, 286, 303, 320, 337, 364, 391, 409, 426, 433, 470, 487, 514, 521, 528] (Int32.ofNat 9) = 205 := by decide
theorem ts_10 : a_tsw 0 25 545 [22, 39, 46, 63, 80, 117, 154, 181, 188, 205, 232, 259, 286, 303, 320, 337, 364, 391, 409, 426, 433, 470, 487, 514, 521, 528] (Int32.ofNat 10) = 232 := by decide
theorem ts_11 : a_tsw 0 25 545 [22, 39, 46, 63, 80, 117, 154, 181, 188, 205, 232, 259, 286, 303, 320, 337, 364, 391, 409, 426, 433, 470, 487, 514, 521, 528] (Int32.ofNat 11) = 259 := by decide
theorem ts_12 : a_tsw 0 25 545 [22, 39, 46, 63, 80, 117, 154, 181, 188, 205, 232, 259, 286, 303, 320, 337, 364, 391, 409, 426, 433, 470, 487, 514, 521, 528] (Int32.ofNat 12) = 286 := by decide
theorem ts_13 : a_tsw 0 25 545 [22, 39, 46, 63, 80, 117, 154, 181, 188, 205, 232, 259, 286, 303, 320, 337, 364, 391, 409, 426, 433, 470, 487, 514, 521, 528] (Int32.ofNat 13) = 303 := by decide
theorem ts_14 : a_tsw 0 25 545 [22, 39, 46, 63, 80, 117, 154, 181, 188, 205, 232, 259, 286, 303, 320, 337, 364, 391, 409, 426, 433, 470, 487, 514, 521, 528] (Int32.ofNat 14) = 320 := by decide
theorem ts_15 : a_tsw 0 25 545 [22, 39, 46, 63, 80, 117, 154, 181, 188, 205, 232, 259, 286, 303, 320, 337, 364, 391, 409, 426, 433, 470, 487, 514, 521, 528] (Int32.ofNat 15) = 337 := by decide
theorem ts_16 : a_tsw 0 25 545 [22, 39, 46, 63, 80, 117, 154, 181, 188, 205, 232, 259, 286, 303, 320, 337, 364, 391, 409, 426, 433, 470, 487, 514, 521, 528] (Int32.ofNat 16) = 364 := by decide
theorem ts_17 : a_tsw 0 25 545 [22, 39, 46, 63, 80, 117, 154, 181, 188, 205, 232, 259, 286, 303, 320, 337, 364, 391, 409, 426, 433, 470, 487, 514, 521, 528] (Int32.ofNat 17) = 391 := by decide
theorem ts_18 : a_tsw 0 25 545 [22, 39, 46, 63, 80, 117, 154, 181, 188, 205, 232, 259, 286, 303, 320, 337, 364, 391, 409, 426, 433, 470, 487, 514, 521, 528] (Int32.ofNat 18) = 409 := by decide
theorem ts_19 : a_tsw 0 25 545 [22, 39, 46, 63, 80, 117, 154, 181, 188, 205, 232, 259, 286, 303, 320, 337, 364, 391, 409, 426, 433, 470, 487, 514, 521, 528] (Int32.ofNat 19) = 426 := by decide
theorem ts_20 : a_tsw 0 25 545 [22, 39, 46, 63, 80, 117, 154, 181, 188, 205, 232, 259, 286, 303, 320, 337, 364, 391, 409, 426, 433, 470, 487, 514, 521, 528] (Int32.ofNat 20) = 433 := by decide
theorem ts_21 : a_tsw 0 25 545 [22, 39, 46, 63, 80, 117, 154, 181, 188, 205, 232, 259, 286, 303, 320, 337, 364, 391, 409, 426, 433, 470, 487, 514, 521, 528] (Int32.ofNat 21) = 470 := by decide
theorem ts_22 : a_tsw 0 25 545 [22, 39, 46, 63, 80, 117, 154, 181, 188, 205, 232, 259, 286, 303, 320, 337, 364, 391, 409, 426, 433, 470, 487, 514, 521, 528] (Int32.ofNat 22) = 487 := by decide
theorem ts_23 : a_tsw 0 25 545 [22, 39, 46, 63, 80, 117, 154, 181, 188, 205, 232, 259, 286, 303, 320, 337, 364, 391, 409, 426, 433, 470, 487, 514, 521, 528] (Int32.ofNat 23) = 514 := by decide
theorem ts_24 : a_tsw 0 25 545 [22, 39, 46, 63, 80, 117, 154, 181, 188, 205, 232, 259, 286, 303, 320, 337, 364, 391, 409, 426, 433, 470, 487, 514, 521, 528] (Int32.ofNat 24) = 521 := by decide
theorem ts_25 : a_tsw 0 25 545 [22, 39, 46, 63, 80, 117, 154, 181, 188, 205, 232, 259, 286, 303, 320, 337, 364, 391, 409, 426, 433, 470, 487, 514, 521, 528] (Int32.ofNat 25) = 528 := by decide
set_option maxRecDepth 100000 in
theorem lw_loop (hfz : fz = .null ∨ fz = .retAddr 60) (hL : L ≤ 256) : ∀ (r k : Nat) (A C : mS) (P : Nat → Option Nat) (vl kp : Option Nat) (R : List aC), k + r = 64 → ST A C P vl kp R k → v_V fz (L, xs) (999 + 1) 189 10 (LL k) [] (hX C P vl kp (moA A) R) LQ := by
  have hend : ∀ (k : Nat) (A C : mS) (P : Nat → Option Nat) (vl kp : Option Nat) (R : List aC), k ≤ 64 → ST A C P vl kp R k → v_V fz (L, xs) (999 + 1) 189 547 (LL k) [] (hX C P vl kp (moA A) R) LQ := by
    intro k A C P vl kp R hk h
    refine v_ret 2 (fun _ => rfl) ⟨rfl, ?_, ?_⟩
    · show R.length + 33 ≤ 600000
      have := h.2.2.2.2.1
      omega
    · have := hX_hz C A P vl kp R
      have := h.2.2.2.2.2
      omega
  intro r
  induction r with
  | zero =>
    intro k A C P vl kp R hk h
    refine v_blk 6 (i' := (bif (a_ic .gt (Int32.ofNat (4 * k)) (Int32.ofNat L - 4)) then 547 else 16)) (L' := LL k) (st' := []) (h' := hX C P vl kp (moA A) R) (fun _ => rfl) ?_
    refine v_it (decide_eq_true ?_) (hend k A C P vl kp R (by omega) h)
    rw [z_lt, z_sub (by rw [z_ofNat (by omega), show (4 : Int32).toInt = 4 from rfl]; omega) (by rw [z_ofNat (by omega), show (4 : Int32).toInt = 4 from rfl]; omega), z_ofNat (by omega), z_ofNat (by omega), show (4 : Int32).toInt = 4 from rfl]
    omega
  | succ r ih =>
    intro k A C P vl kp R hk h
    have hc : (Int32.ofNat L - 4 < Int32.ofNat (4 * k)) ↔ L < 4 * k + 4 := by
      rw [z_lt, z_sub (by rw [z_ofNat (by omega), show (4 : Int32).toInt = 4 from rfl]; omega) (by rw [z_ofNat (by omega), show (4 : Int32).toInt = 4 from rfl]; omega), z_ofNat (by omega), z_ofNat (by omega), show (4 : Int32).toInt = 4 from rfl]
      omega
    refine v_blk 6 (i' := (bif (a_ic .gt (Int32.ofNat (4 * k)) (Int32.ofNat L - 4)) then 547 else 16)) (L' := LL k) (st' := []) (h' := hX C P vl kp (moA A) R) (fun _ => rfl) ?_
    by_cases c : L < 4 * k + 4
    · exact v_it (decide_eq_true (hc.mpr c)) (hend k A C P vl kp R (by omega) h)
    refine v_ie (decide_eq_false (fun q => c (hc.mp q))) ?_
    have hLk : 4 * k + 4 ≤ L := by omega
    have hin : a_in (Int32.ofNat (4 * k)) L = true := by
      rw [o_in (by omega)]
      simp
      omega
    refine v_grd 3 (g := a_in (Int32.ofNat (4 * k)) L) (i' := 19) (L' := LL k) (st' := [.int (xs (Int32.ofNat (4 * k)).toNatClampNeg)]) (h' := hX C P vl kp (moA A) R) (fun _ => rfl) hin ?_
    refine v_blk 3 (i' := a_tsw 0 25 545 [22, 39, 46, 63, 80, 117, 154, 181, 188, 205, 232, 259, 286, 303, 320, 337, 364, 391, 409, 426, 433, 470, 487, 514, 521, 528] (xs (Int32.ofNat (4 * k)).toNatClampNeg &&& 31)) (L' := LL k) (st' := []) (h' := hX C P vl kp (moA A) R) (fun _ => rfl) ?_
    have hn : LK fz L xs k LQ := by
      intro A' C' P' vl' kp' R' hs
      refine v_ii (s := 3) (x := Int32.ofNat (4 * k)) (x' := Int32.ofNat (4 * (k + 1))) (L' := LL (k + 1)) rfl rfl rfl rfl (o_add (q := 4)) rfl ?_
      refine v_blk 1 (i' := 10) (L' := LL (k + 1)) (st' := []) (h' := hX C' P' vl' kp' (moA A') R') (fun _ => rfl) ?_
      exact ih (k + 1) A' C' P' vl' kp' R' (by omega) hs
    rcases tsw26 (xs (Int32.ofNat (4 * k)).toNatClampNeg &&& 31) with ⟨q, hq, e⟩ | e
    · rw [e]
      rcases (show q = 0 ∨ q = 1 ∨ q = 2 ∨ q = 3 ∨ q = 4 ∨ q = 5 ∨ q = 6 ∨ q = 7 ∨ q = 8 ∨ q = 9 ∨ q = 10 ∨ q = 11 ∨ q = 12 ∨ q = 13 ∨ q = 14 ∨ q = 15 ∨ q = 16 ∨ q = 17 ∨ q = 18 ∨ q = 19 ∨ q = 20 ∨ q = 21 ∨ q = 22 ∨ q = 23 ∨ q = 24 ∨ q = 25 by omega) with rfl | rfl | rfl | rfl | rfl | rfl | rfl | rfl | rfl | rfl | rfl | rfl | rfl | rfl | rfl | rfl | rfl | rfl | rfl | rfl | rfl | rfl | rfl | rfl | rfl | rfl
      · rw [ts_0]; exact lc_feed hfz hLk hL h hn
      · rw [ts_1]; exact lc_vall hfz hLk hL h hn
      · rw [ts_2]; exact lc_told hfz hLk hL h hn
      · rw [ts_3]; exact lc_fort hfz hLk hL h hn
      · rw [ts_4]; exact lc_pers hfz hLk hL h hn
      · rw [ts_5]; exact lc_row hfz hLk hL h hn
      · rw [ts_6]; exact lc_of hfz hLk hL h hn
      · rw [ts_7]; exact lc_go hfz hLk hL h hn
      · rw [ts_8]; exact lc_sold hfz hLk hL h hn
      · rw [ts_9]; exact lc_run hfz hLk hL h hn
      · rw [ts_10]; exact lc_best hfz hLk hL h hn
      · rw [ts_11]; exact lc_truly hfz hLk hL h hn
      · rw [ts_12]; exact lc_harm hfz hLk hL h hn
      · rw [ts_13]; exact lc_leag hfz hLk hL h hn
      · rw [ts_14]; exact lc_besd hfz hLk hL h hn
      · rw [ts_15]; exact lc_spill hfz hLk hL h hn
      · rw [ts_16]; exact lc_poor hfz hLk hL h hn
      · rw [ts_17]; exact lc_worse hfz hLk hL h hn
      · rw [ts_18]; exact lc_book hfz hLk hL h hn
      · rw [ts_19]; exact lc_look hfz hLk hL h hn
      · rw [ts_20]; exact lc_act hfz hLk hL h hn
      · rw [ts_21]; exact lc_trc hfz hLk hL h hn
      · rw [ts_22]; exact lc_as hfz hLk hL h hn
      · rw [ts_23]; exact lc_img hfz hLk hL h hn
      · rw [ts_24]; exact lc_und hfz hLk hL h hn
      · rw [ts_25]; exact lc_cnt hfz hLk hL h hn
    · rw [e]
      exact hn A C P vl kp R (ST_1 h)
set_option maxRecDepth 100000 in
theorem s_goal_ok : s_goal := by
  intro fz L xs hfz hL
  refine v_blk 2 (i' := 2) (L' := [some (.retAddr 50), none, none, none]) (st' := [.ref 0, .ref 0]) (h' := [o_1 .null .null .null .null .null .null .null]) (fun _ => rfl) ?_
  refine v_s0 (d := 999) (a := 0) (rest := [.ref 0]) (E := [some (.ref 0)]) rfl rfl rfl rfl rfl rfl ?_
  refine v_post (si_75 (by omega)) ?_
  rintro rv h' ⟨rfl, rfl⟩
  refine v_blk 3 (i' := 6) (L' := [some (.retAddr 50), some (.ref 0), none, none]) (st' := [.ref 22, .ref 22]) (h' := h22 K00 (fun _ => none) none none ++ [.inr (12, [.int 0, .null, .null, .null, .int 0, .int 0, .int 0, .int 0, .int 0, .int 0, .null, .null, .null, .null, .int 0, .int 0, .int 0, .int 0, .null, .null, .null, .int 0, .int 0, .int 0, .int 0])]) (fun _ => rfl) ?_
  refine v_s0 (d := 999) (a := 22) (rest := [.ref 22]) (E := [some (.ref 22), none]) rfl rfl rfl rfl rfl rfl ?_
  refine v_post mi_111 ?_
  rintro rv h' ⟨rfl, rfl⟩
  refine v_blk 3 (i' := 10) (L' := LL 0) (st' := []) (h' := hX K00 (fun _ => none) none none (moA A00) []) (fun _ => rfl) ?_
  exact lw_loop hfz hL 64 0 A00 K00 (fun _ => none) none none [] rfl ST_0
end LO
theorem i_vc : Claimed_1_1 ∧ Claimed_1_2 := s_vc s_goal_ok
