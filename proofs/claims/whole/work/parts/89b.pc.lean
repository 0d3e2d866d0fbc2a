/-! 89b.pc: pairs of calls that make nothing (printed by wip/whole/genpc.py) -/
section PCS
variable {fz : Value} {sc : Nat × (Nat → Int32)} {A C : mS} {P : Nat → Option Nat} {vl kp : Option Nat} {R : List aC} {t : Nat}
theorem pc_feed (hfz : fz = .null ∨ fz = .retAddr 60) (h : ST A C P vl kp R t) (x1 : Int32) : PCT fz sc 76 117 [some (.ref 0), some (.int x1)] [some (.ref 22), some (.int x1)] A C P vl kp R t := by
  have h0 := h
  obtain ⟨⟨d, F, ns, nv, nb, nk, hx⟩, ⟨n, ht⟩, -⟩ := h0
  obtain ⟨⟨hd, hf, hy, hM, hF, hC, hW⟩, hs, hv, hb, hk, hr⟩ := id hx
  obtain ⟨r, A', C', eg, ek, g1, g2, g3⟩ := q_feed (N := 1000) hx x1
  exact ⟨r, pcv_0 (fun Mo => kt_76 hfz 1000 P vl kp Mo R 999 (by omega) x1 C _ _ ek) (fun c R2 => gt_117 hfz 1000 c R2 999 (by omega) x1 A _ _ eg) (ST_s h g1 g2 g3)⟩
theorem pc_told (hfz : fz = .null ∨ fz = .retAddr 60) (h : ST A C P vl kp R t) (x1 : Int32) : PCT fz sc 78 137 [some (.ref 0), some (.int x1)] [some (.ref 22), some (.int x1)] A C P vl kp R t := by
  have h0 := h
  obtain ⟨⟨d, F, ns, nv, nb, nk, hx⟩, ⟨n, ht⟩, -⟩ := h0
  obtain ⟨⟨hd, hf, hy, hM, hF, hC, hW⟩, hs, hv, hb, hk, hr⟩ := id hx
  obtain ⟨r, eg, ek⟩ := q_told (N := 1000) hx x1
  exact ⟨r, pcv_0 (fun Mo => kt_78 hfz 1000 P vl kp Mo R 999 (by omega) x1 C _ _ ek) (fun c R2 => gt_137 hfz 1000 c R2 999 (by omega) x1 A _ _ eg) (ST_1 h)⟩
theorem pc_fort (hfz : fz = .null ∨ fz = .retAddr 60) (h : ST A C P vl kp R t) (x1 : Int32) : PCT fz sc 79 138 [some (.ref 0), some (.int x1), none] [some (.ref 22), some (.int x1)] A C P vl kp R t := by
  have h0 := h
  obtain ⟨⟨d, F, ns, nv, nb, nk, hx⟩, ⟨n, ht⟩, -⟩ := h0
  obtain ⟨⟨hd, hf, hy, hM, hF, hC, hW⟩, hs, hv, hb, hk, hr⟩ := id hx
  obtain ⟨r, A', C', eg, ek, g1, g2, g3⟩ := q_fort (N := 1000) hx x1
  exact ⟨r, pcv_0 (fun Mo => kt_79 hfz 1000 P vl kp Mo R 999 (by omega) x1 C _ _ ek) (fun c R2 => gt_138 hfz 1000 c R2 999 (by omega) x1 A _ _ eg) (ST_s h g1 g2 g3)⟩
theorem pc_row (hfz : fz = .null ∨ fz = .retAddr 60) (h : ST A C P vl kp R t) (x1 x2 x3 : Int32) : PCT fz sc 81 140 [some (.ref 0), some (.int x1), some (.int x2), some (.int x3), none, none, none] [some (.ref 22), some (.int x1), some (.int x2), some (.int x3), none] A C P vl kp R t := by
  have h0 := h
  obtain ⟨⟨d, F, ns, nv, nb, nk, hx⟩, ⟨n, ht⟩, -⟩ := h0
  obtain ⟨⟨hd, hf, hy, hM, hF, hC, hW⟩, hs, hv, hb, hk, hr⟩ := id hx
  obtain ⟨r, A', C', eg, ek, g1, g2, g3⟩ := q_row (N := 1000) hx x1 x2 x3
  exact ⟨r, pcv_0 (fun Mo => kt_81 hfz 1000 P vl kp Mo R 999 (by omega) x1 x2 x3 C _ _ ek) (fun c R2 => gt_140 hfz 1000 c R2 999 (by omega) x1 x2 x3 A _ _ eg) (ST_s h g1 g2 g3)⟩
theorem pc_of (hfz : fz = .null ∨ fz = .retAddr 60) (h : ST A C P vl kp R t) (x1 x2 : Int32) : PCT fz sc 82 146 [some (.ref 0), some (.int x1), some (.int x2), none] [some (.ref 22), some (.int x1), some (.int x2)] A C P vl kp R t := by
  have h0 := h
  obtain ⟨⟨d, F, ns, nv, nb, nk, hx⟩, ⟨n, ht⟩, -⟩ := h0
  obtain ⟨⟨hd, hf, hy, hM, hF, hC, hW⟩, hs, hv, hb, hk, hr⟩ := id hx
  obtain ⟨r, A', C', eg, ek, g1, g2⟩ := q_of (N := 1000) (by omega) hd hf ⟨hM, hF⟩ hC hW x1 x2
  exact ⟨r, pcv_0 (fun Mo => kt_82 hfz 1000 P vl kp Mo R 999 (by omega) x1 x2 C _ _ ek) (fun c R2 => gt_146 hfz 1000 c R2 999 (by omega) x1 x2 A _ _ eg) (ST_q h g1 g2)⟩
theorem pc_go (hfz : fz = .null ∨ fz = .retAddr 60) (h : ST A C P vl kp R t) : PCT fz sc 83 153 [some (.ref 0)] [some (.ref 22)] A C P vl kp R t := by
  have h0 := h
  obtain ⟨⟨d, F, ns, nv, nb, nk, hx⟩, ⟨n, ht⟩, -⟩ := h0
  obtain ⟨⟨hd, hf, hy, hM, hF, hC, hW⟩, hs, hv, hb, hk, hr⟩ := id hx
  obtain ⟨r, A', C', eg, ek, g1, g2, g3⟩ := q_go (N := 1000) (by omega) hx
  exact ⟨r, pcv_0 (fun Mo => kt_83 hfz 1000 P vl kp Mo R 999 (by omega) C _ _ ek) (fun c R2 => gt_153 hfz 1000 c R2 999 (by omega) A _ _ eg) (ST_s h g1 g2 g3)⟩
theorem pc_sold (hfz : fz = .null ∨ fz = .retAddr 60) (h : ST A C P vl kp R t) (x1 : Int32) : PCT fz sc 84 154 [some (.ref 0), some (.int x1), none] [some (.ref 22), some (.int x1)] A C P vl kp R t := by
  have h0 := h
  obtain ⟨⟨d, F, ns, nv, nb, nk, hx⟩, ⟨n, ht⟩, -⟩ := h0
  obtain ⟨⟨hd, hf, hy, hM, hF, hC, hW⟩, hs, hv, hb, hk, hr⟩ := id hx
  obtain ⟨r, A', C', eg, ek, g1, g2⟩ := q_sold (N := 1000) (by omega) hd hf ⟨hM, hF⟩ hC hW x1
  exact ⟨r, pcv_0 (fun Mo => kt_84 hfz 1000 P vl kp Mo R 999 (by omega) x1 C _ _ ek) (fun c R2 => gt_154 hfz 1000 c R2 999 (by omega) x1 A _ _ eg) (ST_q h g1 g2)⟩
theorem pc_run (hfz : fz = .null ∨ fz = .retAddr 60) (h : ST A C P vl kp R t) (x1 x2 : Int32) : PCT fz sc 85 155 [some (.ref 0), some (.int x1), some (.int x2), none, none, none, none, none] [some (.ref 22), some (.int x1), some (.int x2), none] A C P vl kp R t := by
  have h0 := h
  obtain ⟨⟨d, F, ns, nv, nb, nk, hx⟩, ⟨n, ht⟩, -⟩ := h0
  obtain ⟨⟨hd, hf, hy, hM, hF, hC, hW⟩, hs, hv, hb, hk, hr⟩ := id hx
  obtain ⟨r, A', C', eg, ek, g1, g2⟩ := q_run (N := 1000) (by omega) hd hf hy ⟨hM, hF⟩ hC hW x1 x2
  exact ⟨r, pcv_0 (fun Mo => kt_85 hfz 1000 P vl kp Mo R 999 (by omega) x1 x2 C _ _ ek) (fun c R2 => gt_155 hfz 1000 c R2 999 (by omega) x1 x2 A _ _ eg) (ST_q h g1 g2)⟩
theorem pc_best (hfz : fz = .null ∨ fz = .retAddr 60) (h : ST A C P vl kp R t) (x1 x2 : Int32) : PCT fz sc 86 157 [some (.ref 0), some (.int x1), some (.int x2), none, none] [some (.ref 22), some (.int x1), some (.int x2), none, none, none, none, none] A C P vl kp R t := by
  have h0 := h
  obtain ⟨⟨d, F, ns, nv, nb, nk, hx⟩, ⟨n, ht⟩, -⟩ := h0
  obtain ⟨⟨hd, hf, hy, hM, hF, hC, hW⟩, hs, hv, hb, hk, hr⟩ := id hx
  obtain ⟨r, A', C', eg, ek, g1, g2⟩ := q_best (N := 1000) (by omega) hd hf ⟨hM, hF⟩ hC hW x1 x2
  exact ⟨r, pcv_0 (fun Mo => kt_86 hfz 1000 P vl kp Mo R 999 (by omega) x1 x2 C _ _ ek) (fun c R2 => gt_157 hfz 1000 c R2 999 (by omega) x1 x2 A _ _ eg) (ST_q h g1 g2)⟩
theorem pc_truly (hfz : fz = .null ∨ fz = .retAddr 60) (h : ST A C P vl kp R t) (x1 x2 : Int32) : PCT fz sc 87 158 [some (.ref 0), some (.int x1), some (.int x2), none, none, none, none, none, none, none, none] [some (.ref 22), some (.int x1), some (.int x2), none, none, none, none, none, none, none, none] A C P vl kp R t := by
  have h0 := h
  obtain ⟨⟨d, F, ns, nv, nb, nk, hx⟩, ⟨n, ht⟩, -⟩ := h0
  obtain ⟨⟨hd, hf, hy, hM, hF, hC, hW⟩, hs, hv, hb, hk, hr⟩ := id hx
  obtain ⟨r, A', C', eg, ek, g1, g2⟩ := q_truly (N := 1000) (by omega) hd hf ⟨hM, hF⟩ hC hW x1 x2
  exact ⟨r, pcv_0 (fun Mo => kt_87 hfz 1000 P vl kp Mo R 999 (by omega) x1 x2 C _ _ ek) (fun c R2 => gt_158 hfz 1000 c R2 999 (by omega) x1 x2 A _ _ eg) (ST_q h g1 g2)⟩
theorem pc_harm (hfz : fz = .null ∨ fz = .retAddr 60) (h : ST A C P vl kp R t) (x1 : Int32) : PCT fz sc 88 159 [some (.ref 0), some (.int x1)] [some (.ref 22), some (.int x1)] A C P vl kp R t := by
  have h0 := h
  obtain ⟨⟨d, F, ns, nv, nb, nk, hx⟩, ⟨n, ht⟩, -⟩ := h0
  obtain ⟨⟨hd, hf, hy, hM, hF, hC, hW⟩, hs, hv, hb, hk, hr⟩ := id hx
  obtain ⟨r, A', C', eg, ek, g1, g2⟩ := q_harm (N := 1000) (by omega) hd hf ⟨hM, hF⟩ hC hW x1
  exact ⟨r, pcv_0 (fun Mo => kt_88 hfz 1000 P vl kp Mo R 999 (by omega) x1 C _ _ ek) (fun c R2 => gt_159 hfz 1000 c R2 999 (by omega) x1 A _ _ eg) (ST_q h g1 g2)⟩
theorem pc_leag (hfz : fz = .null ∨ fz = .retAddr 60) (h : ST A C P vl kp R t) (x1 : Int32) : PCT fz sc 89 160 [some (.ref 0), some (.int x1), none, none, none, none] [some (.ref 22), some (.int x1), none, none, none, none, none, none, none] A C P vl kp R t := by
  have h0 := h
  obtain ⟨⟨d, F, ns, nv, nb, nk, hx⟩, ⟨n, ht⟩, -⟩ := h0
  obtain ⟨⟨hd, hf, hy, hM, hF, hC, hW⟩, hs, hv, hb, hk, hr⟩ := id hx
  obtain ⟨r, A', C', eg, ek, g1, g2⟩ := q_leag (N := 1000) (by omega) hd hf ⟨hM, hF⟩ hC hW x1
  exact ⟨r, pcv_0 (fun Mo => kt_89 hfz 1000 P vl kp Mo R 999 (by omega) x1 C _ _ ek) (fun c R2 => gt_160 hfz 1000 c R2 999 (by omega) x1 A _ _ eg) (ST_q h g1 g2)⟩
theorem pc_besd (hfz : fz = .null ∨ fz = .retAddr 60) (h : ST A C P vl kp R t) (x1 : Int32) : PCT fz sc 90 161 [some (.ref 0), some (.int x1), none] [some (.ref 22), some (.int x1)] A C P vl kp R t := by
  have h0 := h
  obtain ⟨⟨d, F, ns, nv, nb, nk, hx⟩, ⟨n, ht⟩, -⟩ := h0
  obtain ⟨⟨hd, hf, hy, hM, hF, hC, hW⟩, hs, hv, hb, hk, hr⟩ := id hx
  obtain ⟨r, A', C', eg, ek, g1, g2, g3⟩ := q_besd (N := 1000) hx x1
  exact ⟨r, pcv_0 (fun Mo => kt_90 hfz 1000 P vl kp Mo R 999 (by omega) x1 C _ _ ek) (fun c R2 => gt_161 hfz 1000 c R2 999 (by omega) x1 A _ _ eg) (ST_s h g1 g2 g3)⟩
theorem pc_spill (hfz : fz = .null ∨ fz = .retAddr 60) (h : ST A C P vl kp R t) (x1 x2 : Int32) : PCT fz sc 91 162 [some (.ref 0), some (.int x1), some (.int x2), none, none] [some (.ref 22), some (.int x1), some (.int x2), none, none] A C P vl kp R t := by
  have h0 := h
  obtain ⟨⟨d, F, ns, nv, nb, nk, hx⟩, ⟨n, ht⟩, -⟩ := h0
  obtain ⟨⟨hd, hf, hy, hM, hF, hC, hW⟩, hs, hv, hb, hk, hr⟩ := id hx
  obtain ⟨r, A', C', eg, ek, g1, g2⟩ := q_spill (N := 1000) (by omega) hd hf hy ⟨hM, hF⟩ hC hW hb.1 hb.2.1 hb.2.2.1 hb.2.2.2 x1 x2
  exact ⟨r, pcv_0 (fun Mo => kt_91 hfz 1000 P vl kp Mo R 999 (by omega) x1 x2 C _ _ ek) (fun c R2 => gt_162 hfz 1000 c R2 999 (by omega) x1 x2 A _ _ eg) (ST_q h g1 g2)⟩
theorem pc_poor (hfz : fz = .null ∨ fz = .retAddr 60) (h : ST A C P vl kp R t) (x1 x2 : Int32) : PCT fz sc 92 163 [some (.ref 0), some (.int x1), some (.int x2), none, none] [some (.ref 22), some (.int x1), some (.int x2), none, none, none, none, none, none] A C P vl kp R t := by
  have h0 := h
  obtain ⟨⟨d, F, ns, nv, nb, nk, hx⟩, ⟨n, ht⟩, -⟩ := h0
  obtain ⟨⟨hd, hf, hy, hM, hF, hC, hW⟩, hs, hv, hb, hk, hr⟩ := id hx
  obtain ⟨r, A', C', eg, ek, g1, g2⟩ := q_poor (N := 1000) (by omega) hd hf hy ⟨hM, hF⟩ hC hW x1 x2
  exact ⟨r, pcv_0 (fun Mo => kt_92 hfz 1000 P vl kp Mo R 999 (by omega) x1 x2 C _ _ ek) (fun c R2 => gt_163 hfz 1000 c R2 999 (by omega) x1 x2 A _ _ eg) (ST_q h g1 g2)⟩
theorem pc_worse (hfz : fz = .null ∨ fz = .retAddr 60) (h : ST A C P vl kp R t) (x1 : Int32) : ∃ r : Int64, PCV fz sc 93 164 [some (.ref 0), some (.int x1), none, none, none] [some (.ref 22), some (.int x1), none, none, none, none, none, none] A C P vl kp R t (.long r) := by
  have h0 := h
  obtain ⟨⟨d, F, ns, nv, nb, nk, hx⟩, ⟨n, ht⟩, -⟩ := h0
  obtain ⟨⟨hd, hf, hy, hM, hF, hC, hW⟩, hs, hv, hb, hk, hr⟩ := id hx
  obtain ⟨r, A', C', eg, ek, g1, g2⟩ := q_worse (N := 1000) (by omega) hd hf hy ⟨hM, hF⟩ hC hW x1
  exact ⟨r, pcv_0 (fun Mo => kt_93 hfz 1000 P vl kp Mo R 999 (by omega) x1 C _ _ ek) (fun c R2 => gt_164 hfz 1000 c R2 999 (by omega) x1 A _ _ eg) (ST_q h g1 g2)⟩
theorem pc_book (hfz : fz = .null ∨ fz = .retAddr 60) (h : ST A C P vl kp R t) (x1 : Int32) : PCT fz sc 94 165 [some (.ref 0), some (.int x1), none] [some (.ref 22), some (.int x1)] A C P vl kp R t := by
  have h0 := h
  obtain ⟨⟨d, F, ns, nv, nb, nk, hx⟩, ⟨n, ht⟩, -⟩ := h0
  obtain ⟨⟨hd, hf, hy, hM, hF, hC, hW⟩, hs, hv, hb, hk, hr⟩ := id hx
  obtain ⟨r, A', C', eg, ek, g1, g2, g3⟩ := q_book (N := 1000) hx x1
  exact ⟨r, pcv_0 (fun Mo => kt_94 hfz 1000 P vl kp Mo R 999 (by omega) x1 C _ _ ek) (fun c R2 => gt_165 hfz 1000 c R2 999 (by omega) x1 A _ _ eg) (ST_s h g1 g2 g3)⟩
theorem pc_look (hfz : fz = .null ∨ fz = .retAddr 60) (h : ST A C P vl kp R t) : PCT fz sc 95 166 [some (.ref 0), none] [some (.ref 22), none, none] A C P vl kp R t := by
  have h0 := h
  obtain ⟨⟨d, F, ns, nv, nb, nk, hx⟩, ⟨n, ht⟩, -⟩ := h0
  obtain ⟨⟨hd, hf, hy, hM, hF, hC, hW⟩, hs, hv, hb, hk, hr⟩ := id hx
  obtain ⟨r, A', C', eg, ek, g1, g2⟩ := q_look (N := 1000) (by omega) hd hf hy ⟨hM, hF⟩ hC hW hk.1 hk.2.1 hk.2.2.1 hk.2.2.2
  exact ⟨r, pcv_0 (fun Mo => kt_95 hfz 1000 P vl kp Mo R 999 (by omega) C _ _ ek) (fun c R2 => gt_166 hfz 1000 c R2 999 (by omega) A _ _ eg) (ST_q h g1 g2)⟩
theorem pc_act (hfz : fz = .null ∨ fz = .retAddr 60) (h : ST A C P vl kp R t) (x1 x2 x3 : Int32) : PCT fz sc 96 176 [some (.ref 0), some (.int x1), some (.int x2), some (.int x3), none] [some (.ref 22), some (.int x1), some (.int x2), some (.int x3)] A C P vl kp R t := by
  have h0 := h
  obtain ⟨⟨d, F, ns, nv, nb, nk, hx⟩, ⟨n, ht⟩, -⟩ := h0
  obtain ⟨⟨hd, hf, hy, hM, hF, hC, hW⟩, hs, hv, hb, hk, hr⟩ := id hx
  obtain ⟨r, A', C', n', eg, ek, g1, g2, g3, g4, g5⟩ := q_act (N := 1000) hx x1 x2 x3
  exact ⟨r, pcv_0 (fun Mo => kt_96 hfz 1000 P vl kp Mo R 999 (by omega) x1 x2 x3 C _ _ ek) (fun c R2 => gt_176 hfz 1000 c R2 999 (by omega) x1 x2 x3 A _ _ eg) (ST_a h g1 g2 g3 g4 g5)⟩
theorem pc_trc (hfz : fz = .null ∨ fz = .retAddr 60) (h : ST A C P vl kp R t) (x1 : Int32) : PCT fz sc 97 177 [some (.ref 0), some (.int x1)] [some (.ref 22), some (.int x1)] A C P vl kp R t := by
  have h0 := h
  obtain ⟨⟨d, F, ns, nv, nb, nk, hx⟩, ⟨n, ht⟩, -⟩ := h0
  obtain ⟨⟨hd, hf, hy, hM, hF, hC, hW⟩, hs, hv, hb, hk, hr⟩ := id hx
  obtain ⟨r, eg, ek⟩ := q_trc (N := 1000) (P := P) (vl := vl) (R := R) ht x1
  exact ⟨r, pcv_0 (fun Mo => kt_97 hfz 1000 P vl kp Mo R 999 (by omega) x1 C _ _ ek) (fun c R2 => gt_177 hfz 1000 c R2 999 (by omega) x1 A _ _ eg) (ST_1 h)⟩
theorem pc_as (hfz : fz = .null ∨ fz = .retAddr 60) (h : ST A C P vl kp R t) (x1 x2 : Int32) : PCT fz sc 98 178 [some (.ref 0), some (.int x1), some (.int x2), none] [some (.ref 22), some (.int x1), some (.int x2)] A C P vl kp R t := by
  have h0 := h
  obtain ⟨⟨d, F, ns, nv, nb, nk, hx⟩, ⟨n, ht⟩, -⟩ := h0
  obtain ⟨⟨hd, hf, hy, hM, hF, hC, hW⟩, hs, hv, hb, hk, hr⟩ := id hx
  obtain ⟨r, eg, ek⟩ := q_as (N := 1000) hx x1 x2
  exact ⟨r, pcv_0 (fun Mo => kt_98 hfz 1000 P vl kp Mo R 999 (by omega) x1 x2 C _ _ ek) (fun c R2 => gt_178 hfz 1000 c R2 999 (by omega) x1 x2 A _ _ eg) (ST_1 h)⟩
theorem pc_cnt (hfz : fz = .null ∨ fz = .retAddr 60) (h : ST A C P vl kp R t) (x1 : Int32) : PCT fz sc 101 181 [some (.ref 0), some (.int x1)] [some (.ref 22), some (.int x1)] A C P vl kp R t := by
  have h0 := h
  obtain ⟨⟨d, F, ns, nv, nb, nk, hx⟩, ⟨n, ht⟩, -⟩ := h0
  obtain ⟨⟨hd, hf, hy, hM, hF, hC, hW⟩, hs, hv, hb, hk, hr⟩ := id hx
  obtain ⟨r, eg, ek⟩ := q_count (N := 1000) hx (ht.2.1.trans ht.2.2.1.symm) x1
  exact ⟨r, pcv_0 (fun Mo => kt_101 hfz 1000 P vl kp Mo R 999 (by omega) x1 C _ _ ek) (fun c R2 => gt_181 hfz 1000 c R2 999 (by omega) x1 A _ _ eg) (ST_1 h)⟩
end PCS
