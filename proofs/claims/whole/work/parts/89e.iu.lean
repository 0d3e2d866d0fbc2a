/-! 89e.iu: image and undo in the machine; they agree -/
section IU
variable {fz : Value} {sc : Nat × (Nat → Int32)} {P P' : Nat → Option Nat} {vl vl' kp : Option Nat} {Mo : Nat → aC} {R R1 R2 : List aC} {C K A : mS} {d t : Nat}
set_option maxRecDepth 100000 in
theorem src_now {kp : Option Nat} : SRC (hX C P vl kp Mo R1) R2 1 C P vl := by
  intro L _ i c hc
  rcases i with _ | _ | _ | _ | _ | _ | _ | _ | i
  · exact hc
  · exact hc
  · exact hc
  · exact hc
  · exact hc
  · exact hc
  · exact hc
  · exact hc
  · exact absurd hc (by simp [wb, wc])
theorem spp_now {kp : Option Nat} {b : Nat} (h : PO P (R1 ++ (wb b K P' vl' ++ R2))) : SPP (hX C P vl kp Mo R1) R2 P := by
  intro L hl p v hp e
  obtain ⟨ci, k, n, v', h1, h2⟩ := PO_rw hl h p v hp e
  exact ⟨ci, _, bdr_ok (C := C) (P := P) (vl := vl) (kp := kp) (Mo := Mo) h1, h2⟩
set_option maxRecDepth 100000 in
theorem im_8 (hp : PO P (R1 ++ (wb (R1.length + 33) K P' vl' ++ R2))) : v_V fz sc (d + 1) 99 8 [some (.ref 0)] [] (hX C P vl (some (R1.length + 33)) Mo (R1 ++ (wb (R1.length + 33) K P' vl' ++ R2))) (fun rv h' => rv = some (.int (C 90 12)) ∧ h' = hX C P vl (some (R1.length + 33)) Mo (R1 ++ (wb (R1.length + 33) (nK K C) (pmx P' P 8) vl ++ R2))) := by
  refine v_blk 4 (i' := 12) (L' := [some (.ref 0)]) (st' := [.ref 1, .ref (R1.length + 33)]) (h' := hX C P vl (some (R1.length + 33)) Mo (R1 ++ (wb (R1.length + 33) K P' vl' ++ R2))) (fun _ => rfl) ?_
  refine v_vc (a := R1.length + 33) (rest := []) (ci := 10) (kk := 68) (E := [some (.ref (R1.length + 33)), some (.ref 1), none]) rfl rfl rfl (x_at (X := hX C P vl (some (R1.length + 33)) Mo R1) (Y := R2) (i := 0) (L := wb (R1.length + 33) K P' vl') rfl) rfl rfl rfl rfl ?_
  refine v_post (bl_68 (X := hX C P vl (some (R1.length + 33)) Mo R1) (Y := R2) (b' := 1) (K := K) (K' := C) (P := P') (P' := P) (vl := vl') (vl' := vl) src_now (spp_now hp)) ?_
  rintro rv h' ⟨rfl, rfl⟩
  exact v_ret 4 (fun _ => rfl) ⟨rfl, rfl⟩
set_option maxRecDepth 100000 in
theorem im_s (hp : PO P (R1 ++ (wb (R1.length + 33) K P' vl' ++ R2))) : v_V fz sc (d + 1) 99 0 [some (.ref 0)] [] (hX C P vl (some (R1.length + 33)) Mo (R1 ++ (wb (R1.length + 33) K P' vl' ++ R2))) (fun rv h' => rv = some (.int (C 90 12)) ∧ h' = hX C P vl (some (R1.length + 33)) Mo (R1 ++ (wb (R1.length + 33) (nK K C) (pmx P' P 8) vl ++ R2))) := by
  refine v_blk 3 (i' := 8) (L' := [some (.ref 0)]) (st' := []) (h' := hX C P vl (some (R1.length + 33)) Mo (R1 ++ (wb (R1.length + 33) K P' vl' ++ R2))) (fun _ => rfl) ?_
  exact im_8 hp
set_option maxRecDepth 100000 in
theorem im_n (hp : PO P (R ++ (wb (R.length + 33) K00 (fun _ => none) none ++ []))) : v_V fz sc (d + 1) 99 0 [some (.ref 0)] [] (hX C P vl none Mo R) (fun rv h' => rv = some (.int (C 90 12)) ∧ h' = hX C P vl (some (R.length + 33)) Mo (R ++ (wb (R.length + 33) (nK K00 C) (pmx (fun _ => none) P 8) vl ++ []))) := by
  refine v_blk 4 (i' := 4) (L' := [some (.ref 0)]) (st' := [.ref 0]) (h' := hX C P vl none Mo R) (fun _ => rfl) ?_
  refine v_nw (c := 10) (n := R.length + 33) (fs := [.null, .int 0, .int 0, .null, .int 0, .int 0, .null, .int 0, .int 0, .null, .null, .null, .int 0, .null, .int 0, .null, .int 0]) (h' := hX C P vl none Mo R ++ [.inr (10, [.null, .int 0, .int 0, .null, .int 0, .int 0, .null, .int 0, .int 0, .null, .null, .null, .int 0, .null, .int 0, .null, .int 0])]) rfl rfl rfl rfl rfl ?_
  refine v_blk 1 (i' := 6) (L' := [some (.ref 0)]) (st' := [.ref (R.length + 33), .ref (R.length + 33), .ref 0]) (h' := hX C P vl none Mo R ++ [.inr (10, [.null, .int 0, .int 0, .null, .int 0, .int 0, .null, .int 0, .int 0, .null, .null, .null, .int 0, .null, .int 0, .null, .int 0])]) (fun _ => rfl) ?_
  refine v_s0 (a := R.length + 33) (rest := [.ref (R.length + 33), .ref 0]) (E := [some (.ref (R.length + 33)), none]) rfl rfl rfl rfl rfl rfl ?_
  refine v_post (wi_67 (H := hX C P vl none Mo R)) ?_
  rintro rv h' ⟨rfl, rfl⟩
  refine v_blk 1 (i' := 8) (L' := [some (.ref 0)]) (st' := []) (h' := hX C P vl (some (R.length + 33)) Mo (R ++ (wb (R.length + 33) K00 (fun _ => none) none ++ []))) (fun _ => rfl) ?_
  exact im_8 hp
/-- cells of the class behind its world -/
def hT (C : mS) (Mo : Nat → aC) (R : List aC) : List aC :=
  .inr (5, [.ref 10, .ref 11, .ref 12, .int (C 91 3), .int (C 91 4), .int (C 91 5), .int (C 91 6), .ref 2, .int (C 91 8), .int (C 91 9), .int (C 91 10)]) ::
  .inl (0, 120, .inl (C 6)) ::
  .inl (0, 10, .inl (C 7)) ::
  .inl (0, 10, .inl (C 8)) ::
  .inr (2, [.ref 1, .ref 14, .ref 15, .ref 16, .ref 17, .int (C 92 5), .int (C 92 6), .int (C 92 7), .int (C 92 8), .int (C 92 9)]) ::
  .inl (0, 8, .inl (C 9)) ::
  .inl (0, 32, .inl (C 10)) ::
  .inl (0, 4, .inl (C 11)) ::
  .inl (0, 5, .inl (C 12)) ::
  .inl (0, 21, .inl (C 13)) ::
  .inl (0, 8, .inl (C 14)) ::
  .inl (0, 32, .inl (C 15)) ::
  .inl (0, 36, .inl (C 16)) ::
  Mo 0 :: Mo 1 :: Mo 2 :: Mo 3 :: Mo 4 :: Mo 5 :: Mo 6 :: Mo 7 :: Mo 8 :: Mo 9 :: Mo 10 :: R
theorem l8 {L : List aC} (h : L.length = 8) : ∃ a b c d e f g i : aC, L = [a, b, c, d, e, f, g, i] := by
  match L, h with
  | [a, b, c, d, e, f, g, i], _ => exact ⟨a, b, c, d, e, f, g, i, rfl⟩
theorem hT_at {x : aC} {L : List aC} (hl : L.length = 8) (u : Nat) : ([x] ++ (L ++ hT C Mo R))[u + 33]? = R[u]? := by
  obtain ⟨a, b, c, d, e, f, g, i, rfl⟩ := l8 hl
  rfl
theorem src_kept {x : aC} : SRC [x] (hT C Mo (R1 ++ (wb (R1.length + 33) K P' vl' ++ R2))) (R1.length + 33) K P' vl' := by
  intro L hl i c hc
  rw [show R1.length + 33 + i = (R1.length + i) + 33 by omega, hT_at hl]
  exact x_at hc
theorem spp_kept {x : aC} (h : PO P' R) : SPP [x] (hT C Mo R) P' := by
  intro L hl p v hp e
  obtain ⟨ci, k, n, v', h1, h2⟩ := h p v hp e
  refine ⟨ci, [.int k, .int n, .int v'], ?_, h2⟩
  have h3 := bdr_ok (C := C) (P := P') (vl := none) (kp := none) (Mo := Mo) h1
  have h4 : 33 ≤ v := by
    unfold bdr at h1
    split at h1
    · assumption
    · cases h1
  rw [hX_up h4] at h3
  rw [show v = (v - 33) + 33 by omega, hT_at hl]
  exact h3
set_option maxRecDepth 100000 in
theorem un_s (hR : R = R1 ++ (wb (R1.length + 33) K P' vl' ++ R2)) (hp : PO P' R) : v_V fz sc (d + 1) 100 0 [some (.ref 0)] [] (hX C P vl (some (R1.length + 33)) Mo R) (fun rv h' => rv = some (.int (K 90 12)) ∧ h' = hX (nK C K) (pmx P P' 8) vl' (some (R1.length + 33)) Mo R) := by
  refine v_blk 7 (i' := 9) (L' := [some (.ref 0)]) (st' := [.ref (R1.length + 33), .ref 1]) (h' := hX C P vl (some (R1.length + 33)) Mo R) (fun _ => rfl) ?_
  refine v_vc (a := 1) (rest := []) (ci := 10) (kk := 68) (E := [some (.ref 1), some (.ref (R1.length + 33)), none]) rfl rfl rfl rfl rfl rfl rfl rfl ?_
  refine v_post (bl_68 (X := [.inr (11, [.ref 1, .ref 9, .ref 13, .ref 18, .ref 19, .ref 20, .ref 21, .ref (R1.length + 33)])]) (Y := hT C Mo R) (b' := R1.length + 33) (K := C) (K' := K) (P := P) (P' := P') (vl := vl) (vl' := vl') ?_ (spp_kept hp)) ?_
  · rw [hR]; exact src_kept
  rintro rv h' ⟨rfl, rfl⟩
  exact v_ret 4 (fun _ => rfl) ⟨rfl, rfl⟩
set_option maxRecDepth 100000 in
theorem un_n : v_V fz sc d 100 0 [some (.ref 0)] [] (hX C P vl none Mo R) (fun rv h' => rv = some (.int (-3)) ∧ h' = hX C P vl none Mo R) := v_ret 5 (fun _ => rfl) ⟨rfl, rfl⟩
theorem wb_hz (b : Nat) (K : mS) (P : Nat → Option Nat) (vl : Option Nat) : a_hz (wb b K P vl) = 229 := by
  unfold wb wc a_hz
  simp only [List.map_cons, List.map_nil, List.sum_cons, List.sum_nil]
  show 17 + (120 + (12 + (8 + (8 + (32 + (20 + (12 + 0))))))) = 229
  omega
/-- the state behind image -/
theorem ST_im {A' : mS} {n : Nat} (hx : XW (A 0) C P vl (R1 ++ (wb (R1.length + 33) K P' vl' ++ R2))) (ht : TT A C n) (hp : PO P (R1 ++ (wb (R1.length + 33) K P' vl' ++ R2))) (hv : VF vl (R1 ++ (wb (R1.length + 33) K P' vl' ++ R2)) (R1.length + 33)) (hl : (R1 ++ (wb (R1.length + 33) K P' vl' ++ R2)).length ≤ 8 * t) (hz : a_hz (R1 ++ (wb (R1.length + 33) K P' vl' ++ R2)) ≤ 1000 * t) (h4 : A' 99 4 = 1) (f : fr [1, 99] A A') (f4 : f9 [4] A A') (h1 : ∀ j, j < 947 → A' 1 j = A 0 j) : ST A' C P vl (some (R1.length + 33)) (R1 ++ (wb (R1.length + 33) (nK K C) (pmx P' P 8) vl ++ R2)) t := by
  have hw := wb_len (R1.length + 33) (nK K C) (pmx P' P 8) vl
  have e0 : A' 0 = A 0 := fr_at f (by decide)
  have x1 := XW_rw hw hv hx
  refine ⟨by rw [e0]; exact x1, ⟨n, TT_c (fr_at f (by decide)) (f4 21 (by decide)) rfl ht⟩, PO_rw hw hp, .inr ⟨R1, R2, nK K C, pmx P' P 8, vl, rfl, h4, rfl, XW_nK (XW_s h1 x1), PO_nK (PO_rw hw hp), VF_rw hw hv, VF_rw hw hv⟩, ?_, ?_⟩
  · simp only [List.length_append, wb_len] at hl ⊢
    exact hl
  · simp only [a_hz_ap, wb_hz] at hz ⊢
    exact hz
theorem pc_img (hfz : fz = .null ∨ fz = .retAddr 60) (h : ST A C P vl kp R t) : PCT fz sc 99 179 [some (.ref 0)] [some (.ref 22), none] A C P vl kp R t := by
  obtain ⟨hx, ⟨n, ht⟩, h3, h4, h5, h6⟩ := h
  obtain ⟨A', eg, a4, f, f4, a1, -⟩ := m_im (N := 1000) (q := 52) 947 0 A (by omega)
  rw [show 947 + 1 + 52 = 1000 from rfl, show Int32.ofNat 0 = 0 from rfl] at eg
  have ec : C 90 12 = A 0 11 := by
    obtain ⟨d, F, ns, nv, nb, nk, hxx⟩ := hx
    rw [hxx.1.2.2.2.2.2.1.2.1, hxx.1.2.2.2.1.2.1]
  have hg : ∀ (c : Nat → aC) (R2 : List aC), v_V fz sc 999 179 0 [some (.ref 22), none] [] (hM c A R2) (fun rv h' => rv = some (.int (A 0 11)) ∧ h' = hM c A' R2) := fun c R2 => gt_179 hfz 1000 c R2 999 (by omega) A _ _ eg
  rcases h4 with ⟨rfl, g2⟩ | ⟨R1, R2, K, P', vl', rfl, g2, rfl, g4, g5, g6, g7⟩
  · have e : R ++ wb (R.length + 33) K00 (fun _ => none) none = R ++ (wb (R.length + 33) K00 (fun _ => none) none ++ []) := by rw [List.append_nil]
    have hp := PO_app (wb (R.length + 33) K00 (fun _ => none) none) h3
    have hxa := XW_app (wb (R.length + 33) K00 (fun _ => none) none) hx
    have hva := VF_app (wb (R.length + 33) K00 (fun _ => none) none) (VF_new hx)
    have hl : (R ++ wb (R.length + 33) K00 (fun _ => none) none).length ≤ 8 * (t + 1) := by rw [List.length_append, wb_len]; omega
    have hz : a_hz (R ++ wb (R.length + 33) K00 (fun _ => none) none) ≤ 1000 * (t + 1) := by rw [a_hz_ap, wb_hz]; omega
    rw [e] at hp hxa hva hl hz
    refine ⟨A 0 11, A', fun Mo => v_post (im_n (d := 998) hp) ?_, hg⟩
    rintro rv h' ⟨rfl, rfl⟩
    exact ⟨by rw [ec], _, _, _, _, _, rfl, ST_im hxa ht hp hva hl hz a4 f f4 (fun j hj => a1 j (by omega) hj)⟩
  · refine ⟨A 0 11, A', fun Mo => v_post (im_s (d := 998) h3) ?_, hg⟩
    rintro rv h' ⟨rfl, rfl⟩
    exact ⟨by rw [ec], _, _, _, _, _, rfl, ST_im hx ht h3 g6 (by omega) (by omega) a4 f f4 (fun j hj => a1 j (by omega) hj)⟩
theorem pc_und (hfz : fz = .null ∨ fz = .retAddr 60) (h : ST A C P vl kp R t) : PCT fz sc 100 180 [some (.ref 0)] [some (.ref 22), none] A C P vl kp R t := by
  have h0 := h
  obtain ⟨hx, ⟨n, ht⟩, h3, h4, h5, h6⟩ := h0
  rcases h4 with ⟨rfl, g2⟩ | ⟨R1, R2, K, P', vl', rfl, g2, g3, g4, g5, g6, g7⟩
  · refine ⟨-3, pcv_0 (fun Mo => un_n) (fun c R2 => gt_180 hfz 1000 c R2 999 (by omega) A _ _ ?_) (ST_1 h)⟩
    unfold g_180
    rw [g2]
    rfl
  · obtain ⟨A', eg, f, a1, -⟩ := m_un1 (N := 1000) (q := 52) 947 0 A (by omega)
    have ec : K 90 12 = A' 0 11 := by
      obtain ⟨d, F, ns, nv, nb, nk, hxx⟩ := g4
      rw [a1 11 (by omega) (by omega), hxx.1.2.2.2.2.2.1.2.1, hxx.1.2.2.2.1.2.1]
    refine ⟨A' 0 11, A', fun Mo => v_post (un_s (d := 998) g3 g5) ?_, fun c R2 => gt_180 hfz 1000 c R2 999 (by omega) A _ _ ?_⟩
    · rintro rv h' ⟨rfl, rfl⟩
      refine ⟨by rw [ec], _, _, _, _, _, rfl, XW_nK (XW_s (fun j hj => a1 j (by omega) hj) g4), ⟨n, TT_c (fr_at f (by decide)) (by rw [fr_at f (by decide)]) rfl ht⟩, PO_nK g5, .inr ⟨R1, R2, K, P', vl', rfl, by rw [fr_at f (by decide)]; exact g2, g3, by rw [fr_at f (by decide)]; exact g4, g5, g7, g7⟩, by omega, by omega⟩
    · rw [show 947 + 1 + 52 = 1000 from rfl, show Int32.ofNat 0 = 0 from rfl] at eg
      unfold g_180
      rw [g2, show a_ic .ne (1 : Int32) 0 = true by decide, cond_true]
      exact eg
end IU
