/-! 88a.vx: valley: what holds behind it -/
theorem l_r {R L : List aC} (i : Nat) : (R ++ L)[R.length + i]? = L[i]? := by
  rw [List.getElem?_append_right (by omega), show R.length + i - R.length = i by omega]
theorem cod_sts : ∀ V : List cl, (c_cod V).length + V.length = (c_sts V).length := by
  intro V
  induction V with
  | nil => rfl
  | cons c V ih =>
    have e1 : c_cod (c :: V) = c.1.map t_c ++ c_cod V := rfl
    have e2 : c_sts (c :: V) = (c.1.map t_m ++ [c_st c]) ++ c_sts V := rfl
    rw [e1, e2]
    simp only [List.length_append, List.length_map, List.length_cons, List.length_nil]
    omega
theorem sg_cpy {f g : Nat → Int32} {n : Nat} {l : List Int32} (h : sg f 0 l) (hl : l.length ≤ n) : sg (va_cpy f g 0 0 n) 0 l := by
  refine sg_pre (fun j hj1 hj2 => ?_) h
  unfold va_cpy
  rw [if_pos (by omega), show 0 + (j - 0) = j by omega]
section VX
variable {N : Nat} {d : dS} {F : fS} {A A' C C' : mS} {P : Nat → Option Nat} {vl : Option Nat} {R : List aC} {ns nv nb nk : Nat}
theorem XW_vf (h : XR (A 0) C P vl R d F ns nv nb nk) (hnv : nv < 5) (vs : VS (A 0) (A' 0) nv) (h16 : A' 0 16 = 0) (fc : fr [6, 7, 8, 91] C C') : XW (A' 0) (C77 C') P vl R := by
  obtain ⟨⟨hd, hf, hy, hM, hF, hC, hW⟩, ⟨hs1, hs2, hs3, hs4⟩, hv, hb, hk, hr⟩ := h
  have hn := hd.2.2.2.1
  have hfn := hd.2.2.2.2.2.2.2.1
  have v1 : ∀ j, j < 232 → j ≠ 16 → A' 0 j = A 0 j := fun j hj h6 => vs j (by unfold SL; omega) (by omega) (by omega) h6
  have c1 : ∀ i, i ≠ 6 → i ≠ 7 → i ≠ 8 → i ≠ 91 → i ≠ 90 → C77 C' i = C i := fun i h6 h7 h8 h91 h90 => by
    unfold C77
    rw [va_up_ne _ _ h90, fr_at fc (by simp; omega)]
  have c9 : ∀ f, f ≠ 1 → C77 C' 90 f = C 90 f := fun f h1 => by
    unfold C77
    rw [va_up_self, upd_ne _ _ h1, fr_at fc (by decide)]
  obtain ⟨h1, h2, h3, h4, h5, h6, h7⟩ := hM
  refine ⟨d, F, 0, nv, nb, nk, ⟨hd, hf, hy, ⟨MV_v h1 hv.2.2.2 (by omega) vs, (v1 11 (by omega) (by omega)).trans h2, fun p hp => (v1 _ (by omega) (by omega)).trans (h3 p hp), fun p hp => (v1 _ (by omega) (by omega)).trans (h4 p hp), fun j hj => (v1 _ (by omega) (by omega)).trans (h5 j hj), (v1 13 (by omega) (by omega)).trans h6, fun j hj => (v1 _ (by omega) (by omega)).trans (h7 j hj)⟩, MF_c (fun j hj => v1 j (by omega) (by omega)) hF, CD_c (c1 1 (by decide) (by decide) (by decide) (by decide) (by decide)) (c1 3 (by decide) (by decide) (by decide) (by decide) (by decide)) (c9 12 (by decide)) (c9 7 (by decide)) hC, WF_c (c1 2 (by decide) (by decide) (by decide) (by decide) (by decide)) (c9 4 (by decide)) (c9 5 (by decide)) (c9 8 (by decide)) hW⟩, ⟨by omega, h16, ?_, fun j hj => by omega⟩, ⟨hv.1, (v1 12 (by omega) (by omega)).trans hv.2.1, (c9 2 (by decide)).trans hv.2.2.1, by rw [v1 17 (by omega) (by omega)]; exact hv.2.2.2⟩, ⟨hb.1, (v1 14 (by omega) (by omega)).trans hb.2.1, (c9 14 (by decide)).trans hb.2.2.1, fun j hj => ?_⟩, ⟨hk.1, (v1 15 (by omega) (by omega)).trans hk.2.1, (c9 16 (by decide)).trans hk.2.2.1, fun j hj => ?_⟩, fun j hj hj2 => ?_⟩
  · unfold C77
    rw [va_up_self, upd_self]
    rfl
  · have := hb.1
    rw [v1 _ (by omega) (by omega), c1 4 (by decide) (by decide) (by decide) (by decide) (by decide)]
    exact hb.2.2.2 j hj
  · have := hk.1
    rw [v1 _ (by omega) (by omega), c1 5 (by decide) (by decide) (by decide) (by decide) (by decide)]
    exact hk.2.2.2 j hj
  · rw [c1 3 (by decide) (by decide) (by decide) (by decide) (by decide)]
    exact hr j hj hj2
theorem XW_vs (h : XR (A 0) C P vl R d F ns nv nb nk) (hnv : nv < 5) {z : Nat → Int32} {V : List cl} {ru gi j0 : Nat} (hs : sVal (C 0) ns 9 0 [] 0 0 = (j0, some (V, ru, gi))) (ez : A' 0 = upd (upd z 12 (Int32.ofNat (nv + 1))) 17 (Int32.ofNat nv)) (vs : VS (A 0) z nv) (h16 : z 16 = 0) (hru : z (232 + nv) = Int32.ofNat ru) (hgi : z (237 + nv) = Int32.ofNat gi) (hln : z (242 + nv) = Int32.ofNat (c_sts V).length) (hsg : sg z (247 + 140 * nv) (c_sts V)) (hl120 : (c_sts V).length ≤ 120) (hcl : CL C' (C 0) ns j0 V ru gi) (fc : fr [6, 7, 8, 91] C C') : XW (A' 0) (D77 C') P (some (R.length + 33)) (R ++ vb C' R (c_cod V).length V.length) := by
  obtain ⟨⟨hd, hf, hy, hM, hF, hC, hW⟩, ⟨hs1, hs2, hs3, hs4⟩, hv, hb, hk, hr⟩ := h
  have hn := hd.2.2.2.1
  have hfn := hd.2.2.2.2.2.2.2.1
  obtain ⟨o1, o2, o3, o4⟩ := (sVal_ok (T := C 0) (n := ns) 9 0 [] 0 0 (by simp) (by omega) (fun c hc => by cases hc) (by omega) (by omega)).1 j0 V ru gi hs
  have hcs := cod_sts V
  have v1 : ∀ j, j < 232 → j ≠ 16 → j ≠ 12 → j ≠ 17 → A' 0 j = A 0 j := fun j hj h6 h2 h7 => by
    rw [ez, upd_ne _ _ h7, upd_ne _ _ h2]
    exact vs j (by unfold SL; omega) (by omega) (by omega) h6
  have v2 : ∀ j, 232 ≤ j → A' 0 j = z j := fun j hj => by rw [ez, upd_ne _ _ (by omega), upd_ne _ _ (by omega)]
  have c1 : ∀ i, i ≠ 6 → i ≠ 7 → i ≠ 8 → i ≠ 91 → i ≠ 90 → D77 C' i = C i := fun i h6 h7 h8 h91 h90 => by
    unfold D77
    rw [va_up_ne _ _ h90, fr_at fc (by simp; omega)]
  have c9 : ∀ f, f ≠ 1 → f ≠ 2 → D77 C' 90 f = C 90 f := fun f h1 h2 => by
    unfold D77
    rw [va_up_self, upd_ne _ _ h2, upd_ne _ _ h1, fr_at fc (by decide)]
  obtain ⟨hM1, hM2, hM3, hM4, hM5, hM6, hM7⟩ := hM
  obtain ⟨hd1, hd2, hd3, hd4, hd5, hd6, hd7, hd8, hd9⟩ := hd
  obtain ⟨hC1, hC2, hC3, hC4, hC5, hC6⟩ := hC
  obtain ⟨-, ⟨-, -, l3, l6⟩, l4, l7, l8, l5, l61⟩ := hcl
  have iar_i : ∀ (i : Nat) (m : Nat) (f : Nat → Int32), (vb C' R (c_cod V).length V.length)[i]? = some (.inl (0, m, .inl f)) → iar (R ++ vb C' R (c_cod V).length V.length) (R.length + 33 + i) = some (m, f) := fun i m f hi => by
    unfold iar
    rw [if_pos (by omega), show R.length + 33 + i - 33 = R.length + i by omega, l_r, hi]
    rfl
  refine ⟨(V, Int32.ofNat ru, Int32.ofNat gi, d_n d, d_kd d, d_vv d, d_rw d, d_fo d, d_fn d), F, 0, nv + 1, nb, nk, ⟨⟨⟨o1, o2⟩, ?_, ?_, hd4, hd5, hd6, hd7, hd8, hd9⟩, hf, hy, ⟨?_, (v1 11 (by omega) (by omega) (by omega) (by omega)).trans hM2, fun p hp => ?_, fun p hp => ?_, fun j hj => ?_, (v1 13 (by omega) (by omega) (by omega) (by omega)).trans hM6, fun j hj => ?_⟩, ⟨(v1 0 (by omega) (by omega) (by omega) (by omega)).trans hF.1, (v1 1 (by omega) (by omega) (by omega) (by omega)).trans hF.2.1, (v1 2 (by omega) (by omega) (by omega) (by omega)).trans hF.2.2.1, fun p hp => (v1 _ (by omega) (by omega) (by omega) (by omega)).trans (hF.2.2.2 p hp)⟩, ⟨?_, (c9 12 (by decide) (by decide)).trans hC2, fun p hp => ?_, fun j hj => ?_, (c9 7 (by decide) (by decide)).trans hC5, fun j hj => ?_⟩, WF_c (c1 2 (by decide) (by decide) (by decide) (by decide) (by decide)) (c9 4 (by decide) (by decide)) (c9 5 (by decide) (by decide)) (c9 8 (by decide) (by decide)) hW⟩, ⟨by omega, ?_, ?_, fun j hj => by omega⟩, ⟨by omega, ?_, ?_, ?_⟩, ⟨hb.1, (v1 14 (by omega) (by omega) (by omega) (by omega)).trans hb.2.1, (c9 14 (by decide) (by decide)).trans hb.2.2.1, fun j hj => ?_⟩, ⟨hk.1, (v1 15 (by omega) (by omega) (by omega) (by omega)).trans hk.2.1, (c9 16 (by decide) (by decide)).trans hk.2.2.1, fun j hj => ?_⟩, fun j hj hj2 => ?_⟩
  · show Int32.ofNat ru = 0 ∨ Int32.ofNat ru = 1 ∨ Int32.ofNat ru = 2
    rcases (show ru = 0 ∨ ru = 1 ∨ ru = 2 by omega) with rfl | rfl | rfl
    · exact .inl rfl
    · exact .inr (.inl rfl)
    · exact .inr (.inr rfl)
  · show 0 ≤ (Int32.ofNat gi).toInt ∧ (Int32.ofNat gi).toInt < 100
    rw [z_ofNat (by omega)]
    omega
  · refine .inr ⟨nv, by omega, ?_, ?_, ?_, ?_, by show (c_sts V).length ≤ 140; omega, ?_⟩
    · rw [ez, upd_self]
    · rw [v2 _ (by omega)]; exact hru
    · rw [v2 _ (by omega)]; exact hgi
    · rw [v2 _ (by omega)]; exact hln
    · exact sg_congr (fun j hj => v2 j (by omega)) hsg
  · have hp' : p < d_n d := hp
    exact (v1 _ (by omega) (by omega) (by omega) (by omega)).trans (hM3 p hp)
  · have hp' : p < d_n d := hp
    exact (v1 _ (by omega) (by omega) (by omega) (by omega)).trans (hM4 p hp)
  · have hj' : j < 4 * d_n d := hj
    exact (v1 _ (by omega) (by omega) (by omega) (by omega)).trans (hM5 j hj)
  · have hj' : j < d_fn d := hj
    exact (v1 _ (by omega) (by omega) (by omega) (by omega)).trans (hM7 j hj)
  · refine .inr ⟨R.length + 33, R.length + 34, R.length + 35, R.length + 36, va_cpy (C' 6) (fun _ => 0) 0 0 (c_cod V).length, va_cpy (C' 7) (fun _ => 0) 0 0 V.length, va_cpy (C' 8) (fun _ => 0) 0 0 V.length, rfl, ?_, iar_i 1 _ _ rfl, iar_i 2 _ _ rfl, iar_i 3 _ _ rfl, ?_, ?_, ?_, ?_⟩
    · show vly _ _ = some (_, _, _, Int32.ofNat ru, Int32.ofNat gi)
      rw [← l5, ← l61]
      unfold vly
      rw [if_pos (by omega), show R.length + 33 - 33 = R.length + 0 by omega, l_r]
      rfl
    · show (c_cod V).length ≤ 120
      omega
    · exact sg_cpy l6 (Nat.le_refl _)
    · exact sg_cpy l7 (by rw [c_en_len]; exact Nat.le_refl _)
    · exact sg_cpy l8 (by rw [List.length_map]; exact Nat.le_refl _)
  · obtain ⟨a, h1, h2⟩ := hC3 p hp
    exact ⟨a, h1, bdr_app _ h2⟩
  · rw [c1 3 (by decide) (by decide) (by decide) (by decide) (by decide)]
    exact hC4 j hj
  · rw [c1 1 (by decide) (by decide) (by decide) (by decide) (by decide)]
    exact hC6 j hj
  · rw [ez, upd_ne _ _ (by decide), upd_ne _ _ (by decide), h16]; rfl
  · unfold D77
    rw [va_up_self, upd_ne _ _ (by decide), upd_self]
    rfl
  · rw [ez, upd_ne _ _ (by decide), upd_self]
  · unfold D77
    rw [va_up_self, upd_self, fr_at fc (by decide), hv.2.2.1]
    exact o_add (q := 1)
  · exact .inr ⟨nv, by omega, by rw [ez, upd_self]⟩
  · have := hb.1
    rw [v1 _ (by omega) (by omega) (by omega) (by omega), c1 4 (by decide) (by decide) (by decide) (by decide) (by decide)]
    exact hb.2.2.2 j hj
  · have := hk.1
    rw [v1 _ (by omega) (by omega) (by omega) (by omega), c1 5 (by decide) (by decide) (by decide) (by decide) (by decide)]
    exact hk.2.2.2 j hj
  · rw [c1 3 (by decide) (by decide) (by decide) (by decide) (by decide)]
    exact hr j hj hj2
end VX
