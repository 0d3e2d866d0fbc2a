/-! 06.step3: the steps of a_s3 -/
section AH
variable {p : Program} {l : Launch} {e : Env} {R : Room} {s : State} {m : MethodId} {args : Array Value} {below : List Frame} {meth : Method} {c : Code} {H : Heap} {locs : List Loc} {cells slots : Nat} {Q : State → Prop}
variable {cc : ByteArray} {pc : Nat} {ls : Array Slot} {B : Nat} {ad : Nat → Nat} {D : va_G} {dA : Nat → ClassId} {cl : List vw_C} {ty : Nat → Nat → FieldType} {df : List (List Value)} {TB : List Jvm.Cond} {E : String} {h : List aC} {NC : List (Bool × String × String)} {SR : List (String × Nat × String × Nat)} {sc : Nat × (Nat → Int32)}
theorem a_s3_ok (hx : p.tables.exec = Jvm.exec) (hb : c.code = cc) (hcl : a_cls cl ty df TB) (hts : ∀ w ∈ TB, w.before args s = true) {own : String} (hown : s.vm.findClass own = some m.cls) (hK : va_K D cl (a_tys dA E) s)
    (hnc : ∀ q ∈ NC, a_cst q s) (hao : va_AO E s) (hsr : ∀ q ∈ SR, vk_R q.1 q.2.1 q.2.2.1 (ad q.2.2.2) s) (hX : va_X (ad 50) sc.1 sc.2 s s.heap) (hbl : ad 50 < s.heap.size ∧ ad 50 < B) {isI : Bool} (hI : isI = true → meth.name = "<init>")
    {ins : Instr} {len : Nat} {cst : Int32} {aux : aX} (hdg : decode cc pc = .ok (ins, len)) (hk : a_k3 own isI cl TB E NC SR ins len cst aux = true)
    (hh : a_hp B ad D dA cl h H) (hS : va_S (fun q => B ≤ q) s.heap H locs)
    {i i' : Nat} {L L' : aL} {st st' : List Value} {h' : List aC} (hs : a_s3 df sc ins cst aux i L st h = some (true, i', L', st', h'))
    (hR : cells + (h'.length - h.length) ≤ R.cells ∧ slots + (a_hz h' - a_hz h) ≤ R.slots)
    (kk : ∀ (H' : Heap) (locs' : List Loc), i' = i + 1 → L' = L → h.length ≤ h'.length → a_hz h ≤ a_hz h' → a_hp B ad D dA cl h' H' → va_S (fun q => B ≤ q) s.heap H' locs' → W p l e R s m args below meth c H' locs' (cells + (h'.length - h.length)) (slots + (a_hz h' - a_hz h)) Q (F0 m (pc + len) ls (st'.map (a_cv B ad)))) :
    W p l e R s m args below meth c H locs cells slots Q (F0 m pc ls (st.map (a_cv B ad))) := by
  have same : ∀ (H' : Heap) (locs' : List Loc), i' = i + 1 → L' = L → h'.length = h.length → a_hz h' = a_hz h → a_hp B ad D dA cl h' H' → va_S (fun q => B ≤ q) s.heap H' locs' → W p l e R s m args below meth c H' locs' cells slots Q (F0 m (pc + len) ls (st'.map (a_cv B ad))) := by
    intro H' locs' e1 e2 e3 e4 e5 e6
    have := kk H' locs' e1 e2 (by omega) (by omega) e5 e6
    rwa [show cells + (h'.length - h.length) = cells by omega, show slots + (a_hz h' - a_hz h) = slots by omega] at this
  unfold a_s3 at hs
  split at hs
  case h_1 ix =>
    simp only [a_k3, Bool.and_eq_true, beq_iff_eq] at hk
    obtain ⟨rfl, hk⟩ := hk
    split at hs
    · rename_i a r f cs r2
      split at hs
      · rename_i ci fs ha
        split at hs
        · rename_i v hv
          simp only [Option.some.injEq, Prod.mk.injEq] at hs
          obtain ⟨hg, rfl, rfl, rfl, rfl⟩ := hs
          split at hk
          · rename_i f' t' cs' pl ps r3 heq
            cases heq
            obtain ⟨C, T, N, ref, h1, h2, h3, h4⟩ := a_kf_ok hk hg
            exact a_getf hx hb hcl hts hown hK hh ha h1 h2 h3 h4 hv hdg (same H locs rfl rfl rfl rfl hh hS)
          · cases hk
        · cases hs
      · cases hs
    · cases hs
  case h_2 ix =>
    simp only [a_k3, Bool.and_eq_true, beq_iff_eq] at hk
    obtain ⟨rfl, hk⟩ := hk
    split at hs
    · rename_i v a r f t cs r2
      split at hs
      · rename_i ci fs ha
        simp only [Option.some.injEq, Prod.mk.injEq, Bool.and_eq_true, decide_eq_true_eq] at hs
        obtain ⟨⟨⟨hg, hfl⟩, hfk⟩, rfl, rfl, rfl, rfl⟩ := hs
        split at hk
        · rename_i f' t' cs' pl ps r3 heq
          cases heq
          simp only [Bool.and_eq_true] at hk
          obtain ⟨C, T, N, ref, h1, h2, h3, h4⟩ := a_kf_ok hk.1 hg
          have h5 := hk.2
          unfold a_kp at h5
          simp only [List.all_eq_true] at h5
          have h6 := h5 ci (by simpa using hg)
          rw [h1] at h6
          simp only [Bool.and_eq_true, Bool.or_eq_true, beq_iff_eq] at h6
          have h7 : parseFieldDescriptor (T f).2.2.1 = some (ty ci f) := (hcl ci C T N h1).2.1 f h2
          rw [h7] at h6
          have h8 : (T f).2.2.2 = false ∨ ((T f).2.2.2 = true ∧ meth.name = "<init>" ∧ (T f).1 = own) := by
            rcases h6.2 with q | q
            · exact Or.inl q
            · cases h9 : (T f).2.2.2 with
              | false => exact Or.inl rfl
              | true => exact Or.inr ⟨rfl, hI q.1, q.2⟩
          refine a_putf hx hb hcl hts hown hK hh hS ha h1 h2 h3 h4 h8 (a_fk_ok hfk (a_kt_ok h6.1)) hfl hdg (fun H1 locs1 hh1 hS1 => ?_)
          exact same H1 locs1 rfl rfl (List.length_set ..) (a_hz_set ha (by simp [a_sz])) hh1 hS1
        · cases hk
      · cases hs
    · cases hs
  case h_3 =>
    simp only [a_k3, beq_iff_eq] at hk
    subst hk
    split at hs
    · rename_i j a r
      split at hs
      · rename_i n f ha
        simp only [Option.some.injEq, Prod.mk.injEq] at hs
        obtain ⟨hg, rfl, rfl, rfl, rfl⟩ := hs
        exact a_iald hx hb hK hh ha (a_in_ok hg) hdg (same H locs rfl rfl rfl rfl hh hS)
      · cases hs
    · rename_i j r
      simp only [Option.some.injEq, Prod.mk.injEq] at hs
      obtain ⟨hg, rfl, rfl, rfl, rfl⟩ := hs
      exact va_sld hx hb hX hbl.1 (fun q : B ≤ ad 50 => by omega) hS (a_in_ok hg) hdg (same H locs rfl rfl rfl rfl hh hS)
    · cases hs
  case h_4 =>
    simp only [a_k3, beq_iff_eq] at hk
    subst hk
    split at hs
    · rename_i x j a r
      split at hs
      · rename_i n f ha
        simp only [Option.some.injEq, Prod.mk.injEq] at hs
        obtain ⟨hg, rfl, rfl, rfl, rfl⟩ := hs
        refine a_iast hx hb hK hh hS ha (a_in_ok hg) hdg (fun H1 locs1 hh1 hS1 => ?_)
        exact same H1 locs1 rfl rfl (List.length_set ..) (a_hz_set ha rfl) hh1 hS1
      · cases hs
    · cases hs
  case h_5 =>
    simp only [a_k3, beq_iff_eq] at hk
    subst hk
    split at hs
    · rename_i j a r
      split at hs
      · rename_i n f ha
        simp only [Option.some.injEq, Prod.mk.injEq] at hs
        obtain ⟨hg, rfl, rfl, rfl, rfl⟩ := hs
        exact a_zald hx hb hK hh ha (a_in_ok hg) hdg (same H locs rfl rfl rfl rfl hh hS)
      · cases hs
    · cases hs
  case h_6 =>
    simp only [a_k3, beq_iff_eq] at hk
    subst hk
    split at hs
    · rename_i x j a r
      split at hs
      · rename_i n f ha
        simp only [Option.some.injEq, Prod.mk.injEq, Bool.and_eq_true, Bool.or_eq_true, decide_eq_true_eq] at hs
        obtain ⟨⟨hg, h01⟩, rfl, rfl, rfl, rfl⟩ := hs
        refine a_zast hx hb hK hh hS ha (a_in_ok hg) h01 hdg (fun H1 locs1 hh1 hS1 => ?_)
        exact same H1 locs1 rfl rfl (List.length_set ..) (a_hz_set ha rfl) hh1 hS1
      · cases hs
    · cases hs
  case h_7 =>
    simp only [a_k3, beq_iff_eq] at hk
    subst hk
    split at hs
    · rename_i j a r
      split at hs
      · rename_i n f ha
        simp only [Option.some.injEq, Prod.mk.injEq] at hs
        obtain ⟨hg, rfl, rfl, rfl, rfl⟩ := hs
        exact a_aald hx hb hK hh ha (a_in_ok hg) hdg (same H locs rfl rfl rfl rfl hh hS)
      · cases hs
    · cases hs
  case h_8 =>
    simp only [a_k3, Bool.and_eq_true, beq_iff_eq] at hk
    obtain ⟨rfl, hk⟩ := hk
    split at hs
    · rename_i v j a r cs r2
      split at hs
      · rename_i n f ci vs ha hv
        simp only [Option.some.injEq, Prod.mk.injEq, Bool.and_eq_true] at hs
        obtain ⟨⟨hg, hcs⟩, rfl, rfl, rfl, rfl⟩ := hs
        simp only [List.all_eq_true] at hk
        obtain ⟨q, hq, hca⟩ := a_kc_ok (hk ci (by simpa using hcs))
        refine a_aast hx hb hts hK hh hS ha hv hq (hca.imp id (fun z => hnc (true, q.1, E) z)) (a_in_ok hg) hdg (fun H1 locs1 hh1 hS1 => ?_)
        exact same H1 locs1 rfl rfl (List.length_set ..) (a_hz_set ha rfl) hh1 hS1
      · cases hs
    · rename_i j a r
      split at hs
      · rename_i n f ha
        simp only [Option.some.injEq, Prod.mk.injEq] at hs
        obtain ⟨hg, rfl, rfl, rfl, rfl⟩ := hs
        refine a_aastN hx hb hK hh hS ha (a_in_ok hg) hdg (fun H1 locs1 hh1 hS1 => ?_)
        exact same H1 locs1 rfl rfl (List.length_set ..) (a_hz_set ha rfl) hh1 hS1
      · cases hs
    · cases hs
  case h_9 =>
    simp only [a_k3, beq_iff_eq] at hk
    subst hk
    split at hs
    · rename_i a r
      split at hs
      · rename_i k x ha
        simp only [Option.some.injEq, Prod.mk.injEq, decide_eq_true_eq] at hs
        obtain ⟨hg, rfl, rfl, rfl, rfl⟩ := hs
        exact a_alen hx hb hK hh ha hg hdg (same H locs rfl rfl rfl rfl hh hS)
      · cases hs
    · rename_i r
      cases hs
      exact va_slen hx hb hX hbl.1 (fun q : B ≤ ad 50 => by omega) hS hdg (same H locs rfl rfl rfl rfl hh hS)
    · cases hs
  case h_10 ix =>
    simp only [a_k3, Bool.and_eq_true, beq_iff_eq] at hk
    obtain ⟨rfl, hk⟩ := hk
    split at hs
    · rename_i ci r2
      split at hs
      · rename_i fs hd
        cases hs
        split at hk
        · rename_i ci' p1 p2 p3 r3 heq
          cases heq
          split at hk
          · rename_i C T N hc
            simp only [Bool.and_eq_true, decide_eq_true_eq] at hk
            have hz : a_hz (h ++ [.inr (ci, fs)]) - a_hz h = N := by
              rw [a_hz_app]; show _ + fs.length - _ = _; rw [((hcl ci C T N hc).2.2.2 fs hd).1]; omega
            have hz1 : (h ++ [(.inr (ci, fs) : aC)]).length - h.length = 1 := by simp
            rw [hz, hz1] at hR
            refine a_new hx hb hcl hts hown hK hh hS hc hd (List.mem_of_getElem? hk.1.1) (List.mem_of_getElem? hk.1.2) (List.mem_of_getElem? hk.2) hR.1 hR.2 hdg (fun H1 hh1 hS1 => ?_)
            have := kk H1 locs rfl rfl (by simp) (by rw [a_hz_app]; omega) hh1 hS1
            rw [hz, hz1] at this
            exact this
          · cases hk
        · cases hk
      · cases hs
    · cases hs
  case h_11 t =>
    simp only [a_k3, Bool.and_eq_true, beq_iff_eq] at hk
    obtain ⟨rfl, hk⟩ := hk
    split at hk
    · rename_i p1 r3
      simp only [decide_eq_true_eq] at hk
      split at hs
      · rename_i n r
        simp only [Option.some.injEq, Prod.mk.injEq, Bool.and_eq_true, decide_eq_true_eq] at hs
        obtain ⟨hg, rfl, rfl, rfl, rfl⟩ := hs
        have hz : a_hz (h ++ [.inl (0, n.toNatClampNeg, .inl (fun _ => 0))]) - a_hz h = n.toNatClampNeg := by rw [a_hz_app]; show _ + n.toNatClampNeg - _ = _; omega
        have hz1 : (h ++ [(.inl (0, n.toNatClampNeg, .inl (fun _ => 0)) : aC)]).length - h.length = 1 := by simp
        rw [hz, hz1] at hR
        refine a_newi hx hb hts hK hh hS (List.mem_of_getElem? hk) hg.1 hg.2 hR.1 hR.2 hdg (fun H1 hh1 hS1 => ?_)
        have := kk H1 locs rfl rfl (by simp) (by rw [a_hz_app]; omega) hh1 hS1
        rw [hz, hz1] at this
        exact this
      · rename_i n r
        simp only [Option.some.injEq, Prod.mk.injEq, Bool.and_eq_true, decide_eq_true_eq] at hs
        obtain ⟨hg, rfl, rfl, rfl, rfl⟩ := hs
        have hz : a_hz (h ++ [.inl (1, n.toNatClampNeg, .inl (fun _ => 0))]) - a_hz h = n.toNatClampNeg := by rw [a_hz_app]; show _ + n.toNatClampNeg - _ = _; omega
        have hz1 : (h ++ [(.inl (1, n.toNatClampNeg, .inl (fun _ => 0)) : aC)]).length - h.length = 1 := by simp
        rw [hz, hz1] at hR
        refine a_newz hx hb hts hK hh hS (List.mem_of_getElem? hk) hg.1 hg.2 hR.1 hR.2 hdg (fun H1 hh1 hS1 => ?_)
        have := kk H1 locs rfl rfl (by simp) (by rw [a_hz_app]; omega) hh1 hS1
        rw [hz, hz1] at this
        exact this
      · cases hs
    · cases hk
  case h_12 ix =>
    simp only [a_k3, Bool.and_eq_true, beq_iff_eq] at hk
    obtain ⟨rfl, hk⟩ := hk
    split at hk
    · rename_i p1 r3
      simp only [decide_eq_true_eq] at hk
      split at hs
      · rename_i n r
        simp only [Option.some.injEq, Prod.mk.injEq, Bool.and_eq_true, decide_eq_true_eq] at hs
        obtain ⟨hg, rfl, rfl, rfl, rfl⟩ := hs
        have hz : a_hz (h ++ [.inl (2, n.toNatClampNeg, .inr (.inr (.inr (.inr (fun _ => none)))))]) - a_hz h = n.toNatClampNeg := by rw [a_hz_app]; show _ + n.toNatClampNeg - _ = _; omega
        have hz1 : (h ++ [(.inl (2, n.toNatClampNeg, .inr (.inr (.inr (.inr (fun _ => none))))) : aC)]).length - h.length = 1 := by simp
        rw [hz, hz1] at hR
        refine a_newq hx hb hts hown hK hh hS (List.mem_of_getElem? hk) hao hg.1 hg.2 hR.1 hR.2 hdg (fun H1 hh1 hS1 => ?_)
        have := kk H1 locs rfl rfl (by simp) (by rw [a_hz_app]; omega) hh1 hS1
        rw [hz, hz1] at this
        exact this
      · cases hs
    · cases hk
  case h_13 ix =>
    simp only [a_k3, Bool.and_eq_true, beq_iff_eq] at hk
    obtain ⟨rfl, hk⟩ := hk
    split at hs
    · cases hs
      exact lv_instN hx hb hdg (same H locs rfl rfl rfl rfl hh hS)
    · rename_i a r ys ns r2
      split at hs
      · rename_i ci fs ha
        simp only [Option.some.injEq, Prod.mk.injEq, Bool.or_eq_true] at hs
        obtain ⟨hg, rfl, rfl, rfl, rfl⟩ := hs
        split at hk
        · rename_i ys' ns' pl r3 heq
          cases heq
          split at hk
          · rename_i o i3 nm hpl
            simp only [Bool.and_eq_true, beq_iff_eq, List.all_eq_true] at hk
            obtain ⟨⟨⟨rfl, rfl⟩, hys⟩, hns⟩ := hk
            have hlk := hts _ (List.mem_of_getElem? hpl)
            have same1 := same H locs rfl rfl rfl rfl hh hS
            by_cases hy : ys.contains ci = true
            · obtain ⟨q, hq, hca⟩ := a_kc_ok (hys ci (by simpa using hy))
              rw [hy] at same1
              rcases hca with hca | hca
              · subst hca
                exact va_instS hx hb hown hlk (hK.1 ci q hq).2 (a_recv hK hh ha hq) hdg same1
              · exact va_instY hx hb hown hlk (hnc (true, q.1, nm) hca) (a_recv hK hh ha hq) hdg same1
            · have hn : ns.contains ci = true := hg.resolve_left hy
              have h1 := hns ci (by simpa using hn)
              rw [Bool.not_eq_true] at hy
              rw [hy] at same1
              unfold a_kn at h1
              split at h1
              · rename_i C T N hc
                exact va_instNo hx hb hown hlk (hnc (false, C, nm) (by simpa using h1)) (a_recv hK hh ha hc) hdg same1
              · cases h1
          · cases hk
        · cases hk
      · cases hs
    · cases hs
  case h_14 ix =>
    simp only [a_k3, Bool.and_eq_true, beq_iff_eq] at hk
    obtain ⟨rfl, hk⟩ := hk
    split at hs
    · rename_i k r2
      cases hs
      split at hk
      · rename_i k' q r3 heq
        cases heq
        split at hk
        · rename_i o i3 tx k2 hq
          simp only [Bool.and_eq_true, beq_iff_eq] at hk
          obtain ⟨⟨rfl, rfl⟩, rfl⟩ := hk
          exact va_ldcS hx hb hown (hsr _ (List.mem_of_getElem? hq)) hdg (same H locs rfl rfl rfl rfl hh hS)
        · cases hk
      · cases hk
    · cases hs
  case h_15 ix =>
    simp only [a_k3, Bool.and_eq_true, beq_iff_eq] at hk
    obtain ⟨rfl, hk⟩ := hk
    cases hs
    split at hk
    · rename_i q r3
      simp only [decide_eq_true_eq] at hk
      exact lv_ldc2 hx hb hown (hts _ (List.mem_of_getElem? hk)) hdg (same H locs rfl rfl rfl rfl hh hS)
    · cases hk
  case h_16 => cases hs
end AH
