/-! 11.main: soundness -/
section AM
variable {P : List aM} {df : List (List Value)} {tx : List (List Int32)} {sv : List (String × String × String × Value)} {sc : Nat × (Nat → Int32)} {B : Nat} {ad : Nat → Nat} {D : va_G} {dA : Nat → ClassId} {cl : List vw_C} {ty : Nat → Nat → FieldType} {E : String} {NC : List (Bool × String × String)} {SR : List (String × Nat × String × Nat)} {TB : List Jvm.Cond} {l : Launch}
/-- the table of methods is as the bytes and the words say -/
def a_prog (P : List aM) (cl : List vw_C) (TB : List Jvm.Cond) (E : String) (NC : List (Bool × String × String)) (SR : List (String × Nat × String × Nat)) (sv : List (String × String × String × Value)) : Prop :=
  ∀ (k : Nat) (y : MethodName) (bs : ByteArray) (ml : Nat) (rt : Option FieldType) (rows : List aI), P[k]? = some (y, bs, ml, rt, rows) → Cond.code y bs ml rt ∈ TB ∧ plainName y.cls = true ∧ ml ≤ 20 ∧ a_pf rows 0 = 0 ∧ ∀ (i : Nat) (row : aI), rows[i]? = some row → a_rowok y.cls (y.name == "<init>") P cl TB E NC SR sv bs rt rows i row = true
/-- our machine's run from a frame is the machine's -/
def a_snd (P : List aM) (df : List (List Value)) (tx : List (List Int32)) (sv : List (String × String × String × Value)) (sc : Nat × (Nat → Int32)) (B : Nat) (ad : Nat → Nat) (D : va_G) (dA : Nat → ClassId) (cl : List vw_C) (E : String) (NC : List (Bool × String × String)) (SR : List (String × Nat × String × Nat)) (TB : List Jvm.Cond) (l : Launch) (n : Nat) : Prop :=
  ∀ (d k i : Nat) (L : aL) (st : List Value) (h : List aC) (r : Option Value) (hf : List aC), a_go P df tx sv sc n d k i L st h = some (r, hf) →
  ∀ (y : MethodName) (bs : ByteArray) (ml : Nat) (rt : Option FieldType) (rows : List aI), P[k]? = some (y, bs, ml, rt, rows) →
  ∀ (p : Program) (e : Env) (R : Room) (s : State) (m : MethodId) (args : Array Value) (below : List Frame) (meth : Method) (c : Code) (H : Heap) (locs : List Loc) (ls : Array Slot) (nb zb : Nat),
  p.tables.exec = Jvm.exec → c.code = bs → c.maxLocals = ml → L.length = ml → s.vm.findClass y.cls = some m.cls → (∀ w ∈ TB, w.before args s = true) → a_wor B ad D dA cl E NC SR tx sv sc s → meth.sig.returnType = rt → meth.locks = false → meth.name = y.name →
  a_lo B ad ls L → a_hp B ad D dA cl h H → va_S (fun q => B ≤ q) s.heap H locs → d + 1 ≤ R.frames → 40 * (d + 1) ≤ R.locals → nb ≤ h.length → zb ≤ a_hz h → hf.length - nb ≤ R.cells → a_hz hf - zb ≤ R.slots →
  W p l e R s m args below meth c H locs (h.length - nb) (a_hz h - zb) (MQ below (a_Qc B ad D dA cl r hf) args s (hf.length - nb) (a_hz hf - zb) (fun q => B ≤ q)) (F0 m (a_pf rows i) ls (st.map (a_cv B ad)))
/-- a contract out of a run -/
theorem a_met {n : Nat} (hsnd : a_snd P df tx sv sc B ad D dA cl E NC SR TB l n) (hpr : a_prog P cl TB E NC SR sv) {d k : Nat} {As : List Value} {h hf : List aC} {r : Option Value} {y : MethodName} {bs : ByteArray} {ml : Nat} {rt : Option FieldType} {rows : List aI} (hP : P[k]? = some (y, bs, ml, rt, rows))
    (hl : As.length ≤ ml) (hc : As.all (fun v => v.category == 1) = true) (hg : a_go P df tx sv sc n d k 0 (a_ent ml As) [] h = some (r, hf)) :
    Met l y (Cond.code y bs ml rt :: TB) ({ frames := d + 1, cells := hf.length - h.length, slots := a_hz hf - a_hz h, locals := 40 * (d + 1) } : Room) (a_Pc B ad D dA cl E NC SR tx sv sc As h) (a_Qc B ad D dA cl r hf) (hf.length - h.length) (a_hz hf - a_hz h) (fun q => B ≤ q) := by
  obtain ⟨hcode, hpl, hml20, hpf, hrows⟩ := hpr k y bs ml rt rows hP
  refine Met.ofW (cc := bs) (maxL := ml) (ret := rt) hpl rfl ?_
  intro p e s m args below meth c s₁ Bd hml hv
  obtain ⟨rfl, hhp, hwor⟩ := hv
  have hts := atoms_spec (ws := Cond.code y bs ml rt :: TB) Bd.pre
  obtain ⟨hent, hentl⟩ := a_entry (B := B) (ad := ad) hl hc
  have hnm : meth.name = y.name := (name_of_methodNamed Bd.named Bd.method).1
  have := hsnd d k 0 (a_ent ml As) [] h r hf hg y bs ml rt rows hP p e (headSpec (Cond.code y bs ml rt :: TB) ({ frames := d + 1, cells := hf.length - h.length, slots := a_hz hf - a_hz h, locals := 40 * (d + 1) } : Room)).room s m (As.map (a_cv B ad)).toArray below meth c s.heap [] _ h.length (a_hz h) Bd.exec Bd.bytes hml hentl (findClass_of_methodNamed Bd.named) (fun w hw => hts w (List.mem_cons_of_mem _ hw)) hwor Bd.returns Bd.notSynchronized hnm hent hhp va_S.rf (Nat.le_refl _) (Nat.le_refl _) (Nat.le_refl _) (Nat.le_refl _) (Nat.le_refl _) (Nat.le_refl _)
  rw [Nat.sub_self, Nat.sub_self, hpf] at this
  rw [lg_entry_eq]
  exact this
theorem a_sound (hpr : a_prog P cl TB E NC SR sv) (hcl : a_cls cl ty df TB) (hgd : TB.all goodWord = true) : ∀ n, a_snd P df tx sv sc B ad D dA cl E NC SR TB l n := by
  intro n
  induction n with
  | zero => intro d k i L st h r hf hg; simp [a_go] at hg
  | succ n ih =>
    intro d k i L st h r hf hg y bs ml rt rows hP p e R s m args below meth c H locs ls nb zb hx hb hml hLl hown hts hw hr hlk hnm hlo hh hS hfr hloc hnb hzb hRc hRs
    obtain ⟨hcode, hpl, hml20, hpf, hrows⟩ := hpr k y bs ml rt rows hP
    have hgr := a_go_gr P df tx sv sc _ _ _ _ _ _ _ _ _ hg
    have hsz : ls.size = ml := by rw [← hLl]; exact hlo.1.1
    simp only [a_go] at hg
    rw [hP] at hg
    simp only at hg
    split at hg
    · cases hg
    · rename_i pc ins len cst aux hrow
      have hok := hrows i _ hrow
      have hpc : a_pf rows i = pc := by unfold a_pf; rw [hrow]
      simp only [a_rowok, Bool.and_eq_true, Bool.or_eq_true, decide_eq_true_eq] at hok
      obtain ⟨hdg, hok⟩ := hok
      have hdg2 : decode bs (a_pf rows i) = .ok (ins, len) := by rw [hpc]; exact hdg
      split at hg
      · rename_i g q hs
        obtain ⟨rfl, hg⟩ := a_bif hg
        cases hg
        have hok := hok.resolve_left (by simp [a_dead, a_fin_ct hs])
        rw [a_fin_ct hs] at hok
        simp only at hok
        exact a_fin_ok hx hb hr hlk hdg2 hok hs (fun t ht hW => ⟨rfl, by rw [ht]; exact hh, hS.F ht⟩) hS.2.2
      · split at hg
        · rename_i k' As rest hs
          split at hg
          · cases hg
          · rename_i d'
            split at hg
            · cases hg
            · rename_i y' bs' ml' rt' rows' hP'
              obtain ⟨hgd2, hg⟩ := a_bif hg
              simp only [Bool.and_eq_true, decide_eq_true_eq] at hgd2
              obtain ⟨⟨hrest, hAl⟩, hcat⟩ := hgd2
              split at hg
              · rename_i rv h1 hg1
                have hct := a_cal_ct hs
                have hok := hok.resolve_left (by simp [a_dead, hct.1, a_isc_ne hct.2])
                rw [hct.1] at hok
                simp only [hct.2, cond_true, Bool.and_eq_true, beq_iff_eq] at hok
                obtain ⟨hcode', -, hml20', -, -⟩ := hpr k' y' bs' ml' rt' rows' hP'
                have hgr1 := a_go_gr P df tx sv sc _ _ _ _ _ _ _ _ _ hg1
                have hgr2 := a_go_gr P df tx sv sc _ _ _ _ _ _ _ _ _ hg
                have hM := a_met (l := l) ih hpr hP' hAl hcat hg1
                have hfit : h.length - nb + (h1.length - h.length) ≤ R.cells ∧ a_hz h - zb + (a_hz h1 - a_hz h) ≤ R.slots := by
                  have := hgr1.1; have := hgr1.2; have := hgr2.1; have := hgr2.2
                  exact ⟨by omega, by omega⟩
                obtain ⟨hlen, hrun⟩ := a_cal_ok (p := p) (l := l) (e := e) (below := below) (meth := meth) (pc := a_pf rows i) hx hb hml hsz hts hown hw hgd hdg2 hok.1 hh hS hs hP' hcode' hml20' hM hrest (by omega) (by omega) hfit
                subst hlen
                refine a_behind hrun hS (fun H1 locs1 hh1 hS1 => ?_)
                have := ih (d' + 1) k (i + 1) L (rv.toList ++ rest) h1 r hf hg y bs ml rt rows hP p e R s m args below meth c H1 locs1 ls nb zb hx hb hml hLl hown hts hw hr hlk hnm hlo hh1 hS1 hfr hloc (Nat.le_trans hnb hgr1.1) (Nat.le_trans hzb hgr1.2) hRc hRs
                rw [show h1.length - nb = h.length - nb + (h1.length - h.length) by have := hgr1.1; omega, show a_hz h1 - zb = a_hz h - zb + (a_hz h1 - a_hz h) by have := hgr1.2; omega, hok.2, ← hpc, List.map_append] at this
                have hopt : (rv.toList).map (a_cv B ad) = (rv.map (a_cv B ad)).toList := by cases rv <;> rfl
                rw [hopt] at this
                exact this
              · cases hg
        · split at hg
          · rename_i g i' L' st' h' hs
            obtain ⟨rfl, hg⟩ := a_bif hg
            have hok := hok.resolve_left (by simp [a_dead, a_s1_ct hs])
            rw [a_s1_ct hs] at hok
            simp only [Bool.and_eq_true, beq_iff_eq] at hok
            refine a_s1_ok hx hb hdg2 hok.1 hlo hs (fun ls' e1 e2 e3 hlo' => ?_)
            subst e1; subst e2
            have := ih d k (i + 1) L' st' h' r hf hg y bs ml rt rows hP p e R s m args below meth c H locs ls' nb zb hx hb hml (e3.trans hLl) hown hts hw hr hlk hnm hlo' hh hS hfr hloc hnb hzb hRc hRs
            rw [hok.2, ← hpc] at this
            exact this
          · split at hg
            · rename_i g i' L' st' h' hs
              obtain ⟨rfl, hg⟩ := a_bif hg
              have hok := hok.resolve_left (by simp [a_dead, a_s2_ct hs])
              rw [a_s2_ct hs] at hok
              simp only at hok
              refine a_s2_ok hx hb hdg2 hok hs (fun e1 e2 => ?_)
              subst e1; subst e2
              exact ih d k i' L' st' h' r hf hg y bs ml rt rows hP p e R s m args below meth c H locs ls nb zb hx hb hml hLl hown hts hw hr hlk hnm hlo hh hS hfr hloc hnb hzb hRc hRs
            · split at hg
              · rename_i g i' L' st' h' hs
                obtain ⟨rfl, hg⟩ := a_bif hg
                have hct := a_s3_ct hs
                have hok := hok.resolve_left (by simp [a_dead, hct.1])
                rw [hct.1] at hok
                simp only [hct.2, cond_false, Bool.and_eq_true, beq_iff_eq] at hok
                have hgr1 := a_s3_gr hs
                have hgr2 := a_go_gr P df tx sv sc _ _ _ _ _ _ _ _ _ hg
                have hfit : h.length - nb + (h'.length - h.length) ≤ R.cells ∧ a_hz h - zb + (a_hz h' - a_hz h) ≤ R.slots := by
                  have := hgr1.1; have := hgr1.2; have := hgr2.1; have := hgr2.2
                  exact ⟨by omega, by omega⟩
                refine a_s3_ok hx hb hcl hts hown hw.1 hw.2.1.1 hw.2.1.2 hw.2.2.1 hw.2.2.2.1.1 hw.2.2.2.1.2 (fun q => by rw [hnm]; simpa using q) hdg2 hok.1 hh hS hs hfit (fun H' locs' e1 e2 _ _ hh' hS' => ?_)
                subst e1; subst e2
                have := ih d k (i + 1) L' st' h' r hf hg y bs ml rt rows hP p e R s m args below meth c H' locs' ls nb zb hx hb hml hLl hown hts hw hr hlk hnm hlo hh' hS' hfr hloc (Nat.le_trans hnb hgr1.1) (Nat.le_trans hzb hgr1.2) hRc hRs
                rw [show h'.length - nb = h.length - nb + (h'.length - h.length) by have := hgr1.1; omega, show a_hz h' - zb = a_hz h - zb + (a_hz h' - a_hz h) by have := hgr1.2; omega, hok.2, ← hpc] at this
                exact this
              · split at hg
                · rename_i g i' L' st' h' hs
                  obtain ⟨rfl, hg⟩ := a_bif hg
                  have hct := a_s4_ct hs
                  have hok := hok.resolve_left (by simp [a_dead, hct.1, hct.2.2])
                  rw [hct.1] at hok
                  simp only [hct.2.1, cond_false, Bool.and_eq_true, beq_iff_eq] at hok
                  have hgr2 := hgr
                  refine a_s4_ok hx hb (hml.trans hsz.symm) hts hown hw.1 hdg2 hok.1 hh hS (by omega) (by omega) (by have := hgr.1; omega) (by have := hgr.2; omega) hs (fun H' locs' e1 e2 e3 e4 hh' hS' => ?_)
                  subst e1; subst e2
                  have := ih d k (i + 1) L' st' h' r hf hg y bs ml rt rows hP p e R s m args below meth c H' locs' ls nb zb hx hb hml hLl hown hts hw hr hlk hnm hlo hh' hS' hfr hloc (by omega) (by omega) hRc hRs
                  rw [e3, e4, hok.2, ← hpc] at this
                  exact this
                · split at hg
                  · rename_i g i' L' st' h' hs
                    obtain ⟨rfl, hg⟩ := a_bif hg
                    have hk5 : a_k5 y.cls TB sv ins len aux = true ∧ a_pf rows (i + 1) = pc + len := by
                      have hok := hok.resolve_left (by rcases a_s5_ct hs with hct | ⟨hct, -⟩ <;> simp [a_dead, hct])
                      rcases a_s5_ct hs with hct | ⟨hct, h9 | h9 | h9⟩
                      · rw [hct] at hok
                        simpa only [Bool.and_eq_true, beq_iff_eq] using hok
                      · rw [hct] at hok
                        simpa only [h9, cond_true, Bool.and_eq_true, beq_iff_eq] using hok
                      · subst h9
                        simpa [a_ct, a_is9, a_k3, a_k5] using hok
                      · subst h9
                        simpa [a_ct, a_is9, a_k3, a_k5] using hok
                    refine a_s5_ok hx hb hts hown hw.2.2.2.2.1 hw.2.2.2.2.2.1 hdg2 hk5.1 hS hs (fun e1 e2 e3 => ?_)
                    subst e1; subst e2; subst e3
                    have := ih d k (i + 1) L' st' h' r hf hg y bs ml rt rows hP p e R s m args below meth c H locs ls nb zb hx hb hml hLl hown hts hw hr hlk hnm hlo hh hS hfr hloc hnb hzb hRc hRs
                    rw [hk5.2, ← hpc] at this
                    exact this
                  · cases hg
end AM
