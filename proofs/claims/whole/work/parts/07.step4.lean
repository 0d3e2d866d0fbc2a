/-! 07.step4: Math.max and min, arraycopy, Object(); String constants and statics -/
def a_k4 (own : String) (TB : List Jvm.Cond) (ins : Instr) (len : Nat) (aux : aX) : Bool := match ins with
  | .invokestatic ix => len == 3 && match aux with
    | [1] :: [p1, p2, p3, p4] :: _ => decide (TB[p1]? = some (Jvm.Cond.methodLink own ix Lib.Math.max.name)) && decide (TB[p2]? = some (Jvm.Cond.static Lib.Math.max.name)) && decide (TB[p3]? = some (Jvm.Cond.initialized "java/lang/Math")) && decide (TB[p4]? = some (Jvm.Cond.code Lib.Math.max.name Lib.Math.max.code 2 (some .int)))
    | [2] :: [p1, p2, p3, p4] :: _ => decide (TB[p1]? = some (Jvm.Cond.methodLink own ix Lib.Math.min.name)) && decide (TB[p2]? = some (Jvm.Cond.static Lib.Math.min.name)) && decide (TB[p3]? = some (Jvm.Cond.initialized "java/lang/Math")) && decide (TB[p4]? = some (Jvm.Cond.code Lib.Math.min.name Lib.Math.min.code 2 (some .int)))
    | [3] :: [p1, p2, p3, p4] :: _ => decide (TB[p1]? = some (Jvm.Cond.methodLink own ix arraycopyName)) && decide (TB[p2]? = some (Jvm.Cond.native arraycopyName)) && decide (TB[p3]? = some (Jvm.Cond.static arraycopyName)) && decide (TB[p4]? = some (Jvm.Cond.initialized "java/lang/System"))
    | _ => false
  | .invokespecial ix => len == 3 && match aux with
    | [1] :: [p1, p2, p3] :: _ => decide (TB[p1]? = some (Jvm.Cond.methodLink own ix objectInit)) && decide (TB[p2]? = some (Jvm.Cond.instanceMethod objectInit)) && decide (TB[p3]? = some (Jvm.Cond.code objectInit ⟨#[0xb1]⟩ 1 none))
    | _ => false
  | _ => false
def a_k5 (own : String) (TB : List Jvm.Cond) (sv : List (String × String × String × Value)) (ins : Instr) (len : Nat) (aux : aX) : Bool := match ins with
  | .getfield ix => len == 3 && match aux with
    | [0, 9] :: [p1] :: _ => decide (TB[p1]? = some (Jvm.Cond.fieldLink own ix "java/lang/String" "value" "[B"))
    | [1, 9] :: [p1] :: _ => decide (TB[p1]? = some (Jvm.Cond.fieldLink own ix "java/lang/String" "coder" "B"))
    | _ => false
  | .arraylength => len == 1
  | .baload => len == 1
  | .getstatic ix => len == 3 && match aux with
    | [j] :: [p1] :: _ => match sv[j]? with
      | some (C, n, d, _) => decide (TB[p1]? = some (Jvm.Cond.fieldLink own ix C n d))
      | none => false
    | _ => false
  | .i2c => len == 1
  | _ => false
theorem a_catmap (B : Nat) (ad : Nat → Nat) (r : List Value) : ((r.map (a_cv B ad)).map fun v => v.category).sum = (r.map fun v => v.category).sum := by
  rw [List.map_map]
  congr 1
  exact List.map_congr_left (fun v _ => a_cv_cat B ad v)
section AH
variable {p : Program} {l : Launch} {e : Env} {R : Room} {s : State} {m : MethodId} {args : Array Value} {below : List Frame} {meth : Method} {c : Code} {H : Heap} {locs : List Loc} {cells slots : Nat} {Q : State → Prop}
variable {cc : ByteArray} {pc : Nat} {ls : Array Slot} {B : Nat} {ad : Nat → Nat} {D : va_G} {dA : Nat → ClassId} {cl : List vw_C} {TB : List Jvm.Cond} {E : String} {h : List aC} {H0 : Heap}
theorem a_copy (hx : p.tables.exec = Jvm.exec) (hb : c.code = cc) (hml : c.maxLocals = ls.size) {own : String} (hown : s.vm.findClass own = some m.cls) (hts : ∀ w ∈ TB, w.before args s = true) {ix : Nat} (h1 : Cond.methodLink own ix arraycopyName ∈ TB) (h2 : Cond.native arraycopyName ∈ TB) (h3 : Cond.static arraycopyName ∈ TB) (h4 : Cond.initialized "java/lang/System" ∈ TB)
    (hK : va_K D cl (a_tys dA E) s) (hh : a_hp B ad D dA cl h H) (hS : va_S (fun q => B ≤ q) H0 H locs) {a0 a n0 n1 : Nat} {f g : Nat → Int32} (ha0 : h[a0]? = some (.inl (0, n0, .inl f))) (ha : h[a]? = some (.inl (0, n1, .inl g)))
    {sp dp n : Int32} (q1 : ¬ sp < 0) (q2 : ¬ dp < 0) (q3 : ¬ n < 0) (q4 : sp.toNatClampNeg + n.toNatClampNeg ≤ n0) (q5 : dp.toNatClampNeg + n.toNatClampNeg ≤ n1) {rest : List Value}
    (hframes : 1 ≤ R.frames) (hlocals : (rest.map fun v => v.category).sum + (nativeFrameWords "java/lang/System" "arraycopy" 5 + 11) ≤ R.locals) (hdg : decode cc pc = .ok (.invokestatic ix, 3))
    (kk : ∀ (H1 : Heap) (locs1 : List Loc), a_hp B ad D dA cl (h.set a (.inl (0, n1, .inl (va_cpy f g sp.toNatClampNeg dp.toNatClampNeg n.toNatClampNeg)))) H1 → va_S (fun q => B ≤ q) H0 H1 locs1 → W p l e R s m args below meth c H1 locs1 cells slots Q (F0 m (pc + 3) ls rest)) : W p l e R s m args below meth c H locs cells slots Q (F0 m pc ls (.int n :: .int dp :: .ref (B + a) :: .int sp :: .ref (B + a0) :: rest)) := by
  have nn : ∀ z : Int32, ¬ z < 0 → z.toInt = (z.toNatClampNeg : Int) := by
    intro z hz
    have hz0 : (0 : Int) ≤ z.toInt := by simpa using Int32.le_iff_toInt_le.mp (Int32.not_lt.mp hz)
    show z.toInt = ((z.toInt.toNat : Nat) : Int)
    omega
  have hc0 : H[B + a0]? = some (vp_cell (dA 0) (n0, .inl f)) := hh.2 a0 _ ha0
  have hc1 : H[B + a]? = some (vp_cell (dA 0) (n1, .inl g)) := hh.2 a _ ha
  obtain ⟨-, k0, hk0, cm0, hkk0⟩ := (hK.2 0 (dA 0, .int) rfl).1 n0 (fun j => .int (f j))
  obtain ⟨-, k1, hk1, cm1, hkk1⟩ := (hK.2 0 (dA 0, .int) rfl).1 n1 (fun j => .int (g j))
  intro T hT X
  obtain ⟨vm', X', step⟩ := X.arraycopy hx hown (hts _ h1) (hts _ h2) (hts _ h3) (hts _ h4) (src := B + a0) (dst := B + a) (cs := vp_cell (dA 0) (n0, .inl f)) (cd := vp_cell (dA 0) (n1, .inl g)) (srcPos := sp) (destPos := dp) (n := n) (by rw [hT]; exact hc0) (by rw [hT]; exact hc1)
    (fun _ h => by cases h) (fun _ h => by cases h) (fun h => by cases h) (fun h => by cases h) hk0 hk1 hkk0 hkk1 (by simp [refKind]) q1 q2 q3
    (by rw [nn sp q1, nn n q3]; show ¬ _ > ((arrV (dA 0) n0 (fun j => .int (f j))).slots.size : Int); rw [arrV_size]; omega)
    (by rw [nn dp q2, nn n q3]; show ¬ _ > ((arrV (dA 0) n1 (fun j => .int (g j))).slots.size : Int); rw [arrV_size]; omega)
    (fun vm₁ _ i hi => by
      have e : (vp_cell (dA 0) (n0, .inl f)).slots.getD (sp.toNatClampNeg + i) .null = .int (f (sp.toNatClampNeg + i)) := by
        show (arrV (dA 0) n0 (fun j => .int (f j))).slots.getD _ _ = _
        rw [Array.getD_eq_getD_getElem?, arrV_read _ _ (by omega)]
        rfl
      refine ⟨?_, ?_⟩
      · rw [e]
        rfl
      · rw [e]
        exact trivial)
    (g := F0 m pc ls (.int n :: .int dp :: .ref (B + a) :: .int sp :: .ref (B + a0) :: rest)) rfl (by rw [hml]) (rest := rest) rfl (by rw [hb]; exact hdg) hframes (by show 2 * 0 + _ + _ ≤ _; omega)
  have e1 : copied (vp_cell (dA 0) (n0, .inl f)) (vp_cell (dA 0) (n1, .inl g)) sp dp n = vp_cell (dA 0) (n1, .inl (va_cpy f g sp.toNatClampNeg dp.toNatClampNeg n.toNatClampNeg)) := va_copied (fun z => .int z) (dA 0) (dA 0) f g q4
  rw [e1] at X' step
  have hl : B + a < H.size := (Array.getElem?_eq_some_iff.mp hc1).1
  have hheap : ((T.setVm vm').setCell (B + a) (vp_cell (dA 0) (n1, .inl (va_cpy f g sp.toNatClampNeg dp.toNatClampNeg n.toNatClampNeg)))).heap = H.setIfInBounds (B + a) (vp_cell (dA 0) (n1, .inl (va_cpy f g sp.toNatClampNeg dp.toNatClampNeg n.toNatClampNeg))) := by rw [← hT]; rfl
  have oq : ∀ q : Nat, q ≠ B + a → (H.setIfInBounds (B + a) (vp_cell (dA 0) (n1, .inl (va_cpy f g sp.toNatClampNeg dp.toNatClampNeg n.toNatClampNeg))))[q]? = H[q]? := fun q hq => by simp [Array.getElem?_setIfInBounds, Ne.symm hq]
  have hz : (H.setIfInBounds (B + a) (vp_cell (dA 0) (n1, .inl (va_cpy f g sp.toNatClampNeg dp.toNatClampNeg n.toNatClampNeg)))).size = H.size := by simp
  obtain ⟨t, a1, b1⟩ := kk _ _ (a_hp_set hh ha hz oq (show (H.setIfInBounds (B + a) _)[B + a]? = some _ by simp [Array.getElem?_setIfInBounds, hl]; rfl)) ⟨by rw [hz]; exact hS.1, fun q g1 g2 => by
      rw [oq q (fun e => g2 (by show B ≤ q; omega))]
      exact hS.2.1 q g1 g2, fun q hq => by
      rcases List.mem_append.mp hq with h | h
      · exact hS.2.2 q h
      · obtain ⟨z, -, hz⟩ := List.mem_map.mp h
        rw [← hz]
        exact Nat.le_add_right B a⟩ _ hheap X'
  exact ⟨t, step t a1, b1⟩
theorem a_s4_ok (hx : p.tables.exec = Jvm.exec) (hb : c.code = cc) (hml : c.maxLocals = ls.size) (hts : ∀ w ∈ TB, w.before args s = true) {own : String} (hown : s.vm.findClass own = some m.cls) (hK : va_K D cl (a_tys dA E) s)
    {ins : Instr} {len : Nat} {aux : aX} (hdg : decode cc pc = .ok (ins, len)) (hk : a_k4 own TB ins len aux = true)
    (hh : a_hp B ad D dA cl h H) (hS : va_S (fun q => B ≤ q) s.heap H locs) (hfr : 1 ≤ R.frames) (hloc : 40 ≤ R.locals) (hce : cells ≤ R.cells) (hsl : slots ≤ R.slots)
    {i i' : Nat} {L L' : aL} {st st' : List Value} {h' : List aC} (hs : a_s4 ins aux i L st h = some (true, i', L', st', h'))
    (kk : ∀ (H' : Heap) (locs' : List Loc), i' = i + 1 → L' = L → h'.length = h.length → a_hz h' = a_hz h → a_hp B ad D dA cl h' H' → va_S (fun q => B ≤ q) s.heap H' locs' → W p l e R s m args below meth c H' locs' cells slots Q (F0 m (pc + len) ls (st'.map (a_cv B ad)))) :
    W p l e R s m args below meth c H locs cells slots Q (F0 m pc ls (st.map (a_cv B ad))) := by
  have hcp : nativeFrameWords "java/lang/System" "arraycopy" 5 + 11 ≤ 32 := by decide +kernel
  unfold a_s4 at hs
  split at hs
  case h_1 ix =>
    simp only [a_k4, Bool.and_eq_true, beq_iff_eq] at hk
    obtain ⟨rfl, hk⟩ := hk
    split at hs
    · split at hk
      · rename_i p1 p2 p3 p4 r4 heq
        simp only [Bool.and_eq_true, decide_eq_true_eq] at hk
        split at hs
        · simp only [Option.some.injEq, Prod.mk.injEq, decide_eq_true_eq] at hs
          obtain ⟨hg, rfl, rfl, rfl, rfl⟩ := hs
          exact va_mmax hx hb hml hown (hts _ (List.mem_of_getElem? hk.1.1.1)) (hts _ (List.mem_of_getElem? hk.1.1.2)) (hts _ (List.mem_of_getElem? hk.1.2)) (hts _ (List.mem_of_getElem? hk.2)) hfr (by rw [a_catmap]; omega) hce hsl hdg (kk H locs rfl rfl rfl rfl hh hS)
        · cases hs
      · rename_i heq; cases heq
      · rename_i heq; cases heq
      · cases hk
    · split at hk
      · rename_i heq; cases heq
      · rename_i p1 p2 p3 p4 r4 heq
        simp only [Bool.and_eq_true, decide_eq_true_eq] at hk
        split at hs
        · simp only [Option.some.injEq, Prod.mk.injEq, decide_eq_true_eq] at hs
          obtain ⟨hg, rfl, rfl, rfl, rfl⟩ := hs
          exact va_mmin hx hb hml hown (hts _ (List.mem_of_getElem? hk.1.1.1)) (hts _ (List.mem_of_getElem? hk.1.1.2)) (hts _ (List.mem_of_getElem? hk.1.2)) (hts _ (List.mem_of_getElem? hk.2)) hfr (by rw [a_catmap]; omega) hce hsl hdg (kk H locs rfl rfl rfl rfl hh hS)
        · cases hs
      · rename_i heq; cases heq
      · cases hk
    · split at hk
      · rename_i heq; cases heq
      · rename_i heq; cases heq
      · rename_i p1 p2 p3 p4 r4 heq
        simp only [Bool.and_eq_true, decide_eq_true_eq] at hk
        split at hs
        · split at hs
          · rename_i n0 f n1 g hb0 ha0
            simp only [Option.some.injEq, Prod.mk.injEq, Bool.and_eq_true, decide_eq_true_eq] at hs
            obtain ⟨hg, rfl, rfl, rfl, rfl⟩ := hs
            refine a_copy hx hb hml hown hts (List.mem_of_getElem? hk.1.1.1) (List.mem_of_getElem? hk.1.1.2) (List.mem_of_getElem? hk.1.2) (List.mem_of_getElem? hk.2) hK hh hS hb0 ha0 hg.1.1.1.1.2 hg.1.1.1.2 hg.1.1.2 hg.1.2 hg.2 hfr (by rw [a_catmap]; omega) hdg (fun H1 locs1 hh1 hS1 => ?_)
            exact kk H1 locs1 rfl rfl (List.length_set ..) (a_hz_set ha0 rfl) hh1 hS1
          · cases hs
        · cases hs
      · cases hk
    · cases hs
  case h_2 ix =>
    simp only [a_k4, Bool.and_eq_true, beq_iff_eq] at hk
    obtain ⟨rfl, hk⟩ := hk
    split at hs
    · split at hk
      · rename_i p1 p2 p3 r4 heq
        simp only [Bool.and_eq_true, decide_eq_true_eq] at hk
        split at hs
        · simp only [Option.some.injEq, Prod.mk.injEq, decide_eq_true_eq] at hs
          obtain ⟨hg, rfl, rfl, rfl, rfl⟩ := hs
          rename_i a r
          refine W.objInit hx hb hown (hts _ (List.mem_of_getElem? hk.1.1)) (hts _ (List.mem_of_getElem? hk.1.2)) (hts _ (List.mem_of_getElem? hk.2)) rfl hml.symm rfl hdg hfr ?_ ?_
          · show 2 * 0 + ((r.map (a_cv B ad)).map fun v => v.category).sum + 12 ≤ _
            rw [a_catmap]; omega
          · exact kk H locs rfl rfl rfl rfl hh hS
        · cases hs
      · cases hk
    · cases hs
  case h_3 => cases hs
end AH
