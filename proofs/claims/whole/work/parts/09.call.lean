/-! 09.call: calls of methods that are walked -/
def a_mh (o : String) : Bool := decide (o ≠ "java/lang/invoke/MethodHandle") && decide (o ≠ "java/lang/invoke/VarHandle")
def a_np (y : MethodName) (n : Nat) : Bool := decide ((parseMethodDescriptor y.desc).map (fun d => d.parameters.length) = some n)
/-- an entry of a virtual call: class, method, form, places -/
def a_ke (own : String) (TB : List Jvm.Cond) (cl : List vw_C) (P : List aM) (ix n : Nat) (ent : List Nat) : Bool := match ent with
  | [ci, k, 0, p1, p2, p3, p4] => match cl[ci]?, P[k]? with
    | some (C, _, _), some (y, _, _, _, _) => decide (TB[p1]? = some (Jvm.Cond.methodLink own ix y)) && decide (TB[p2]? = some (Jvm.Cond.instanceMethod y)) && decide (TB[p3]? = some (Jvm.Cond.selects C y y)) && decide (TB[p4]? = some (Jvm.Cond.initialized C)) && decide (y.cls = C) && a_mh y.cls && a_np y n
    | _, _ => false
  | [ci, k, 1, p1, p2, p3, p4, p5] => match cl[ci]?, P[k]?, TB[p1]?, TB[p2]? with
    | some (C, _, _), some (y, _, _, _, _), some (.methodLink o i x), some (.sameMethod xc ow xn xd) => decide (o = own) && decide (i = ix) && decide (xc = x.cls) && decide (xn = x.name) && decide (xd = x.desc) && decide (TB[p3]? = some (Jvm.Cond.selects C x y)) && decide (TB[p4]? = some (Jvm.Cond.instanceMethod y)) && decide (TB[p5]? = some (Jvm.Cond.initialized y.cls)) && decide (y = ⟨ow, x.name, x.desc⟩) && a_mh ow && a_np x n
    | _, _, _, _ => false
  | [ci, k, 2, p1, p2, p3, p4, p5, p6, p7] => match cl[ci]?, P[k]?, TB[p1]?, TB[p2]?, TB[p7]? with
    | some (C, _, _), some (y, _, _, _, _), some (.methodLink o i x), some (.sameMethod xc ow xn xd), some (.code z _ _ _) => decide (o = own) && decide (i = ix) && decide (xc = x.cls) && decide (xn = x.name) && decide (xd = x.desc) && decide (TB[p3]? = some (Jvm.Cond.selects C x y)) && decide (TB[p4]? = some (Jvm.Cond.instanceMethod y)) && decide (TB[p5]? = some (Jvm.Cond.initialized y.cls)) && decide (TB[p6]? = some (Jvm.Cond.instanceMethod ⟨ow, x.name, x.desc⟩)) && decide (z = ⟨ow, x.name, x.desc⟩) && a_mh ow && a_np x n
    | _, _, _, _, _ => false
  | _ => false
def a_kq (own : String) (TB : List Jvm.Cond) (cl : List vw_C) (P : List aM) (ins : Instr) (len : Nat) (aux : aX) : Bool := len == 3 && match ins with
  | .invokestatic ix => match aux with
    | [0, k, n] :: [p1, p2, p3] :: _ => match P[k]? with
      | some (y, _, _, _, _) => decide (TB[p1]? = some (Jvm.Cond.methodLink own ix y)) && decide (TB[p2]? = some (Jvm.Cond.static y)) && decide (TB[p3]? = some (Jvm.Cond.initialized y.cls)) && a_mh y.cls && a_np y n
      | none => false
    | [6, k, n] :: [p1, p2, p3, p4] :: _ => match P[k]?, TB[p1]?, TB[p2]? with
      | some (y, _, _, _, _), some (.methodLink o i x), some (.sameMethod xc ow xn xd) => decide (o = own) && decide (i = ix) && decide (xc = x.cls) && decide (xn = x.name) && decide (xd = x.desc) && decide (TB[p3]? = some (Jvm.Cond.static y)) && decide (TB[p4]? = some (Jvm.Cond.initialized y.cls)) && decide (y = ⟨ow, x.name, x.desc⟩) && a_mh ow && a_np y n
      | _, _, _ => false
    | _ => false
  | .invokespecial ix => match aux with
    | [0, k, n] :: [p1, p2, p3] :: _ => match P[k]? with
      | some (y, _, _, rt, _) => decide (TB[p1]? = some (Jvm.Cond.methodLink own ix y)) && decide (TB[p2]? = some (Jvm.Cond.instanceMethod y)) && decide (TB[p3]? = some (Jvm.Cond.initialized y.cls)) && decide (y.name = "<init>") && decide (rt = none) && a_mh y.cls && a_np y n
      | none => false
    | [2, k, n] :: [p1, p2, p3, p4, p5] :: _ => match P[k]? with
      | some (y, _, _, _, _) => decide (TB[p1]? = some (Jvm.Cond.methodLink own ix y)) && decide (TB[p2]? = some (Jvm.Cond.sameMethod y.cls y.cls y.name y.desc)) && decide (TB[p3]? = some (Jvm.Cond.superclass own y.cls)) && decide (TB[p4]? = some (Jvm.Cond.instanceMethod y)) && decide (TB[p5]? = some (Jvm.Cond.initialized y.cls)) && decide (y.name ≠ "<init>") && a_np y n
      | none => false
    | [7, k, n] :: [p1, p2, p3, p4, p5, p6] :: _ => match P[k]?, TB[p1]?, TB[p2]? with
      | some (y, _, _, _, _), some (.methodLink o i x), some (.sameMethod xc ow xn xd) => decide (o = own) && decide (i = ix) && decide (xc = x.cls) && decide (xn = x.name) && decide (xd = x.desc) && decide (TB[p3]? = some (Jvm.Cond.superclass own x.cls)) && decide (TB[p4]? = some (Jvm.Cond.superclass x.cls ow)) && decide (TB[p5]? = some (Jvm.Cond.instanceMethod y)) && decide (TB[p6]? = some (Jvm.Cond.initialized y.cls)) && decide (y = ⟨ow, x.name, x.desc⟩) && decide (x.name ≠ "<init>") && a_np y n
      | _, _, _ => false
    | _ => false
  | .invokevirtual ix => match aux with
    | [0, n] :: vt => vt.all (a_ke own TB cl P ix n)
    | [5, k, n] :: [p1, p2, p3, p4] :: _ => match P[k]? with
      | some (y, _, _, _, _) => decide (TB[p1]? = some (Jvm.Cond.methodLink own ix y)) && decide (TB[p2]? = some (Jvm.Cond.instanceMethod y)) && decide (TB[p3]? = some (Jvm.Cond.selects "java/lang/String" y y)) && decide (TB[p4]? = some (Jvm.Cond.initialized "java/lang/String")) && decide (y.cls = "java/lang/String") && a_mh y.cls && a_np y n
      | none => false
    | _ => false
  | _ => false
theorem a_vt_mem {ci k : Nat} : ∀ {vt : aX}, a_vt ci vt = some k → ∃ tl, (ci :: k :: tl) ∈ vt := by
  intro vt
  induction vt with
  | nil => intro h; simp [a_vt] at h
  | cons x vt ih =>
    intro h
    match x, h with
    | [], h => simp [a_vt] at h
    | [_], h => simp [a_vt] at h
    | c :: k' :: tl, h =>
      simp only [a_vt] at h
      split at h
      · rename_i hc
        cases h
        subst hc
        exact ⟨tl, List.mem_cons_self⟩
      · obtain ⟨tl', h'⟩ := ih h
        exact ⟨tl', List.mem_cons_of_mem _ h'⟩
theorem a_good {TB : List Jvm.Cond} (hg : TB.all goodWord = true) : GoodIn TB TB := fun w h => ⟨h, good_of_word (List.all_eq_true.mp hg w h)⟩
theorem a_goodc {TB : List Jvm.Cond} (hg : TB.all goodWord = true) {w : Jvm.Cond} (hw : w ∈ TB) : GoodIn TB (w :: TB) := fun v h => by
  rcases List.mem_cons.mp h with rfl | h
  · exact a_good hg _ hw
  · exact a_good hg _ h
theorem a_goodl {TB ws : List Jvm.Cond} (hg : TB.all goodWord = true) (hw : ∀ w ∈ ws, w ∈ TB) : GoodIn TB ws := fun v h => a_good hg _ (hw v h)
def a_Pc (B : Nat) (ad : Nat → Nat) (D : va_G) (dA : Nat → ClassId) (cl : List vw_C) (E : String) (NC : List (Bool × String × String)) (SR : List (String × Nat × String × Nat)) (tx : List (List Int32)) (sv : List (String × String × String × Value)) (sc : Nat × (Nat → Int32)) (As : List Value) (h : List aC) : Array Value → State → Prop :=
  fun v U => v = (As.map (a_cv B ad)).toArray ∧ a_hp B ad D dA cl h U.heap ∧ a_wor B ad D dA cl E NC SR tx sv sc U
def a_Qc (B : Nat) (ad : Nat → Nat) (D : va_G) (dA : Nat → ClassId) (cl : List vw_C) (r : Option Value) (h : List aC) : Array Value → State → Outcome → State → Prop :=
  fun _ st o t => o = .returned (r.map (a_cv B ad)) ∧ a_hp B ad D dA cl h t.heap ∧ va_F (fun q => B ≤ q) st t
theorem a_blind {B : Nat} {ad : Nat → Nat} {D : va_G} {dA : Nat → ClassId} {cl : List vw_C} {E : String} {NC : List (Bool × String × String)} {SR : List (String × Nat × String × Nat)} {tx : List (List Int32)} {sv : List (String × String × String × Value)} {sc : Nat × (Nat → Int32)} {As : List Value} {h : List aC} : FrameBlind (a_Pc B ad D dA cl E NC SR tx sv sc As h) :=
  fun _ _ _ _ q => ⟨q.1, q.2.1, a_wor_same q.2.2 rfl rfl⟩
section AQ
variable {p : Program} {l : Launch} {e : Env} {R : Room} {s : State} {m : MethodId} {args : Array Value} {below : List Frame} {meth : Method} {c : Code} {H : Heap} {locs : List Loc} {cells slots : Nat} {Q : State → Prop}
variable {cc : ByteArray} {pc nL : Nat} {ls : Array Slot} {B : Nat} {ad : Nat → Nat} {D : va_G} {dA : Nat → ClassId} {cl : List vw_C} {E : String} {NC : List (Bool × String × String)} {SR : List (String × Nat × String × Nat)} {tx : List (List Int32)} {sv : List (String × String × String × Value)} {sc : Nat × (Nat → Int32)} {TB : List Jvm.Cond} {h : List aC} {P : List aM}
theorem a_stk {st : List Value} {n : Nat} : st.map (a_cv B ad) = (((st.take n).reverse).map (a_cv B ad)).reverse ++ (st.drop n).map (a_cv B ad) := by
  rw [List.map_reverse, List.reverse_reverse, ← List.map_append, List.take_append_drop]
theorem a_cal_ok (hx : p.tables.exec = Jvm.exec) (hb : c.code = cc) (hml : c.maxLocals = nL) (hsz : ls.size = nL) (hts : ∀ w ∈ TB, w.before args s = true) {own : String} (hown : s.vm.findClass own = some m.cls) (hw : a_wor B ad D dA cl E NC SR tx sv sc s) (hgd : TB.all goodWord = true)
    {ins : Instr} {len : Nat} {aux : aX} (hdg : decode cc pc = .ok (ins, len)) (hk : a_kq own TB cl P ins len aux = true) (hh : a_hp B ad D dA cl h H) (hS : va_S (fun q => B ≤ q) s.heap H locs)
    {st As rest : List Value} {k : Nat} (hc : a_cal tx.length ins aux st h = some (k, As, rest)) {y : MethodName} {bs : ByteArray} {ml : Nat} {rt : Option FieldType} {rows : List aI} (hP : P[k]? = some (y, bs, ml, rt, rows)) (hcode : Cond.code y bs ml rt ∈ TB) (hml2 : ml ≤ 20)
    {d mc ms : Nat} {h' : List aC} {r : Option Value} (hM : Met l y (Cond.code y bs ml rt :: TB) ({ frames := d, cells := mc, slots := ms, locals := 40 * d } : Room) (a_Pc B ad D dA cl E NC SR tx sv sc As h) (a_Qc B ad D dA cl r h') mc ms (fun q => B ≤ q))
    (hrest : (rest.map fun v => v.category).sum ≤ 8) (hfr : d + 1 ≤ R.frames) (hlo : 40 * (d + 1) ≤ R.locals) (hf : cells + mc ≤ R.cells ∧ slots + ms ≤ R.slots) :
    len = 3 ∧ va_Run p l e R s m args below meth c H locs cells slots mc ms (F0 m pc ls (st.map (a_cv B ad))) (rest.map (a_cv B ad)) (a_Qc B ad D dA cl r h' (As.map (a_cv B ad)).toArray) (fun q => B ≤ q) := by
  have hpre : ∀ U : State, U.heap = H → s.WarmedH U.vm → a_Pc B ad D dA cl E NC SR tx sv sc As h (As.map (a_cv B ad)).toArray U := fun U hU hW => ⟨rfl, by rw [hU]; exact hh, a_wor_to hw hW hU hS⟩
  have hR : d + 1 ≤ R.frames ∧ 8 + (ml + 11) + 40 * d ≤ R.locals := ⟨hfr, by omega⟩
  have hcb : (Cond.initialized y.cls).before args s = true → a_cb R s args y bs ml rt (Cond.code y bs ml rt :: TB) ({ frames := d, cells := mc, slots := ms, locals := 40 * d } : Room) mc ms := fun hi => ⟨rfl, rfl, hfr, hR.2, pay_in hts (a_goodc hgd hcode), List.mem_cons_self, hts _ hcode, hi⟩
  have hnp : ∀ {n : Nat}, (parseMethodDescriptor y.desc).map (fun d => d.parameters.length) = some n → ∀ sig, parseMethodDescriptor y.desc = some sig → n = sig.parameters.length := fun h2 sig h => by
    rw [h] at h2
    exact (Option.some.inj h2).symm
  have hroom : 2 * (F0 m pc ls (st.map (a_cv B ad))).monitorRoom + ((rest.map (a_cv B ad)).map fun v => v.category).sum ≤ 8 := lv_room (by rw [a_catmap]; exact hrest)
  simp only [a_kq, Bool.and_eq_true, beq_iff_eq] at hk
  obtain ⟨rfl, hk⟩ := hk
  refine ⟨rfl, ?_⟩
  unfold a_cal at hc
  split at hc
  · rename_i ix
    split at hc
    · rename_i k' n r2
      split at hc
      · rename_i hn
        cases hc
        simp only at hk
        split at hk
        · rename_i k2 n2 p1 p2 p3 r3 heq
          cases heq
          rw [hP] at hk
          simp only [Bool.and_eq_true, decide_eq_true_eq, a_mh, a_np] at hk
          obtain ⟨⟨⟨⟨k1, k2⟩, k3⟩, k4⟩, k5⟩ := hk
          refine va_runS (Ts := TB) ⟨hx, hb, hml, hown, hts⟩ hM ⟨callB_of n hts (a_goodc hgd hcode) rfl rfl rfl (hts _ (List.mem_of_getElem? k3)) (hts _ (List.mem_of_getElem? k1)) ⟨k4.1, k4.2, k5⟩ hR, hts _ (List.mem_of_getElem? k2)⟩ ⟨a_blind, hpre⟩ rfl (by simp; omega) hsz a_stk hroom hdg hf
        · rename_i heq; cases heq
        · cases hk
      · cases hc
    · rename_i k' n r2
      split at hc
      · rename_i hn
        cases hc
        simp only at hk
        split at hk
        · rename_i heq; cases heq
        · rename_i k2 n2 p1 p2 p3 p4 r3 heq
          cases heq
          split at hk
          · rename_i y' bs' ml' rt' rows' o i x xc ow xn xd hP' hp1 hp2
            cases hP.symm.trans hP'
            simp only [Bool.and_eq_true, decide_eq_true_eq, a_mh, a_np] at hk
            obtain ⟨⟨⟨⟨⟨⟨⟨⟨⟨rfl, rfl⟩, rfl⟩, rfl⟩, rfl⟩, k3⟩, k4⟩, k5⟩, k6⟩, k7⟩ := hk
            exact a_runSt (Ts := TB) ⟨hx, hb, hml, hown, hts⟩ hM (hcb (hts _ (List.mem_of_getElem? k4))) k5 k6 (hts _ (List.mem_of_getElem? hp1)) (hts _ (List.mem_of_getElem? hp2)) (hts _ (List.mem_of_getElem? k3)) (hnp k7) ⟨a_blind, hpre⟩ rfl (by simp; omega) hsz a_stk hroom hdg hf
          · cases hk
        · cases hk
      · cases hc
    · cases hc
  · rename_i ix
    split at hc
    · rename_i k' n r2
      split at hc
      · rename_i a r3 hd
        cases hc
        have hlen : n < st.length := by
          have := congrArg List.length hd
          rw [List.length_drop] at this
          simp at this
          omega
        simp only at hk
        split at hk
        · rename_i k2 n2 p1 p2 p3 r3 heq
          cases heq
          rw [hP] at hk
          simp only [Bool.and_eq_true, decide_eq_true_eq, a_mh, a_np] at hk
          obtain ⟨⟨⟨⟨⟨⟨k1, k2⟩, k3⟩, k4⟩, k5⟩, k6⟩, k7⟩ := hk
          subst k5
          refine va_runI (Ts := TB) (b := B + a) (As := ((st.take n).reverse).map (a_cv B ad)) ⟨hx, hb, hml, hown, hts⟩ hM (cwI n hts (a_goodc hgd hcode) rfl rfl rfl (hts _ (List.mem_of_getElem? k3)) (hts _ (List.mem_of_getElem? k1)) (hts _ (List.mem_of_getElem? k2)) k4 ⟨k6.1, k6.2, k7⟩ hR) ⟨a_blind, hpre⟩ rfl (by simp; omega) hsz ?_ hroom hdg hf
          show st.map (a_cv B ad) = _
          rw [a_stk (n := n), hd]; rfl
        · rename_i heq; cases heq
        · rename_i heq; cases heq
        · cases hk
      · cases hc
    · rename_i k' n r2
      split at hc
      · rename_i a r3 hd
        split at hc
        · rename_i cx ha
          obtain ⟨ci, fs⟩ := cx
          cases hc
          have hlen : n < st.length := by
            have := congrArg List.length hd
            rw [List.length_drop] at this
            simp at this
            omega
          obtain ⟨rr, hrr, -⟩ := hh.2 a _ ha
          simp only at hk
          split at hk
          · rename_i heq; cases heq
          · rename_i k2 n2 p1 p2 p3 p4 p5 r3 heq
            cases heq
            rw [hP] at hk
            simp only [Bool.and_eq_true, decide_eq_true_eq, a_np] at hk
            obtain ⟨⟨⟨⟨⟨⟨k1, k2⟩, k3⟩, k4⟩, k5⟩, k6⟩, k7⟩ := hk
            have hT : GoodIn TB (va_wsSU own ix y (Cond.code y bs ml rt :: TB)) := by
              refine a_goodl hgd (fun w hw => ?_)
              simp only [va_wsSU, List.mem_append, List.mem_cons, List.not_mem_nil, or_false] at hw
              rcases hw with (rfl | rfl | rfl | rfl | rfl) | rfl | hw
              · exact List.mem_of_getElem? k1
              · exact List.mem_of_getElem? k2
              · exact List.mem_of_getElem? k3
              · exact List.mem_of_getElem? k4
              · exact List.mem_of_getElem? k5
              · exact hcode
              · exact hw
            refine va_runSU (Ts := TB) (b := B + a) (C := rr.1) (As := ((st.take n).reverse).map (a_cv B ad)) (hw.1.1 ci rr hrr).2 ⟨hx, hb, hml, hown, hts⟩ hM (va_cwSU n hts hT rfl rfl rfl ⟨k6, k7⟩ hR) ⟨a_blind, a_recv hw.1 hh ha hrr, hpre⟩ rfl (by simp; omega) hsz ?_ hroom hdg hf
            show st.map (a_cv B ad) = _
            rw [a_stk (n := n), hd]; rfl
          · rename_i heq; cases heq
          · cases hk
        · cases hc
      · cases hc
    · rename_i k' n r2
      split at hc
      · rename_i a r3 hd
        split at hc
        · rename_i cx ha
          obtain ⟨ci, fs⟩ := cx
          cases hc
          have hlen : n < st.length := by
            have := congrArg List.length hd
            rw [List.length_drop] at this
            simp at this
            omega
          obtain ⟨rr, hrr, -⟩ := hh.2 a _ ha
          simp only at hk
          split at hk
          · rename_i heq; cases heq
          · rename_i heq; cases heq
          · rename_i k2 n2 p1 p2 p3 p4 p5 p6 r3 heq
            cases heq
            split at hk
            · rename_i y' bs' ml' rt' rows' o i x xc ow xn xd hP' hp1 hp2
              cases hP.symm.trans hP'
              simp only [Bool.and_eq_true, decide_eq_true_eq, a_np] at hk
              obtain ⟨⟨⟨⟨⟨⟨⟨⟨⟨⟨⟨rfl, rfl⟩, rfl⟩, rfl⟩, rfl⟩, k3⟩, k4⟩, k5⟩, k6⟩, k7⟩, k8⟩, k9⟩ := hk
              refine a_runSp (Ts := TB) (b := B + a) (C := rr.1) (As := ((st.take n).reverse).map (a_cv B ad)) ⟨hx, hb, hml, hown, hts⟩ hM (hcb (hts _ (List.mem_of_getElem? k6))) k7 (hts _ (List.mem_of_getElem? hp1)) (hts _ (List.mem_of_getElem? hp2)) (hts _ (List.mem_of_getElem? k3)) (hts _ (List.mem_of_getElem? k4)) (hts _ (List.mem_of_getElem? k5)) k8 (hnp k9) (hw.1.1 ci rr hrr).2 ⟨a_blind, a_recv hw.1 hh ha hrr, hpre⟩ rfl (by simp; omega) hsz ?_ hroom hdg hf
              show st.map (a_cv B ad) = _
              rw [a_stk (n := n), hd]; rfl
            · cases hk
          · cases hk
        · cases hc
      · cases hc
    · cases hc
  · rename_i ix
    split at hc
    · rename_i n vt
      split at hc
      · rename_i a r3 hd
        split at hc
        · rename_i ci fs ha
          split at hc
          · rename_i k' hvt
            cases hc
            have hlen : n < st.length := by
              have := congrArg List.length hd
              rw [List.length_drop] at this
              simp at this
              omega
            obtain ⟨tl, hmem⟩ := a_vt_mem hvt
            simp only [List.all_eq_true] at hk
            have hke := hk _ hmem
            have hstk : st.map (a_cv B ad) = (((st.take n).reverse).map (a_cv B ad)).reverse ++ (Value.ref (B + a) :: rest.map (a_cv B ad)) := by
              rw [a_stk (n := n), hd]; rfl
            unfold a_ke at hke
            split at hke
            · rename_i ci' k2 p1 p2 p3 p4 heq
              cases heq
              split at hke
              · rename_i C T N y' bs' ml' rt' rows' hcl hP'
                cases hP.symm.trans hP'
                simp only [Bool.and_eq_true, decide_eq_true_eq, a_mh, a_np] at hke
                obtain ⟨⟨⟨⟨⟨⟨k1, k2⟩, k3⟩, k4⟩, k5⟩, k6⟩, k7⟩ := hke
                have hT : GoodIn TB (wsV own ix C y (Cond.code y bs ml rt :: TB)) := by
                  refine a_goodl hgd (fun w hw => ?_)
                  simp only [wsV, List.mem_append, List.mem_cons, List.not_mem_nil, or_false] at hw
                  rcases hw with (rfl | rfl | rfl | rfl) | rfl | hw
                  · exact List.mem_of_getElem? k1
                  · exact List.mem_of_getElem? k2
                  · exact List.mem_of_getElem? k3
                  · exact List.mem_of_getElem? k4
                  · exact hcode
                  · exact hw
                exact va_runV (Ts := TB) (b := B + a) (C := C) (As := ((st.take n).reverse).map (a_cv B ad)) ⟨hx, hb, hml, hown, hts⟩ hM (cwV n hts hT rfl rfl rfl ⟨k5, k6.1, k6.2, k7⟩ hR) ⟨a_blind, a_recv hw.1 hh ha hcl, hpre⟩ rfl (by simp; omega) hsz hstk hroom hdg hf
              · cases hke
            · rename_i ci' k2 p1 p2 p3 p4 p5 heq
              cases heq
              split at hke
              · rename_i C T N y' bs' ml' rt' rows' o i x xc ow xn xd hcl hP' hp1 hp2
                cases hP.symm.trans hP'
                simp only [Bool.and_eq_true, decide_eq_true_eq, a_mh, a_np] at hke
                obtain ⟨⟨⟨⟨⟨⟨⟨⟨⟨⟨rfl, rfl⟩, rfl⟩, rfl⟩, rfl⟩, k3⟩, k4⟩, k5⟩, k6⟩, k7⟩, k8⟩ := hke
                have hT : GoodIn TB (va_wsU o i C ow x y (Cond.code y bs ml rt :: TB)) := by
                  refine a_goodl hgd (fun w hw => ?_)
                  simp only [va_wsU, List.mem_append, List.mem_cons, List.not_mem_nil, or_false] at hw
                  rcases hw with (rfl | rfl | rfl | rfl | rfl) | rfl | hw
                  · exact List.mem_of_getElem? hp1
                  · exact List.mem_of_getElem? hp2
                  · exact List.mem_of_getElem? k3
                  · exact List.mem_of_getElem? k4
                  · exact List.mem_of_getElem? k5
                  · exact hcode
                  · exact hw
                exact va_runU (Ts := TB) (b := B + a) (C := C) (As := ((st.take n).reverse).map (a_cv B ad)) ⟨hx, hb, hml, hown, hts⟩ hM (va_cwU n hts hT rfl rfl rfl k6 ⟨k7.1, k7.2, k8⟩ hR) ⟨a_blind, a_recv hw.1 hh ha hcl, hpre⟩ rfl (by simp; omega) hsz hstk hroom hdg hf
              · cases hke
            · rename_i ci' k2 p1 p2 p3 p4 p5 p6 p7 heq
              cases heq
              split at hke
              · rename_i C T N y' bs' ml' rt' rows' o i x xc ow xn xd z b0 m0 r0 hcl hP' hp1 hp2 hp7
                cases hP.symm.trans hP'
                simp only [Bool.and_eq_true, decide_eq_true_eq, a_mh, a_np] at hke
                obtain ⟨⟨⟨⟨⟨⟨⟨⟨⟨⟨⟨rfl, rfl⟩, rfl⟩, rfl⟩, rfl⟩, k3⟩, k4⟩, k5⟩, k6⟩, rfl⟩, k7⟩, k8⟩ := hke
                have hT : GoodIn TB (va_wsO o i C ow x y (Cond.code y bs ml rt :: TB)) := by
                  refine a_goodl hgd (fun w hw => ?_)
                  simp only [va_wsO, List.mem_append, List.mem_cons, List.not_mem_nil, or_false] at hw
                  rcases hw with (rfl | rfl | rfl | rfl | rfl | rfl) | rfl | hw
                  · exact List.mem_of_getElem? hp1
                  · exact List.mem_of_getElem? hp2
                  · exact List.mem_of_getElem? k6
                  · exact List.mem_of_getElem? k3
                  · exact List.mem_of_getElem? k4
                  · exact List.mem_of_getElem? k5
                  · exact hcode
                  · exact hw
                exact va_runU (Ts := TB) (b := B + a) (C := C) (As := ((st.take n).reverse).map (a_cv B ad)) ⟨hx, hb, hml, hown, hts⟩ hM (va_cwO n hts hT rfl rfl rfl (List.mem_of_getElem? hp7) ⟨k7.1, k7.2, k8⟩ hR) ⟨a_blind, a_recv hw.1 hh ha hcl, hpre⟩ rfl (by simp; omega) hsz hstk hroom hdg hf
              · cases hke
            · cases hke
          · cases hc
        · cases hc
      · cases hc
    · rename_i k' n r2
      split at hc
      · rename_i a r3 hd
        split at hc
        · rename_i hat
          cases hc
          have hlen : n < st.length := by
            have := congrArg List.length hd
            rw [List.length_drop] at this
            simp at this
            omega
          have hstk : st.map (a_cv B ad) = (((st.take n).reverse).map (a_cv B ad)).reverse ++ (Value.ref (ad a) :: rest.map (a_cv B ad)) := by
            rw [a_stk (n := n), hd]; rfl
          simp only at hk
          split at hk
          · rename_i heq; cases heq
          · rename_i k2 n2 p1 p2 p3 p4 r3 heq
            cases heq
            rw [hP] at hk
            simp only [Bool.and_eq_true, decide_eq_true_eq, a_mh, a_np] at hk
            obtain ⟨⟨⟨⟨⟨⟨k1, k2⟩, k3⟩, k4⟩, k5⟩, k6⟩, k7⟩ := hk
            have hT : GoodIn TB (wsV own ix "java/lang/String" y (Cond.code y bs ml rt :: TB)) := by
              refine a_goodl hgd (fun w hw => ?_)
              simp only [wsV, List.mem_append, List.mem_cons, List.not_mem_nil, or_false] at hw
              rcases hw with (rfl | rfl | rfl | rfl) | rfl | hw
              · exact List.mem_of_getElem? k1
              · exact List.mem_of_getElem? k2
              · exact List.mem_of_getElem? k3
              · exact List.mem_of_getElem? k4
              · exact hcode
              · exact hw
            exact va_runV (Ts := TB) (b := ad a) (C := "java/lang/String") (As := ((st.take n).reverse).map (a_cv B ad)) ⟨hx, hb, hml, hown, hts⟩ hM (cwV n hts hT rfl rfl rfl ⟨k5, k6.1, k6.2, k7⟩ hR) ⟨a_blind, vk_recv hw.2.2.2.2.1 hat hS, hpre⟩ rfl (by simp; omega) hsz hstk hroom hdg hf
          · cases hk
        · cases hc
      · cases hc
    · cases hc
  · cases hc
/-- behind the call -/
theorem a_behind {A : Array Value} {mc ms : Nat} {g : JFrame} {rest : List Value} {r : Option Value} {h' : List aC} (hr : va_Run p l e R s m args below meth c H locs cells slots mc ms g rest (a_Qc B ad D dA cl r h' A) (fun q => B ≤ q)) (hS : va_S (fun q => B ≤ q) s.heap H locs)
    (kk : ∀ (H1 : Heap) (locs1 : List Loc), a_hp B ad D dA cl h' H1 → va_S (fun q => B ≤ q) s.heap H1 locs1 → W p l e R s m args below meth c H1 locs1 (cells + mc) (slots + ms) Q { g with pc := g.pc + 3, stack := (r.map (a_cv B ad)).toList ++ rest }) : W p l e R s m args below meth c H locs cells slots Q g := by
  intro T hT X
  obtain ⟨v, st₀, t, T', L, h0, X', hL, e1, e2, ⟨ho, hh, hz, hk⟩, st⟩ := hr T hT X
  cases ho
  rw [h0] at hz hk
  obtain ⟨t2, a1, b1⟩ := kk T'.heap (locs ++ L) (by rw [e1]; exact hh)
    ⟨Nat.le_trans hS.1 (by rw [e1]; exact hz), fun q h1 h2 => by rw [e1, hk q (Nat.lt_of_lt_of_le h1 hS.1) h2]; exact hS.2.1 q h1 h2, fun q hq => by
      rcases List.mem_append.mp hq with h | h
      · exact hS.2.2 q h
      · exact hL q h⟩ T' rfl X'
  exact ⟨t2, st t2 a1, b1⟩
end AQ
