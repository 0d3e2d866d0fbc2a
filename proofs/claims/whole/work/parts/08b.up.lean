/-! 08b.up: a static method that is named by a subclass of the class that declares it; a super call whose method stands further up -/
section AU
variable {p : Program} {l : Launch} {e : Env} {R : Room} {s : State} {m : MethodId} {args : Array Value} {below : List Frame} {meth : Method} {c : Code} {T : State} {locs : List Loc} {cells slots : Nat}
/-- what the machine asks at such a call, asked cold, is what it asks once class and method are noted -/
theorem a_upCold {Q : Unit → Pre} {X : CtlPost} {dd : Bool} {acts : List Action} {f : JFrame} {index ci n c0 : Nat} {mm : MethodId} {dk ck : Class} {cf : ClassFile} {name desc : String} (ht : T.topJava?.isSome) (hp : e.platform.polymorphicOnlyByInvokevirtual = true)
    (hW : s.WarmedH T.vm) (hE : s.MethodEntryUp e T.vm f.method.cls index c0 mm ci) (g1 : s.vm.classes[f.method.cls]? = some dk) (g2 : dk.cf = some cf) (g3 : cf.constantPool[index]? = some (.methodref ci n)) (g4 : cf.constantPool.nameAndType? n = some (name, desc))
    (g5 : s.vm.classes[c0]? = some ck) (g6 : (ck.methods.any fun z => z.name == name && !z.isStatic && signaturePolymorphic ck z) = false) :
    wp (invokestatic.sem index) Q X e dd acts (T.setTop f) ↔ wp (invokestatic.sem index) Q X e dd acts ((T.setVm (T.vm.calledUp f.method.cls ci index c0 mm)).setTop f) := by
  have hA := hE.warmed.alike
  have hcf := hE.classFirst
  obtain ⟨d0, i1, i2⟩ := hW.alike.2.2 _ _ g1
  obtain ⟨d2, i3, i4⟩ := hA.2.2 _ _ g1
  obtain ⟨c1, i5, i6⟩ := hcf.2.2.1.alike.2.2 _ _ g5
  obtain ⟨c2, i7, i8⟩ := hA.2.2 _ _ g5
  have g3' : cf.constantPool[index]? = some (if false then .interfaceMethodref ci n else .methodref ci n) := g3
  have m0 := memberRef_ask_via (e := e) i1 (by rw [i2]; exact g2) g3' g4
  have m2 := memberRef_ask_via (e := e) i3 (by rw [i4]; exact g2) g3' g4
  have n1 : (c1.methods.any fun z => z.name == name && !z.isStatic && signaturePolymorphic c1 z) = false := by rw [i6]; exact g6
  have n2 : (c2.methods.any fun z => z.name == name && !z.isStatic && signaturePolymorphic c2 z) = false := by rw [i8]; exact g6
  have t1 : (T.setVm (T.vm.noted f.method.cls ci (.cls c0))).topJava?.isSome := ht
  have t2 : (T.setVm (T.vm.calledUp f.method.cls ci index c0 mm)).topJava?.isSome := ht
  have r1 : ∀ {Q' : ClassId → Pre} {d' : Bool} {a' : List Action}, wp (Jvm.resolveClassAt ci) Q' X e d' a' (T.setTop f) ↔ Q' c0 d' a' ((T.setVm (T.vm.noted f.method.cls ci (.cls c0))).setTop f) :=
    W.resolveClassAt_links (t := T.setTop f) (State.method?_setTop f ht) hcf.1
  have r2 : ∀ {Q' : MethodId → Pre} {d' : Bool} {a' : List Action}, wp (Jvm.resolveMethodAt index) Q' X e d' a' ((T.setVm (T.vm.noted f.method.cls ci (.cls c0))).setTop f) ↔ Q' mm d' a' ((T.setVm (T.vm.calledUp f.method.cls ci index c0 mm)).setTop f) :=
    W.resolveMethodAt_links (t := (T.setVm (T.vm.noted f.method.cls ci (.cls c0))).setTop f) (State.method?_setTop f t1) hcf.2.2.2
  simp [invokestatic.sem, hp, Seam.memberRefOf, State.method?_setTop f ht, State.method?_setTop f t2, m0, m2, r1, W.resolveClassAt_ready (s := (T.setVm (T.vm.calledUp f.method.cls ci index c0 mm)).setTop f) (State.method?_setTop f t2) hE.classReady, i5, i7, n1, n2, r2, W.resolveMethodAt_ready (s := (T.setVm (T.vm.calledUp f.method.cls ci index c0 mm)).setTop f) (State.method?_setTop f t2) hE.ready, -Array.any_eq_true]
theorem a_upStatic (X : Stand p l e R s m args below meth c T locs cells slots) (hexec : p.tables.exec = Jvm.exec) {own owner : String} {index : Nat} {x : MethodName} (hown : s.vm.findClass own = some m.cls) (hlink : (Cond.methodLink own index x).before args s = true) (hsame : (Cond.sameMethod x.cls owner x.name x.desc).before args s = true)
    {m' : MethodId} {meth' : Method} {k' : Class} (hn : s.methodNamed? ⟨owner, x.name, x.desc⟩ = some m') (hm' : s.vm.method? m' = some meth') (hst : meth'.isStatic = true) (hk' : s.vm.classes[m'.cls]? = some k') (hkn : k'.name ≠ "java/lang/invoke/MethodHandle" ∧ k'.name ≠ "java/lang/invoke/VarHandle") (hini : k'.init = .initialized)
    {g : JFrame} (hg : g.method = m) {argsL rest : List Value} (hlen : argsL.length = meth'.sig.parameters.length) (hstack : g.stack = argsL.reverse ++ rest) (hdg : decode c.code g.pc = .ok (.invokestatic index, 3)) :
    ∃ vm', Stand p l e R s m args below meth c (T.setVm vm') locs cells slots ∧ ∀ target, (∀ acts, Steps p.tables e below (doInvoke e ((T.setVm vm').setTop { g with stack := rest }) acts m' argsL.toArray).1 target) → Steps p.tables e below (T.setTop g) target := by
  have hpl : e.platform.magicAccessors = ({} : Platform).magicAccessors := by rw [X.admits.platform]
  have hpv : e.platform.polymorphicOnlyByInvokevirtual = true := by rw [X.admits.platform]
  obtain ⟨c0, ck, r1, hc0, hck, hni, hfo, hn1⟩ := Cond.sameMethod_found hsame
  cases hn.symm.trans hn1
  obtain ⟨ci, hl, hri⟩ := Cond.methodLink_specUp hown hc0 hck hni hfo hlink e.platform hpl (by rw [X.admits.platform])
  have hE : s.MethodEntryUp e T.vm m.cls index c0 m' ci := State.methodEntryUp X.warmed hl hri
  obtain ⟨dk, cf, nt, nm, ds, ck', _, _, g1, g2, g3, g4, -, -, g5, -, g6, -⟩ := hl.here
  cases hck.symm.trans g5
  have hA := hE.warmed.alike
  obtain ⟨d2, i1, i2⟩ := hA.2.2 _ _ g1
  obtain ⟨k2, i3, i4⟩ := hA.2.2 _ _ hk'
  obtain ⟨c2, i5, i6⟩ := hA.2.2 _ _ hck
  have n0 : (ck.methods.any fun z => z.name == nm && !z.isStatic && signaturePolymorphic ck z) = false := by simp [g6]
  have n2 : (c2.methods.any fun z => z.name == nm && !z.isStatic && signaturePolymorphic c2 z) = false := by rw [i6]; exact n0
  have g3' : cf.constantPool[index]? = some (if false then .interfaceMethodref ci nt else .methodref ci nt) := g3
  refine ⟨T.vm.calledUp m.cls ci index c0 m', X.noted hE.warmed, fun target hrest => ?_⟩
  subst hg
  jvm_step X.here [hexec, hdg, a_upCold (e := e) (T := T) (s := s) (f := g) X.here.top hpv X.warmed hE g1 g2 g3 g4 hck n0,
    invokestatic.wp_ready (e := e) (s := T.setVm (T.vm.calledUp g.method.cls ci index c0 m')) (k := k2) (meth := meth') (m := m') (args := argsL) (rest := rest) (f := g)
      X.here.top ⟨ci, nm, ds, false, c0, c2, memberRef_ask_via (e := e) i1 (by rw [i2]; exact g2) g3' g4, hE.classReady, i5, n2⟩ hE.ready i3
      (by show (T.vm.calledUp g.method.cls ci index c0 m').method? m' = some meth'; rw [hA.method?]; exact hm') (by rw [i4]; exact signaturePolymorphic_of_name hkn meth') hst (by rw [i4]; exact hini) hlen hstack]
  exact fun acts => hrest _
theorem a_sub1 {vm : Vm} {a b : ClassId} {k : Class} (h1 : vm.classes[a]? = some k) (h2 : k.super = some b) : vm.isSubclass a b = true := by
  have hz : 0 < vm.classes.size := Nat.lt_of_le_of_lt (Nat.zero_le _) (Array.getElem?_eq_some_iff.mp h1).1
  obtain ⟨q, hq⟩ : ∃ q, vm.classes.size = q + 1 := ⟨vm.classes.size - 1, by omega⟩
  unfold Vm.isSubclass
  rw [hq]
  simp [Vm.isSubclassAux, h1, h2]
variable {H : Heap} {Ts ws : List Jvm.Cond} {cc bytes : ByteArray} {nL maxL index n mc ms : Nat} {own owner : String} {x y : MethodName} {ret : Option FieldType} {rm : Room} {Pc : Array Value → State → Prop} {Qc : Array Value → State → Outcome → State → Prop} {free : Addr → Prop} {b : Addr} {As rest : List Value} {g : JFrame}
/-- what both calls ask of the callee -/
def a_cb (R : Room) (s : State) (args : Array Value) (y : MethodName) (bytes : ByteArray) (maxL : Nat) (ret : Option FieldType) (ws : List Jvm.Cond) (rm : Room) (mc ms : Nat) : Prop :=
  rm.cells = mc ∧ rm.slots = ms ∧ rm.frames + 1 ≤ R.frames ∧ 8 + (maxL + 11) + rm.locals ≤ R.locals ∧ (∀ w ∈ ws, ∀ (a' : Array Value) (U : State), s.WarmedH U.vm → w.before a' U = true) ∧ Cond.code y bytes maxL ret ∈ ws ∧ (Cond.code y bytes maxL ret).before args s = true ∧ (Cond.initialized y.cls).before args s = true
theorem a_cb_back (h : a_cb R s args y bytes maxL ret ws rm mc ms) (hM : Met l y ws rm Pc Qc mc ms free) (hbl : FrameBlind Pc) : Back l R p e below s args y 3 8 (PreOf R mc ms Pc) (PostOf Qc mc ms free) := by
  obtain ⟨h1, h2, h3, h4, h5, h6, h7, h8⟩ := h
  exact back_of (bytes := bytes) (maxL := maxL) (ret := ret) hM hbl h1 h2 h3 h4 h5 h6 (fun a' U hW => word_at hW (Or.inl (by first | rfl | simp [Cond.onTables, Cond.keeps, Cond.steady])) h8)
theorem a_runSt (S : CallFix p m c cc nL s args Ts own) (hM : Met l y ws rm Pc Qc mc ms free) (hcb : a_cb R s args y bytes maxL ret ws rm mc ms) (hy : y = ⟨owner, x.name, x.desc⟩) (hmh : owner ≠ "java/lang/invoke/MethodHandle" ∧ owner ≠ "java/lang/invoke/VarHandle") (hlink : (Cond.methodLink own index x).before args s = true) (hsame : (Cond.sameMethod x.cls owner x.name x.desc).before args s = true) (hstat : (Cond.static y).before args s = true) (hnp : ∀ sig, parseMethodDescriptor y.desc = some sig → n = sig.parameters.length) (hp : PreS s H Pc As)
    (hg : g.method = m) (hn : As.length = n) (hsize : g.locals.size = nL) (hstack : g.stack = As.reverse ++ rest) (hW : 2 * g.monitorRoom + (rest.map fun v => v.category).sum ≤ 8) (hdg : decode cc g.pc = .ok (.invokestatic index, 3)) (hf : cells + mc ≤ R.cells ∧ slots + ms ≤ R.slots) :
    va_Run p l e R s m args below meth c H locs cells slots mc ms g rest (Qc As.toArray) free := by
  have hK : Back l R p e below s args y 3 8 (PreOf R mc ms Pc) (PostOf Qc mc ms free) := a_cb_back hcb hM hp.1
  obtain ⟨-, -, -, -, -, -, hcode, hini⟩ := hcb
  obtain ⟨hx, hb, hml, ho, -⟩ := S
  obtain ⟨mk, hnamed⟩ := Cond.code_named hcode
  obtain ⟨methM, cM, hmethM, -, -, -, -, -, -, hsigM⟩ := Cond.code_spec hnamed hcode
  have hst : methM.isStatic = true := Cond.static_spec hnamed hmethM hstat
  obtain ⟨kP, hkP, hkPn⟩ := className_of_methodNamed hnamed
  have hinitP : kP.init = .initialized := Cond.initialized_spec (findClass_of_methodNamed hnamed) hkP hini
  intro T hT X
  obtain ⟨vm₁, X₁, hstep⟩ := a_upStatic X hx ho hlink hsame (by rw [← hy]; exact hnamed) hmethM hst hkP (by rw [hkPn, hy]; exact hmh) hinitP hg (argsL := As) (rest := rest) (hn.trans (hnp _ hsigM)) hstack (by rw [hb]; exact hdg)
  obtain ⟨v, ⟨U', l2, c2, s2⟩, X', ⟨g', mk', t, L, e1, e2, hq, h1, hL, h2, h3⟩, hsteps⟩ := hK m meth c ⟨T.setVm vm₁, locs, cells, slots⟩ { g with stack := rest } (.invokestatic index) mk As.toArray X₁ hg (hsize.trans hml.symm) (by rw [hb]; exact hdg) hW (X₁.named hnamed) ⟨hf.1, hf.2, hp.2 (T.setVm vm₁) hT X₁.warmed⟩
  dsimp only [Pt.U, Pt.locs, Pt.cells, Pt.slots] at X' e1 e2 h1 h2 h3 hsteps
  subst h1; subst h2; subst h3
  exact ⟨v, (T.setVm vm₁).calling g' mk' As.toArray, t, U', L, hT, X', hL, e1, e2, hq, fun target h => hstep _ fun acts => by rw [doInvoke_state]; exact hsteps.trans h⟩
theorem a_runSp (S : CallFix p m c cc nL s args Ts own) (hM : Met l y ws rm Pc Qc mc ms free) (hcb : a_cb R s args y bytes maxL ret ws rm mc ms) (hy : y = ⟨owner, x.name, x.desc⟩) (hlink : (Cond.methodLink own index x).before args s = true) (hsame : (Cond.sameMethod x.cls owner x.name x.desc).before args s = true) (hs1 : (Cond.superclass own x.cls).before args s = true) (hs2 : (Cond.superclass x.cls owner).before args s = true) (hinst : (Cond.instanceMethod y).before args s = true) (hno : x.name ≠ "<init>") (hnp : ∀ sig, parseMethodDescriptor y.desc = some sig → n = sig.parameters.length)
    {C : String} {cC : ClassId} (hat : ClassAt s C cC) (hp : PreV s H C b Pc As)
    (hg : g.method = m) (hn : As.length = n) (hsize : g.locals.size = nL) (hstack : g.stack = As.reverse ++ .ref b :: rest) (hW : 2 * g.monitorRoom + (rest.map fun v => v.category).sum ≤ 8) (hdg : decode cc g.pc = .ok (.invokespecial index, 3)) (hf : cells + mc ≤ R.cells ∧ slots + ms ≤ R.slots) :
    va_Run p l e R s m args below meth c H locs cells slots mc ms g rest (Qc (Value.ref b :: As).toArray) free := by
  have hK : Back l R p e below s args y 3 8 (PreOf R mc ms Pc) (PostOf Qc mc ms free) := a_cb_back hcb hM hp.1
  obtain ⟨-, -, -, -, -, -, hcode, hini⟩ := hcb
  obtain ⟨hx, hb, hml, ho, -⟩ := S
  obtain ⟨mk, methM, hnamed, hmethM, hstM, habM⟩ := Cond.instanceMethod_spec hinst
  obtain ⟨methM', cM, hmethM', -, -, -, -, -, -, hsigM⟩ := Cond.code_spec hnamed hcode
  cases hmethM.symm.trans hmethM'
  obtain ⟨ps, dk, kp, hps, hdk, hkp, hsuper, -, -, hnid⟩ := Cond.superclass_spec ho hs1
  obtain ⟨po, dk2, ko, hpo, hdk2, hko, hsuper2, -, -, -⟩ := Cond.superclass_spec hps hs2
  have hpm : po = mk.cls := Option.some.inj (hpo.symm.trans (by have := findClass_of_methodNamed hnamed; rw [hy] at this; exact this))
  subst hpm
  obtain ⟨-, ⟨cellB, hcB, hoB, hclB⟩, hPc⟩ := hp
  obtain ⟨hfc, kB, hkB, -⟩ := hat
  cases hfc.symm.trans hclB
  intro T hT X
  obtain ⟨vm₁, X₁, hstep⟩ := X.invokespecialUp hx ho hlink hsame (by rw [← hy]; exact hnamed) hmethM hstM habM hno hdk hnid hps hsuper (a_sub1 hdk2 hsuper2) (a := b) (cell := cellB) (by rw [hT]; exact hcB) (fun z h => by rw [h] at hoB; cases hoB) hkB hg (argsL := As) (rest := rest) (hn.trans (hnp _ hsigM)) hstack (by rw [hb]; exact hdg)
  obtain ⟨v, ⟨U', l2, c2, s2⟩, X', ⟨g', mk', t, L, e1, e2, hq, h1, hL, h2, h3⟩, hsteps⟩ := hK m meth c ⟨T.setVm vm₁, locs, cells, slots⟩ { g with stack := rest } (.invokespecial index) mk (Value.ref b :: As).toArray X₁ hg (hsize.trans hml.symm) (by rw [hb]; exact hdg) hW (X₁.named hnamed) ⟨hf.1, hf.2, hPc (T.setVm vm₁) hT X₁.warmed⟩
  dsimp only [Pt.U, Pt.locs, Pt.cells, Pt.slots] at X' e1 e2 h1 h2 h3 hsteps
  subst h1; subst h2; subst h3
  exact ⟨v, (T.setVm vm₁).calling g' mk' (Value.ref b :: As).toArray, t, U', L, hT, X', hL, e1, e2, hq, fun target h => hstep _ (by rw [doInvoke_state]; exact hsteps.trans h)⟩
end AU
