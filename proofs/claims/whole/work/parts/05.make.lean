/-! 05.make: what is made; what a row's links must be; the steps of a_s3 -/
def a_sz (x : aC) : Nat := match x with
  | .inl (_, n, _) => n
  | .inr (_, fs) => fs.length
def a_hz (h : List aC) : Nat := (h.map a_sz).sum
theorem a_hz_app (h : List aC) (x : aC) : a_hz (h ++ [x]) = a_hz h + a_sz x := by simp [a_hz]
theorem a_sum_set (l : List Nat) (j x : Nat) (hj : l[j]? = some x) : (l.set j x).sum = l.sum := by
  induction l generalizing j with
  | nil => simp at hj
  | cons y l ih =>
    cases j with
    | zero => simp at hj; simp [hj]
    | succ j => simp at hj; simp [ih j hj]
theorem a_hz_set {h : List aC} {j : Nat} {x y : aC} (hj : h[j]? = some x) (hxy : a_sz y = a_sz x) : a_hz (h.set j y) = a_hz h := by
  unfold a_hz
  rw [List.map_set, hxy]
  exact a_sum_set _ _ _ (by rw [List.getElem?_map, hj]; rfl)
def a_kf (own : String) (cl : List vw_C) (TB : List Jvm.Cond) (ix f : Nat) (cs : List Nat) (pl ps : Nat) : Bool := match TB[pl]? with
  | some (.fieldLink o i ref nm ds) => o == own && i == ix && cs.all (fun ci => match cl[ci]? with
    | some (_, T, N) => decide (f < N) && (T f).2.1 == nm && (T f).2.2.1 == ds && ((T f).1 == ref || decide (TB[ps]? = some (Jvm.Cond.sameField ref (T f).1 nm ds)))
    | none => false)
  | _ => false
theorem a_kf_ok {own : String} {cl : List vw_C} {TB : List Jvm.Cond} {ix f : Nat} {cs : List Nat} {pl ps ci : Nat} (h : a_kf own cl TB ix f cs pl ps = true) (hci : cs.contains ci = true) :
    ∃ (C : String) (T : u_T) (N : Nat) (ref : String), cl[ci]? = some (C, T, N) ∧ f < N ∧ Cond.fieldLink own ix ref (T f).2.1 (T f).2.2.1 ∈ TB ∧ ((T f).1 = ref ∨ Cond.sameField ref (T f).1 (T f).2.1 (T f).2.2.1 ∈ TB) := by
  unfold a_kf at h
  split at h
  · rename_i o i ref nm ds hl
    simp only [Bool.and_eq_true, beq_iff_eq, List.all_eq_true] at h
    obtain ⟨⟨rfl, rfl⟩, ha⟩ := h
    have h1 := ha ci (by simpa using hci)
    split at h1
    · rename_i C T N hc
      simp only [Bool.and_eq_true, beq_iff_eq, decide_eq_true_eq, Bool.or_eq_true] at h1
      obtain ⟨⟨⟨h2, rfl⟩, rfl⟩, h5⟩ := h1
      exact ⟨C, T, N, ref, hc, h2, List.mem_of_getElem? hl, h5.imp id (fun q => List.mem_of_getElem? q)⟩
    · cases h1
  · cases h
/-- a kind of value for a kind of field -/
def a_kt (tc : Nat) (t : Option FieldType) : Bool := match tc, t with
  | 0, some .int => true
  | 1, some .boolean => true
  | 2, some (.object _) => true
  | 2, some (.array _) => true
  | _, _ => false
theorem a_kt_ok {tc : Nat} {t : FieldType} (h : a_kt tc (some t) = true) : (tc = 0 ∧ t = .int) ∨ (tc = 1 ∧ t = .boolean) ∨ (tc = 2 ∧ ((∃ n, t = .object n) ∨ ∃ u, t = .array u)) := by
  unfold a_kt at h
  split at h
  · rename_i e; cases e; exact Or.inl ⟨rfl, rfl⟩
  · rename_i e; cases e; exact Or.inr (Or.inl ⟨rfl, rfl⟩)
  · rename_i e; cases e; exact Or.inr (Or.inr ⟨rfl, Or.inl ⟨_, rfl⟩⟩)
  · rename_i e; cases e; exact Or.inr (Or.inr ⟨rfl, Or.inr ⟨_, rfl⟩⟩)
  · cases h
def a_kp (own : String) (isI : Bool) (cl : List vw_C) (f tc : Nat) (cs : List Nat) : Bool := cs.all (fun ci => match cl[ci]? with
  | some (_, T, _) => a_kt tc (parseFieldDescriptor (T f).2.2.1) && ((T f).2.2.2 == false || (isI && (T f).1 == own))
  | none => false)
/-- what is known of casts: (true, C, T) one of C is one of T; (false, C, T) it isn't -/
def a_cst (q : Bool × String × String) (s : State) : Prop := match q with
  | (true, C, T) => va_Nw (.castable C T) s
  | (false, C, T) => va_Nc C T s
def a_kc (cl : List vw_C) (NC : List (Bool × String × String)) (nm : String) (ci : Nat) : Bool := match cl[ci]? with
  | some (C, _, _) => C == nm || NC.contains (true, C, nm)
  | none => false
theorem a_kc_ok {cl : List vw_C} {NC : List (Bool × String × String)} {nm : String} {ci : Nat} (h : a_kc cl NC nm ci = true) : ∃ r : vw_C, cl[ci]? = some r ∧ (r.1 = nm ∨ (true, r.1, nm) ∈ NC) := by
  unfold a_kc at h
  split at h
  · rename_i C T N hc
    simp only [Bool.or_eq_true, beq_iff_eq] at h
    exact ⟨_, hc, h.imp id (fun q => by simpa using q)⟩
  · cases h
def a_kn (cl : List vw_C) (NC : List (Bool × String × String)) (nm : String) (ci : Nat) : Bool := match cl[ci]? with
  | some (C, _, _) => NC.contains (false, C, nm)
  | none => false
/-- what a row of a_s3 must link -/
def a_k3 (own : String) (isI : Bool) (cl : List vw_C) (TB : List Jvm.Cond) (E : String) (NC : List (Bool × String × String)) (SR : List (String × Nat × String × Nat)) (ins : Instr) (len : Nat) (cst : Int32) (aux : aX) : Bool := match ins with
  | .getfield ix => len == 3 && match aux with
    | [f, _] :: cs :: [pl, ps] :: _ => a_kf own cl TB ix f cs pl ps
    | _ => false
  | .putfield ix => len == 3 && match aux with
    | [f, tc] :: cs :: [pl, ps] :: _ => a_kf own cl TB ix f cs pl ps && a_kp own isI cl f tc cs
    | _ => false
  | .iaload => len == 1
  | .iastore => len == 1
  | .baload => len == 1
  | .bastore => len == 1
  | .aaload => len == 1
  | .aastore => len == 1 && match aux with
    | cs :: _ => cs.all (a_kc cl NC E)
    | _ => false
  | .arraylength => len == 1
  | .new ix => len == 3 && match aux with
    | [ci] :: [p1, p2, p3] :: _ => match cl[ci]? with
      | some (C, _, N) => decide (TB[p1]? = some (Jvm.Cond.classLink own ix C)) && decide (TB[p2]? = some (Jvm.Cond.instantiable C N)) && decide (TB[p3]? = some (Jvm.Cond.initialized C))
      | none => false
    | _ => false
  | .newarray t => len == 2 && match aux with
    | [p1] :: _ => decide (TB[p1]? = some (Jvm.Cond.arrayClass (newarray.typeOf t)))
    | _ => false
  | .anewarray ix => len == 3 && match aux with
    | [p1] :: _ => decide (TB[p1]? = some (Jvm.Cond.classLink own ix E))
    | _ => false
  | .instanceof ix => len == 3 && match aux with
    | ys :: ns :: [pl] :: _ => match TB[pl]? with
      | some (.classLink o i nm) => o == own && i == ix && ys.all (a_kc cl NC nm) && ns.all (a_kn cl NC nm)
      | _ => false
    | _ => false
  | .ldc ix => len == 2 && match aux with
    | [k] :: [q] :: _ => match SR[q]? with
      | some (o, i, _, k') => o == own && i == ix && k' == k
      | none => false
    | _ => false
  | .ldc2_w ix => len == 3 && match aux with
    | [q] :: _ => decide (TB[q]? = some (Jvm.Cond.constantLong own ix cst.toInt64))
    | _ => false
  | _ => false
section AH
variable {p : Program} {l : Launch} {e : Env} {R : Room} {s : State} {m : MethodId} {args : Array Value} {below : List Frame} {meth : Method} {c : Code} {H : Heap} {locs : List Loc} {cells slots : Nat} {Q : State → Prop}
variable {cc : ByteArray} {pc : Nat} {ls : Array Slot} {B : Nat} {ad : Nat → Nat} {D : va_G} {dA : Nat → ClassId} {cl : List vw_C} {ty : Nat → Nat → FieldType} {df : List (List Value)} {TB : List Jvm.Cond} {E : String} {H0 : Heap} {h : List aC} {rest : List Value}
theorem a_recv (hK : va_K D cl (a_tys dA E) s) (hh : a_hp B ad D dA cl h H) {a ci : Nat} {fs : List Value} (ha : h[a]? = some (.inr (ci, fs))) {r : vw_C} (hc : cl[ci]? = some r) : ∃ cell : Cell, H[B + a]? = some cell ∧ cell.vm.isStatics = false ∧ s.vm.findClass r.1 = some cell.cls :=
  va_recv hK (a_hp_P hh ha) (ci := ci) (q0 := 0) hc rfl
theorem a_new (hx : p.tables.exec = Jvm.exec) (hb : c.code = cc) (hcl : a_cls cl ty df TB) (hts : ∀ w ∈ TB, w.before args s = true) {own : String} (hown : s.vm.findClass own = some m.cls) (hK : va_K D cl (a_tys dA E) s) (hh : a_hp B ad D dA cl h H) (hS : va_S (fun q => B ≤ q) H0 H locs)
    {ci ix : Nat} {fs : List Value} {C : String} {T : u_T} {N : Nat} (hc : cl[ci]? = some (C, T, N)) (hd : df[ci]? = some fs) (h1 : Cond.classLink own ix C ∈ TB) (h2 : Cond.instantiable C N ∈ TB) (h3 : Cond.initialized C ∈ TB) (hcells : cells + 1 ≤ R.cells) (hslots : slots + N ≤ R.slots) (hdg : decode cc pc = .ok (.new ix, 3))
    (kk : ∀ H1 : Heap, a_hp B ad D dA cl (h ++ [.inr (ci, fs)]) H1 → va_S (fun q => B ≤ q) H0 H1 locs → W p l e R s m args below meth c H1 locs (cells + 1) (slots + N) Q (F0 m (pc + 3) ls (.ref (B + h.length) :: rest))) : W p l e R s m args below meth c H locs cells slots Q (F0 m pc ls rest) := by
  obtain ⟨hin, hty, hnm, hdf⟩ := hcl ci C T N hc
  obtain ⟨-, hfs, hno⟩ := hdf fs hd
  have hKn := hK.1 ci _ hc
  have hmap : fs.map (a_cv B ad) = fs := by
    conv => rhs; rw [← List.map_id fs]
    refine List.map_congr_left (fun v hv => ?_)
    rcases hno v hv with rfl | rfl <;> rfl
  refine W.newcK hx hb hown (hts _ h1) (hts _ h2) (hts _ h3) rfl hdg hcells hslots hKn.2.1 hh.1 fun H1 kC hkC e1 z1 o1 => ?_
  rw [← hh.1] at z1 o1
  refine kk H1 (a_hp_push hh z1 o1 ⟨_, hc, ?_⟩) (a_S_push hS z1 o1)
  have h9 := (u_born (ty ci) hts hin hKn hkC e1 hty).to hfs
  simpa only [hmap] using h9
theorem a_newi (hx : p.tables.exec = Jvm.exec) (hb : c.code = cc) (hts : ∀ w ∈ TB, w.before args s = true) (hK : va_K D cl (a_tys dA E) s) (hh : a_hp B ad D dA cl h H) (hS : va_S (fun q => B ≤ q) H0 H locs)
    {n : Int32} (h1 : Cond.arrayClass .int ∈ TB) (hn : ¬ n < 0) (hN : n.toNatClampNeg ≤ 1000) (hcells : cells + 1 ≤ R.cells) (hslots : slots + n.toNatClampNeg ≤ R.slots) (hdg : decode cc pc = .ok (.newarray .int, 2))
    (kk : ∀ H1 : Heap, a_hp B ad D dA cl (h ++ [.inl (0, n.toNatClampNeg, .inl (fun _ => 0))]) H1 → va_S (fun q => B ≤ q) H0 H1 locs → W p l e R s m args below meth c H1 locs (cells + 1) (slots + n.toNatClampNeg) Q (F0 m (pc + 2) ls (.ref (B + h.length) :: rest))) : W p l e R s m args below meth c H locs cells slots Q (F0 m pc ls (.int n :: rest)) := by
  refine va_newaK (atype := .int) hx hb (hts _ h1) rfl hdg rfl hn rfl (by show _ * 4 ≤ _; omega) hcells hslots hh.1 fun H1 cA e1 z1 o1 hAr hNm => ?_
  rw [← hh.1] at z1 o1
  have hcA : cA = dA 0 := Option.some.inj (hNm.symm.trans (hK.2 0 (dA 0, .int) rfl).2)
  subst hcA
  exact kk H1 (a_hp_push hh z1 o1 e1) (a_S_push hS z1 o1)
theorem a_newz (hx : p.tables.exec = Jvm.exec) (hb : c.code = cc) (hts : ∀ w ∈ TB, w.before args s = true) (hK : va_K D cl (a_tys dA E) s) (hh : a_hp B ad D dA cl h H) (hS : va_S (fun q => B ≤ q) H0 H locs)
    {n : Int32} (h1 : Cond.arrayClass .boolean ∈ TB) (hn : ¬ n < 0) (hN : n.toNatClampNeg ≤ 1000) (hcells : cells + 1 ≤ R.cells) (hslots : slots + n.toNatClampNeg ≤ R.slots) (hdg : decode cc pc = .ok (.newarray .boolean, 2))
    (kk : ∀ H1 : Heap, a_hp B ad D dA cl (h ++ [.inl (1, n.toNatClampNeg, .inl (fun _ => 0))]) H1 → va_S (fun q => B ≤ q) H0 H1 locs → W p l e R s m args below meth c H1 locs (cells + 1) (slots + n.toNatClampNeg) Q (F0 m (pc + 2) ls (.ref (B + h.length) :: rest))) : W p l e R s m args below meth c H locs cells slots Q (F0 m pc ls (.int n :: rest)) := by
  refine va_newaK (atype := .boolean) hx hb (hts _ h1) rfl hdg rfl hn rfl (by show _ * 1 ≤ _; omega) hcells hslots hh.1 fun H1 cA e1 z1 o1 hAr hNm => ?_
  rw [← hh.1] at z1 o1
  have hcA : cA = dA 1 := Option.some.inj (hNm.symm.trans (hK.2 1 (dA 1, .boolean) rfl).2)
  subst hcA
  exact kk H1 (a_hp_push hh z1 o1 e1) (a_S_push hS z1 o1)
theorem a_newq (hx : p.tables.exec = Jvm.exec) (hb : c.code = cc) (hts : ∀ w ∈ TB, w.before args s = true) {own : String} (hown : s.vm.findClass own = some m.cls) (hK : va_K D cl (a_tys dA E) s) (hh : a_hp B ad D dA cl h H) (hS : va_S (fun q => B ≤ q) H0 H locs)
    {n : Int32} {ix : Nat} (h1 : Cond.classLink own ix E ∈ TB) (h2 : va_AO E s) (hn : ¬ n < 0) (hN : n.toNatClampNeg ≤ 1000) (hcells : cells + 1 ≤ R.cells) (hslots : slots + n.toNatClampNeg ≤ R.slots) (hdg : decode cc pc = .ok (.anewarray ix, 3))
    (kk : ∀ H1 : Heap, a_hp B ad D dA cl (h ++ [.inl (2, n.toNatClampNeg, .inr (.inr (.inr (.inr (fun _ => none)))))]) H1 → va_S (fun q => B ≤ q) H0 H1 locs → W p l e R s m args below meth c H1 locs (cells + 1) (slots + n.toNatClampNeg) Q (F0 m (pc + 3) ls (.ref (B + h.length) :: rest))) : W p l e R s m args below meth c H locs cells slots Q (F0 m pc ls (.int n :: rest)) := by
  refine W.anew hx hb hown (hts _ h1) (va_AO.use h2) rfl hdg rfl hn (by omega) hcells hslots fun cA kA comp f1 f2 f3 f4 => ?_
  generalize hH1 : H.push ({ cls := cA, slots := Array.replicate n.toNatClampNeg .null, vm := .none } : Cell) = H1
  have z1 : H1.size = H.size + 1 := by rw [← hH1, Array.size_push]
  have e1 : H1[H.size]? = some (arrV cA n.toNatClampNeg (fun _ => .null)) := by rw [← hH1, Array.getElem?_push_size, ← arrV_new]
  have o1 : ∀ q : Nat, q < H.size → H1[q]? = H[q]? := fun q hq => by rw [← hH1, Array.getElem?_push, if_neg (Nat.ne_of_lt hq)]
  obtain ⟨_, _, -, -, -, hNm⟩ := (hK.2 2 (dA 2, .object E) rfl).2
  have hcA : cA = dA 2 := Option.some.inj (f1.symm.trans hNm)
  subst hcA
  have hz := hh.1
  rw [show ({ F0 m pc ls (.int n :: rest) with pc := pc + 3, stack := .ref H.size :: rest } : JFrame) = F0 m (pc + 3) ls (.ref (B + h.length) :: rest) by rw [hz]]
  refine kk H1 (a_hp_push hh z1 o1 ?_) (a_S_push hS z1 o1)
  show H1[B + h.length]? = some (vp_cell _ _)
  rw [← hz]
  exact e1
end AH
