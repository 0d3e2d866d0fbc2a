/-! 04.heap: our heap in the machine's; rows of fields and arrays -/
def a_cA (B : Nat) (x : vp_A) : vp_A := match x with
  | (n, .inr (.inr (.inr (.inr f)))) => (n, .inr (.inr (.inr (.inr (fun j => (f j).map (fun q => B + q))))))
  | (n, .inr (.inr (.inr (.inl f)))) => (n, .inr (.inr (.inr (.inl f))))
  | (n, .inr (.inr (.inl f))) => (n, .inr (.inr (.inl f)))
  | (n, .inr (.inl f)) => (n, .inr (.inl f))
  | (n, .inl f) => (n, .inl f)
def a_cE (B : Nat) (ad : Nat → Nat) (dA : Nat → ClassId) (x : aC) : va_E := match x with
  | .inl (k, x) => .inl (dA k, a_cA B x)
  | .inr (ci, fs) => .inr (ci, fs.map (a_cv B ad))
/-- the heap h of ours lies in H from B on, and nothing is behind it -/
def a_hp (B : Nat) (ad : Nat → Nat) (D : va_G) (dA : Nat → ClassId) (cl : List vw_C) (h : List aC) (H : Heap) : Prop :=
  H.size = B + h.length ∧ ∀ (j : Nat) (x : aC), h[j]? = some x → va_at D cl (B + j, a_cE B ad dA x) H
def a_tys (dA : Nat → ClassId) (E : String) : List (ClassId × FieldType) := [(dA 0, .int), (dA 1, .boolean), (dA 2, .object E)]
/-- what is asked of the table of classes -/
def a_cls (cl : List vw_C) (ty : Nat → Nat → FieldType) (df : List (List Value)) (TB : List Jvm.Cond) : Prop :=
  ∀ (ci : Nat) (C : String) (T : u_T) (N : Nat), cl[ci]? = some (C, T, N) → (∀ w ∈ u_ws C T N, w ∈ TB) ∧ (∀ k, k < N → parseFieldDescriptor (T k).2.2.1 = some (ty ci k)) ∧ (∀ a, a < N → ∀ b, b < N → a ≠ b → (T a).2.1 ≠ (T b).2.1) ∧ ∀ fs, df[ci]? = some fs → fs.length = N ∧ (∀ j, j < N → defaultValue (ty ci j) = vp_V fs j) ∧ ∀ v ∈ fs, v = .int 0 ∨ v = .null
theorem a_hp_P {B : Nat} {ad : Nat → Nat} {D : va_G} {dA : Nat → ClassId} {cl : List vw_C} {h : List aC} {H : Heap} {j : Nat} {x : aC} (hh : a_hp B ad D dA cl h H) (hj : h[j]? = some x) : va_P D cl [(B + j, a_cE B ad dA x)] H := by
  intro k q hq
  match k, hq with
  | 0, hq => cases hq; exact hh.2 j x hj
  | k + 1, hq => simp at hq
theorem a_hp_set {B : Nat} {ad : Nat → Nat} {D : va_G} {dA : Nat → ClassId} {cl : List vw_C} {h : List aC} {H H1 : Heap} {j : Nat} {x y : aC} (hh : a_hp B ad D dA cl h H) (hj : h[j]? = some x) (z : H1.size = H.size) (oq : ∀ q : Nat, q ≠ B + j → H1[q]? = H[q]?) (he : va_at D cl (B + j, a_cE B ad dA y) H1) : a_hp B ad D dA cl (h.set j y) H1 := by
  refine ⟨by rw [z, hh.1, List.length_set], fun k w hk => ?_⟩
  by_cases hjk : j = k
  · subst hjk
    rw [List.getElem?_set_self (List.getElem?_eq_some_iff.mp hj).1] at hk
    cases hk
    exact he
  · rw [List.getElem?_set_ne hjk] at hk
    exact (hh.2 k w hk).kept (oq (B + k) (by omega))
theorem a_hp_push {B : Nat} {ad : Nat → Nat} {D : va_G} {dA : Nat → ClassId} {cl : List vw_C} {h : List aC} {H H1 : Heap} {y : aC} (hh : a_hp B ad D dA cl h H) (z : H1.size = H.size + 1) (oq : ∀ q : Nat, q < H.size → H1[q]? = H[q]?) (he : va_at D cl (B + h.length, a_cE B ad dA y) H1) : a_hp B ad D dA cl (h ++ [y]) H1 := by
  refine ⟨by rw [z, hh.1, List.length_append]; simp; omega, fun k w hk => ?_⟩
  by_cases hl : k < h.length
  · rw [List.getElem?_append_left hl] at hk
    exact (hh.2 k w hk).kept (oq (B + k) (by rw [hh.1]; omega))
  · rw [List.getElem?_append_right (by omega)] at hk
    have hz : k - h.length < 1 := (List.getElem?_eq_some_iff.mp hk).1
    have hk0 : k = h.length := by omega
    subst hk0
    simp at hk
    subst hk
    exact he
theorem a_S_put {B : Nat} {H0 H H1 : Heap} {locs : List Loc} {j k : Nat} (hS : va_S (fun q => B ≤ q) H0 H locs) (z : H1.size = H.size) (oq : ∀ q : Nat, q ≠ B + j → H1[q]? = H[q]?) : va_S (fun q => B ≤ q) H0 H1 (locs ++ [⟨B + j, k⟩]) := hS.put z oq (Nat.le_add_right B j)
theorem a_S_push {B : Nat} {H0 H H1 : Heap} {locs : List Loc} (hS : va_S (fun q => B ≤ q) H0 H locs) (z : H1.size = H.size + 1) (oq : ∀ q : Nat, q < H.size → H1[q]? = H[q]?) : va_S (fun q => B ≤ q) H0 H1 locs :=
  ⟨Nat.le_trans hS.1 (by omega), fun q h1 h2 => (oq q (Nat.lt_of_lt_of_le h1 hS.1)).trans (hS.2.1 q h1 h2), hS.2.2⟩
theorem a_in_ok {j : Int32} {n : Nat} (h : a_in j n = true) : vp_in j n := by
  unfold a_in at h
  simp only [Bool.and_eq_true, decide_eq_true_eq] at h
  exact fun q => q.elim h.1 (fun q => by omega)
theorem a_cv_rf (B : Nat) (ad : Nat → Nat) (r : Option Nat) : a_cv B ad (va_rf r) = va_rf (r.map (fun q => B + q)) := by cases r <;> rfl
/-- a value that fits its field -/
theorem a_fk_ok {B : Nat} {ad : Nat → Nat} {tc : Nat} {v : Value} {t : FieldType} (h : a_fk tc v = true) (ht : (tc = 0 ∧ t = .int) ∨ (tc = 1 ∧ t = .boolean) ∨ (tc = 2 ∧ ((∃ n, t = .object n) ∨ ∃ u, t = .array u))) : narrow t (a_cv B ad v) = a_cv B ad v ∧ fits t (a_cv B ad v) = true := by
  rcases ht with ⟨rfl, rfl⟩ | ⟨rfl, rfl⟩ | ⟨rfl, ⟨n, rfl⟩ | ⟨u, rfl⟩⟩
  · cases v <;> simp [a_fk] at h
    exact ⟨rfl, rfl⟩
  · cases v <;> simp [a_fk] at h
    rcases h with rfl | rfl
    · show narrow .boolean (.int 0) = .int 0 ∧ fits .boolean (.int 0) = true
      decide
    · show narrow .boolean (.int 1) = .int 1 ∧ fits .boolean (.int 1) = true
      decide
  · cases v <;> simp [a_fk] at h
    · exact ⟨rfl, rfl⟩
    · exact ⟨rfl, rfl⟩
  · cases v <;> simp [a_fk] at h
    · exact ⟨rfl, rfl⟩
    · exact ⟨rfl, rfl⟩
section AH
variable {p : Program} {l : Launch} {e : Env} {R : Room} {s : State} {m : MethodId} {args : Array Value} {below : List Frame} {meth : Method} {c : Code} {H : Heap} {locs : List Loc} {cells slots : Nat} {Q : State → Prop}
variable {cc : ByteArray} {pc : Nat} {ls : Array Slot} {B : Nat} {ad : Nat → Nat} {D : va_G} {dA : Nat → ClassId} {cl : List vw_C} {ty : Nat → Nat → FieldType} {df : List (List Value)} {TB : List Jvm.Cond} {E : String} {H0 : Heap} {h : List aC} {rest : List Value}
theorem a_getf (hx : p.tables.exec = Jvm.exec) (hb : c.code = cc) (hcl : a_cls cl ty df TB) (hts : ∀ w ∈ TB, w.before args s = true) {own ref : String} (hown : s.vm.findClass own = some m.cls) (hK : va_K D cl (a_tys dA E) s) (hh : a_hp B ad D dA cl h H)
    {a ci index f : Nat} {fs : List Value} {v : Value} (ha : h[a]? = some (.inr (ci, fs))) {C : String} {T : u_T} {N : Nat} (hc : cl[ci]? = some (C, T, N)) (hf : f < N) (hlink : Cond.fieldLink own index ref (T f).2.1 (T f).2.2.1 ∈ TB) (hsame : (T f).1 = ref ∨ Cond.sameField ref (T f).1 (T f).2.1 (T f).2.2.1 ∈ TB) (hv : fs[f]? = some v) (hdg : decode cc pc = .ok (.getfield index, 3))
    (kk : W p l e R s m args below meth c H locs cells slots Q (F0 m (pc + 3) ls (a_cv B ad v :: rest))) : W p l e R s m args below meth c H locs cells slots Q (F0 m pc ls (.ref (B + a) :: rest)) := by
  refine va_get (D := D) (ci := ci) (T := T) (N := N) hx hb hts (hcl ci C T N hc).1 hown hK (a_hp_P hh ha) 0 rfl hc f hf (hts _ hlink) ?_ (by rw [List.getElem?_map, hv]; rfl) hdg kk
  intro x hx
  rcases hsame with q | q
  · rw [← q]; exact hx
  · exact u_same (hts _ q) x hx
theorem a_putf (hx : p.tables.exec = Jvm.exec) (hb : c.code = cc) (hcl : a_cls cl ty df TB) (hts : ∀ w ∈ TB, w.before args s = true) {own ref : String} (hown : s.vm.findClass own = some m.cls) (hK : va_K D cl (a_tys dA E) s) (hh : a_hp B ad D dA cl h H) (hS : va_S (fun q => B ≤ q) H0 H locs)
    {a ci index f : Nat} {fs : List Value} {v : Value} (ha : h[a]? = some (.inr (ci, fs))) {C : String} {T : u_T} {N : Nat} (hc : cl[ci]? = some (C, T, N)) (hf : f < N) (hlink : Cond.fieldLink own index ref (T f).2.1 (T f).2.2.1 ∈ TB) (hsame : (T f).1 = ref ∨ Cond.sameField ref (T f).1 (T f).2.1 (T f).2.2.1 ∈ TB) (hfin : (T f).2.2.2 = false ∨ ((T f).2.2.2 = true ∧ meth.name = "<init>" ∧ (T f).1 = own))
    (hn : narrow (ty ci f) (a_cv B ad v) = a_cv B ad v ∧ fits (ty ci f) (a_cv B ad v) = true) (hl : f < fs.length) (hdg : decode cc pc = .ok (.putfield index, 3))
    (kk : ∀ (H1 : Heap) (locs1 : List Loc), a_hp B ad D dA cl (h.set a (.inr (ci, fs.set f v))) H1 → va_S (fun q => B ≤ q) H0 H1 locs1 → W p l e R s m args below meth c H1 locs1 cells slots Q (F0 m (pc + 3) ls rest)) : W p l e R s m args below meth c H locs cells slots Q (F0 m pc ls (a_cv B ad v :: .ref (B + a) :: rest)) := by
  obtain ⟨hin, hty, hnm, -⟩ := hcl ci C T N hc
  have hap := va_apart (own := own) hts hin (ty ci) hty hnm hK hc
  obtain ⟨r, h1, cell, q1, q2, q3, q4⟩ := hh.2 a _ ha
  have hr : r = (C, T, N) := Option.some.inj (h1.symm.trans hc)
  subst hr
  obtain ⟨hSl, hfc, kC, hkC, hkind⟩ := hK.1 ci _ hc
  obtain ⟨cf, kf, fi, fd, hi, hsl⟩ := hSl f hf
  have hi2 : s.fieldFound? ref (T f).2.1 (T f).2.2.1 = some (cf, kf, fi, fd) := by
    rcases hsame with q | q
    · rw [← q]; exact hi
    · exact u_same (hts _ q) _ hi
  have hlay := hts _ (hin _ (u_in_lay hf))
  have hst := (u_facts hfc hkC (u_lays hts hin hf) hi).1
  have fin : ∀ H' : Heap, H'[B + a]? = some (cell.setSlot fd.slot (a_cv B ad v)) → H'.size = H.size → (∀ q, q ≠ B + a → H'[q]? = H[q]?) → W p l e R s m args below meth c H' (locs ++ [⟨B + a, fd.slot⟩]) cells slots Q (F0 m (pc + 3) ls rest) := by
    intro H' e1 e2 e3
    rw [hsl] at e1
    refine kk H' _ (a_hp_set hh ha e2 e3 ⟨_, hc, ?_⟩) (a_S_put hS e2 e3)
    refine t_OB.to (V := updV (vp_V (fs.map (a_cv B ad))) f (a_cv B ad v)) ⟨_, e1, q2, q3, t_set q4 hap hf _⟩ (fun j _ => ?_)
    rw [vp_updV_set (by rw [List.length_map]; exact hl), ← List.map_set]
  unfold u_lay at hlay
  rcases hfin with hfin | ⟨hfin, hin2, hdecl⟩
  · rw [if_neg (by rw [hfin]; decide)] at hlay
    have h6 := u_store hfc hkC hkind hlay hi (hty f hf) hn.1 hn.2
    exact W.putK hx hb (f := fd) ⟨hown, hts _ hlink, ⟨_, _, _, hi2⟩, hst⟩ (by rw [q2]; exact h6) q1 q3 (by rw [hsl]; exact k2_hasslot (q4 f hf)) rfl rfl hdg fin
  · rw [if_pos hfin] at hlay
    have hcf : m.cls = cf := by
      obtain ⟨_, _, c', _, _, _, -, -, hf', -, -, -, hown2, -⟩ := Cond.laysFinal_spec hlay
      have e1 : c' = cf := by have := hi.symm.trans hf'; simp at this; exact this.1.symm
      rw [hdecl] at hown2
      rw [← e1]; exact Option.some.inj (hown.symm.trans hown2)
    have h6 := u_fits hfc hkC hkind (Or.inr hlay) hi (hty f hf) hn.1 hn.2
    exact W.putFinK hx hb hown (hts _ hlink) hi2 hst hcf hin2 (by rw [q2]; exact h6) q1 q3 (by rw [hsl]; exact k2_hasslot (q4 f hf)) rfl rfl hdg fin
theorem a_iald (hx : p.tables.exec = Jvm.exec) (hb : c.code = cc) (hK : va_K D cl (a_tys dA E) s) (hh : a_hp B ad D dA cl h H) {a n : Nat} {f : Nat → Int32} (ha : h[a]? = some (.inl (0, n, .inl f))) {j : Int32} (hin : vp_in j n) (hdg : decode cc pc = .ok (.iaload, 1))
    (kk : W p l e R s m args below meth c H locs cells slots Q (F0 m (pc + 1) ls (.int (f j.toNatClampNeg) :: rest))) : W p l e R s m args below meth c H locs cells slots Q (F0 m pc ls (.int j :: .ref (B + a) :: rest)) :=
  va_iald hx hb hK (a_hp_P hh ha) 0 0 rfl rfl hin hdg kk
theorem a_zald (hx : p.tables.exec = Jvm.exec) (hb : c.code = cc) (hK : va_K D cl (a_tys dA E) s) (hh : a_hp B ad D dA cl h H) {a n : Nat} {f : Nat → Int32} (ha : h[a]? = some (.inl (1, n, .inl f))) {j : Int32} (hin : vp_in j n) (hdg : decode cc pc = .ok (.baload, 1))
    (kk : W p l e R s m args below meth c H locs cells slots Q (F0 m (pc + 1) ls (.int (f j.toNatClampNeg) :: rest))) : W p l e R s m args below meth c H locs cells slots Q (F0 m pc ls (.int j :: .ref (B + a) :: rest)) :=
  va_zald hx hb hK (a_hp_P hh ha) 0 1 rfl rfl hin hdg kk
theorem a_aald (hx : p.tables.exec = Jvm.exec) (hb : c.code = cc) (hK : va_K D cl (a_tys dA E) s) (hh : a_hp B ad D dA cl h H) {a n : Nat} {f : Nat → Option Nat} (ha : h[a]? = some (.inl (2, n, .inr (.inr (.inr (.inr f)))))) {j : Int32} (hin : vp_in j n) (hdg : decode cc pc = .ok (.aaload, 1))
    (kk : W p l e R s m args below meth c H locs cells slots Q (F0 m (pc + 1) ls (a_cv B ad (va_rf (f j.toNatClampNeg)) :: rest))) : W p l e R s m args below meth c H locs cells slots Q (F0 m pc ls (.int j :: .ref (B + a) :: rest)) := by
  rw [a_cv_rf] at kk
  exact va_aldq hx hb hK (a_hp_P hh ha) 0 2 rfl rfl hin hdg kk
theorem a_alen (hx : p.tables.exec = Jvm.exec) (hb : c.code = cc) (hK : va_K D cl (a_tys dA E) s) (hh : a_hp B ad D dA cl h H) {a k : Nat} {x : vp_A} (ha : h[a]? = some (.inl (k, x))) (hk : k < 3) (hdg : decode cc pc = .ok (.arraylength, 1))
    (kk : W p l e R s m args below meth c H locs cells slots Q (F0 m (pc + 1) ls (.int (Int32.ofNat x.1) :: rest))) : W p l e R s m args below meth c H locs cells slots Q (F0 m pc ls (.ref (B + a) :: rest)) := by
  have hx1 : (a_cA B x).1 = x.1 := by
    obtain ⟨n, y⟩ := x
    rcases y with f | f | f | f | f <;> rfl
  have h2 : ∃ t, (a_tys dA E)[k]? = some (dA k, t) := by
    match k, hk with
    | 0, _ => exact ⟨_, rfl⟩
    | 1, _ => exact ⟨_, rfl⟩
    | 2, _ => exact ⟨_, rfl⟩
  obtain ⟨t, h2⟩ := h2
  exact va_alen hx hb hK (a_hp_P hh ha) 0 k (x := a_cA B x) rfl h2 (by rw [hx1]) hdg kk
theorem a_iast (hx : p.tables.exec = Jvm.exec) (hb : c.code = cc) (hK : va_K D cl (a_tys dA E) s) (hh : a_hp B ad D dA cl h H) (hS : va_S (fun q => B ≤ q) H0 H locs) {a n : Nat} {f : Nat → Int32} (ha : h[a]? = some (.inl (0, n, .inl f))) {j x : Int32} (hin : vp_in j n) (hdg : decode cc pc = .ok (.iastore, 1))
    (kk : ∀ (H1 : Heap) (locs1 : List Loc), a_hp B ad D dA cl (h.set a (.inl (0, n, .inl (upd f j.toNatClampNeg x)))) H1 → va_S (fun q => B ≤ q) H0 H1 locs1 → W p l e R s m args below meth c H1 locs1 cells slots Q (F0 m (pc + 1) ls rest)) : W p l e R s m args below meth c H locs cells slots Q (F0 m pc ls (.int x :: .int j :: .ref (B + a) :: rest)) := by
  refine W.iast hx hb (hh.2 a _ ha) ((hK.2 0 (dA 0, .int) rfl).1 n (fun j => .int (f j))) (fun q => by cases q) (by show ¬ (j < 0 ∨ (arrV _ _ _).slots.size ≤ _); rw [arrV_size]; exact hin) rfl rfl hdg fun H1 e1 z oq => ?_
  refine kk H1 _ (a_hp_set hh ha z oq ?_) (a_S_put hS z oq)
  show H1[B + a]? = some (vp_cell _ (n, .inl _))
  rw [e1]
  show some ((vp_cell _ (n, .inl f)).setSlot _ _) = _
  rw [vp_cell_i, vp_cell_i, arrV_store]
  congr 2
  funext q
  by_cases hq : q = j.toNatClampNeg
  · subst hq; simp [updV, upd]
  · simp [updV, upd, hq]
theorem a_zast (hx : p.tables.exec = Jvm.exec) (hb : c.code = cc) (hK : va_K D cl (a_tys dA E) s) (hh : a_hp B ad D dA cl h H) (hS : va_S (fun q => B ≤ q) H0 H locs) {a n : Nat} {f : Nat → Int32} (ha : h[a]? = some (.inl (1, n, .inl f))) {j x : Int32} (hin : vp_in j n) (h01 : x = 0 ∨ x = 1) (hdg : decode cc pc = .ok (.bastore, 1))
    (kk : ∀ (H1 : Heap) (locs1 : List Loc), a_hp B ad D dA cl (h.set a (.inl (1, n, .inl (upd f j.toNatClampNeg x)))) H1 → va_S (fun q => B ≤ q) H0 H1 locs1 → W p l e R s m args below meth c H1 locs1 cells slots Q (F0 m (pc + 1) ls rest)) : W p l e R s m args below meth c H locs cells slots Q (F0 m pc ls (.int x :: .int j :: .ref (B + a) :: rest)) := by
  have hx1 : narrow .boolean (.int x) = .int x := by rcases h01 with rfl | rfl <;> decide
  refine W.zast hx hb (hh.2 a _ ha) ((hK.2 1 (dA 1, .boolean) rfl).1 n (fun j => .int (f j))) (fun q => by cases q) (by show ¬ (j < 0 ∨ (arrV _ _ _).slots.size ≤ _); rw [arrV_size]; exact hin) rfl rfl hdg fun H1 e1 z oq => ?_
  refine kk H1 _ (a_hp_set hh ha z oq ?_) (a_S_put hS z oq)
  show H1[B + a]? = some (vp_cell _ (n, .inl _))
  rw [e1]
  show some ((vp_cell _ (n, .inl f)).setSlot _ _) = _
  rw [vp_cell_i, vp_cell_i, arrV_store]
  congr 2
  funext q
  by_cases hq : q = j.toNatClampNeg
  · subst hq; simp [updV, upd, hx1]
  · simp [updV, upd, hq]
theorem a_aastN (hx : p.tables.exec = Jvm.exec) (hb : c.code = cc) (hK : va_K D cl (a_tys dA E) s) (hh : a_hp B ad D dA cl h H) (hS : va_S (fun q => B ≤ q) H0 H locs) {a n : Nat} {f : Nat → Option Nat} (ha : h[a]? = some (.inl (2, n, .inr (.inr (.inr (.inr f)))))) {j : Int32} (hin : vp_in j n) (hdg : decode cc pc = .ok (.aastore, 1))
    (kk : ∀ (H1 : Heap) (locs1 : List Loc), a_hp B ad D dA cl (h.set a (.inl (2, n, .inr (.inr (.inr (.inr (va_up f j.toNatClampNeg none))))))) H1 → va_S (fun q => B ≤ q) H0 H1 locs1 → W p l e R s m args below meth c H1 locs1 cells slots Q (F0 m (pc + 1) ls rest)) : W p l e R s m args below meth c H locs cells slots Q (F0 m pc ls (.null :: .int j :: .ref (B + a) :: rest)) := by
  refine va_WaastN (C := E) hx hb (hh.2 a _ ha) ((hK.2 2 (dA 2, .object E) rfl).1 n (fun j => va_rf ((f j).map (fun q => B + q)))) (fun q => by cases q) (by show ¬ (j < 0 ∨ (arrV _ _ _).slots.size ≤ _); rw [arrV_size]; exact hin) rfl rfl hdg fun H1 e1 z oq => ?_
  refine kk H1 _ (a_hp_set hh ha z oq ?_) (a_S_put hS z oq)
  show H1[B + a]? = some (vp_cell _ (n, .inr (.inr (.inr (.inr _)))))
  rw [e1]
  show some ((vp_cell _ (n, .inr (.inr (.inr (.inr (fun j => (f j).map (fun q => B + q))))))).setSlot _ _) = _
  rw [vp_cell_q, vp_cell_q, arrV_store]
  congr 2
  funext q
  by_cases hq : q = j.toNatClampNeg
  · subst hq; simp [updV, va_up, va_rf]
  · simp [updV, va_up, hq]
theorem a_aast (hx : p.tables.exec = Jvm.exec) (hb : c.code = cc) (hts : ∀ w ∈ TB, w.before args s = true) (hK : va_K D cl (a_tys dA E) s) (hh : a_hp B ad D dA cl h H) (hS : va_S (fun q => B ≤ q) H0 H locs) {a n v ci : Nat} {f : Nat → Option Nat} {vs : List Value} (ha : h[a]? = some (.inl (2, n, .inr (.inr (.inr (.inr f)))))) (hv : h[v]? = some (.inr (ci, vs))) {r : vw_C} (hc : cl[ci]? = some r) (hca : r.1 = E ∨ va_Nw (.castable r.1 E) s) {j : Int32} (hin : vp_in j n) (hdg : decode cc pc = .ok (.aastore, 1))
    (kk : ∀ (H1 : Heap) (locs1 : List Loc), a_hp B ad D dA cl (h.set a (.inl (2, n, .inr (.inr (.inr (.inr (va_up f j.toNatClampNeg (some v)))))))) H1 → va_S (fun q => B ≤ q) H0 H1 locs1 → W p l e R s m args below meth c H1 locs1 cells slots Q (F0 m (pc + 1) ls rest)) : W p l e R s m args below meth c H locs cells slots Q (F0 m pc ls (.ref (B + v) :: .int j :: .ref (B + a) :: rest)) := by
  have hlt : j.toNatClampNeg < n := Nat.not_le.mp fun q => hin (Or.inr q)
  have h0 : ¬ j < 0 := fun q => hin (Or.inl q)
  obtain ⟨r', hr', cellV, g1, g2, g3, -⟩ := hh.2 v _ hv
  have hcls := (hK.1 ci r hc).2
  obtain ⟨kA, comp, k1, k2, k3, -⟩ := (hK.2 2 (dA 2, .object E) rfl).2
  obtain ⟨kE, hkE, -⟩ := Vm.findClass_spec k3
  obtain ⟨kC, hkC, -⟩ := hcls.2
  have hasg : s.vm.assignable (D.1 ci) comp = true := by
    rcases hca with q | q
    · have hcomp : comp = D.1 ci := Option.some.inj (k3.symm.trans (by rw [← q]; exact hcls.1))
      rw [hcomp]
      exact va_assign hcls
    · obtain ⟨c0, t1, f1, f2, f3⟩ := Cond.castable_spec (va_Nw.use (A := args) rfl q)
      cases hcls.1.symm.trans f1
      cases k3.symm.trans f2
      exact f3
  refine W.aast hx hb (hh.2 a _ ha) (fun q h => by cases h) (fun h => by cases h) k1 k2 rfl hkE ⟨h0, by show _ < (arrV _ _ _).slots.size; rw [arrV_size]; exact hlt⟩ g1 (fun q h => by rw [g3] at h; cases h) (by rw [g2]; exact hkC) (by rw [g2]; exact hasg) rfl rfl hdg fun H1 e1 z oq => ?_
  refine kk H1 _ (a_hp_set hh ha z oq ?_) (a_S_put hS z oq)
  show H1[B + a]? = some (vp_cell _ (n, .inr (.inr (.inr (.inr _)))))
  rw [e1]
  show some ((vp_cell _ (n, .inr (.inr (.inr (.inr (fun j => (f j).map (fun q => B + q))))))).setSlot _ _) = _
  rw [vp_cell_q, vp_cell_q, arrV_store]
  congr 2
  funext q
  by_cases hq : q = j.toNatClampNeg
  · subst hq; simp [updV, va_up, va_rf]
  · simp [updV, va_up, hq]
end AH
