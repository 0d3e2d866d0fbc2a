/-! 03.flow: branches and switches -/
/-- the targets of row i lie where the offsets say (pf: a row's place in the bytes) -/
def a_k2 (ins : Instr) (len : Nat) (aux : aX) (pf : Nat → Nat) (i : Nat) : Bool := match ins with
  | .goto off => len == 3 && match aux with
    | [t] :: _ => decide ((pf i : Int) + off = (pf t : Int))
    | _ => false
  | .if_icmp _ off => len == 3 && pf (i + 1) == pf i + 3 && match aux with
    | [t] :: _ => decide ((pf i : Int) + off = (pf t : Int))
    | _ => false
  | .ifCond _ off => len == 3 && pf (i + 1) == pf i + 3 && match aux with
    | [t] :: _ => decide ((pf i : Int) + off = (pf t : Int))
    | _ => false
  | .ifnull off => len == 3 && pf (i + 1) == pf i + 3 && match aux with
    | [t] :: _ => decide ((pf i : Int) + off = (pf t : Int))
    | _ => false
  | .ifnonnull off => len == 3 && pf (i + 1) == pf i + 3 && match aux with
    | [t] :: _ => decide ((pf i : Int) + off = (pf t : Int))
    | _ => false
  | .tableswitch d lo hi offs => match aux with
    | [dt] :: ts :: _ => decide ((pf i : Int) + d = (pf dt : Int)) && decide (lo + (offs.toList.length : Int) = hi + 1) && decide (offs.toList.length = ts.length) && (offs.toList.zip ts).all (fun q => decide ((pf i : Int) + q.1 = (pf q.2 : Int)))
    | _ => false
  | .lookupswitch d ps => match aux with
    | [dt] :: ts :: _ => decide ((pf i : Int) + d = (pf dt : Int)) && (ps.toList.zip (ps.toList.drop 1)).all (fun (a, next) => a.1 < next.1) && decide (ps.toList.length = ts.length) && (ps.toList.zip ts).all (fun q => decide ((pf i : Int) + q.1.2 = (pf q.2 : Int)))
    | _ => false
  | _ => false
theorem a_lsw_ok {d : Int} {dt P : Nat} {pf : Nat → Nat} (hd : (P : Int) + d = (pf dt : Int)) (x : Int32) : ∀ (ps : List (Int × Int)) (ts : List Nat), ps.length = ts.length → (∀ q ∈ ps.zip ts, (P : Int) + q.1.2 = (pf q.2 : Int)) → (P : Int) + Op.lookupswitch.offset ps d x.toInt = (pf (a_lsw dt ps ts x) : Int) := by
  intro ps
  induction ps with
  | nil =>
    intro ts _ _
    cases ts <;> exact hd
  | cons q ps ih =>
    intro ts hl ha
    cases ts with
    | nil => simp at hl
    | cons t ts =>
      obtain ⟨a, o⟩ := q
      rw [Op.lookupswitch.offset_cons]
      simp only [a_lsw]
      by_cases hx : x.toInt = a
      · rw [if_pos hx.symm, if_pos hx]
        exact ha ((a, o), t) (by simp)
      · rw [if_neg (fun q => hx q.symm), if_neg hx]
        exact ih ts (by simpa using hl) (fun q hq => ha q (by simp only [List.zip_cons_cons, List.mem_cons]; exact Or.inr hq))
section AR
variable {p : Program} {l : Launch} {e : Env} {R : Room} {s : State} {m : MethodId} {args : Array Value} {below : List Frame} {meth : Method} {c : Code} {H : Heap} {locs : List Loc} {cells slots : Nat} {Q : State → Prop}
variable {cc : ByteArray} {ls : Array Slot} {B : Nat} {ad : Nat → Nat} {pf : Nat → Nat}
theorem a_ic_ok (hx : p.tables.exec = Jvm.exec) (hb : c.code = cc) {cd : ClassFile.Cond} {off : Int} {P t n : Nat} {rest : List Value} {x y : Int32} (hdg : decode cc P = .ok (.if_icmp cd off, 3)) (ht : (P : Int) + off = (pf t : Int)) (hn : pf n = P + 3)
    (kk : W p l e R s m args below meth c H locs cells slots Q (F0 m (pf (bif a_ic cd x y then t else n)) ls rest)) : W p l e R s m args below meth c H locs cells slots Q (F0 m P ls (.int y :: .int x :: rest)) := by
  cases cd with
  | eq => exact lv_icmp_eq hx hb hdg ht (fun q => by simpa [a_ic, q] using kk) (fun q => by rw [← hn]; simpa [a_ic, q] using kk)
  | ne => exact lv_icmp_ne hx hb hdg ht (fun q => by simpa [a_ic, q] using kk) (fun q => by rw [← hn]; simpa [a_ic, q] using kk)
  | lt => exact lv_icmp_lt hx hb hdg ht (fun q => by simpa [a_ic, q] using kk) (fun q => by rw [← hn]; simpa [a_ic, q] using kk)
  | ge => exact lv_icmp_ge hx hb hdg ht (fun q => by simpa [a_ic, q] using kk) (fun q => by rw [← hn]; simpa [a_ic, q] using kk)
  | gt => exact lv_icmp_gt hx hb hdg ht (fun q => by simpa [a_ic, q] using kk) (fun q => by rw [← hn]; simpa [a_ic, q] using kk)
  | le => exact lv_icmp_le hx hb hdg ht (fun q => by simpa [a_ic, q] using kk) (fun q => by rw [← hn]; simpa [a_ic, q] using kk)
theorem a_if_ok (hx : p.tables.exec = Jvm.exec) (hb : c.code = cc) {cd : ClassFile.Cond} {off : Int} {P t n : Nat} {rest : List Value} {x : Int32} (hdg : decode cc P = .ok (.ifCond cd off, 3)) (ht : (P : Int) + off = (pf t : Int)) (hn : pf n = P + 3)
    (kk : W p l e R s m args below meth c H locs cells slots Q (F0 m (pf (bif a_ic cd x 0 then t else n)) ls rest)) : W p l e R s m args below meth c H locs cells slots Q (F0 m P ls (.int x :: rest)) := by
  cases cd with
  | eq => exact lv_if_eq hx hb hdg ht (fun q => by simpa [a_ic, q] using kk) (fun q => by rw [← hn]; simpa [a_ic, q] using kk)
  | ne => exact lv_if_ne hx hb hdg ht (fun q => by simpa [a_ic, q] using kk) (fun q => by rw [← hn]; simpa [a_ic, q] using kk)
  | lt => exact lv_if_lt hx hb hdg ht (fun q => by simpa [a_ic, q] using kk) (fun q => by rw [← hn]; simpa [a_ic, q] using kk)
  | ge => exact lv_if_ge hx hb hdg ht (fun q => by simpa [a_ic, q] using kk) (fun q => by rw [← hn]; simpa [a_ic, q] using kk)
  | gt => exact lv_if_gt hx hb hdg ht (fun q => by simpa [a_ic, q] using kk) (fun q => by rw [← hn]; simpa [a_ic, q] using kk)
  | le => exact lv_if_le hx hb hdg ht (fun q => by simpa [a_ic, q] using kk) (fun q => by rw [← hn]; simpa [a_ic, q] using kk)
theorem a_s2_ok (hx : p.tables.exec = Jvm.exec) (hb : c.code = cc) {ins : Instr} {len : Nat} {aux : aX} {i i' : Nat} (hdg : decode cc (pf i) = .ok (ins, len)) (hk : a_k2 ins len aux pf i = true)
    {L L' : aL} {st st' : List Value} {h h' : List aC} (hs : a_s2 ins aux i L st h = some (true, i', L', st', h'))
    (kk : L' = L → h' = h → W p l e R s m args below meth c H locs cells slots Q (F0 m (pf i') ls (st'.map (a_cv B ad)))) :
    W p l e R s m args below meth c H locs cells slots Q (F0 m (pf i) ls (st.map (a_cv B ad))) := by
  unfold a_s2 at hs
  split at hs
  case h_1 off =>
    simp only [a_k2, Bool.and_eq_true, beq_iff_eq] at hk
    obtain ⟨rfl, hk⟩ := hk
    split at hs
    · simp only [decide_eq_true_eq] at hk
      cases hs
      exact lv_goto hx hb hdg hk (kk rfl rfl)
    · cases hs
  case h_2 cd off =>
    simp only [a_k2, Bool.and_eq_true, beq_iff_eq] at hk
    obtain ⟨⟨rfl, hn⟩, hk⟩ := hk
    split at hs
    · simp only [decide_eq_true_eq] at hk
      cases hs
      exact a_ic_ok hx hb hdg hk hn (kk rfl rfl)
    · cases hs
  case h_3 cd off =>
    simp only [a_k2, Bool.and_eq_true, beq_iff_eq] at hk
    obtain ⟨⟨rfl, hn⟩, hk⟩ := hk
    split at hs
    · simp only [decide_eq_true_eq] at hk
      cases hs
      exact a_if_ok hx hb hdg hk hn (kk rfl rfl)
    · cases hs
  case h_4 off =>
    simp only [a_k2, Bool.and_eq_true, beq_iff_eq] at hk
    obtain ⟨⟨rfl, hn⟩, hk⟩ := hk
    split at hs
    · simp only [decide_eq_true_eq] at hk
      cases hs
      exact lv_ifnullN hx hb hdg hk (kk rfl rfl)
    · cases hs
      exact lv_ifnull hx hb hdg (by rw [← hn]; exact kk rfl rfl)
    · cases hs
  case h_5 off =>
    simp only [a_k2, Bool.and_eq_true, beq_iff_eq] at hk
    obtain ⟨⟨rfl, hn⟩, hk⟩ := hk
    split at hs
    · cases hs
      exact lv_ifnonnullN hx hb hdg (by rw [← hn]; exact kk rfl rfl)
    · simp only [decide_eq_true_eq] at hk
      cases hs
      exact lv_ifnonnull hx hb hdg hk (kk rfl rfl)
    · cases hs
  case h_6 d lo hi offs =>
    split at hs
    · rename_i x r dt ts _
      simp only [a_k2, Bool.and_eq_true, decide_eq_true_eq, List.all_eq_true] at hk
      obtain ⟨⟨⟨hd, hl⟩, hlen⟩, ha⟩ := hk
      cases hs
      by_cases hout : x.toInt < lo ∨ hi < x.toInt
      · refine lv_tableOut hx hb hdg hout hd ?_
        simpa [a_tsw, hout] using kk rfl rfl
      · have h1 : ¬ x.toInt < lo := fun q => hout (Or.inl q)
        have h2 : ¬ hi < x.toInt := fun q => hout (Or.inr q)
        have hlt : (x.toInt - lo).toNat < offs.toList.length := by omega
        have hlt2 : (x.toInt - lo).toNat < ts.length := by omega
        have ho : offs[(x.toInt - lo).toNat]? = some (offs.toList[(x.toInt - lo).toNat]) := by rw [← Array.getElem?_toList, List.getElem?_eq_getElem hlt]
        have hz : (offs.toList[(x.toInt - lo).toNat], ts[(x.toInt - lo).toNat]) ∈ offs.toList.zip ts := by
          refine List.mem_of_getElem? (i := (x.toInt - lo).toNat) ?_
          rw [List.getElem?_zip_eq_some]
          exact ⟨List.getElem?_eq_getElem hlt, List.getElem?_eq_getElem hlt2⟩
        have ht := ha _ hz
        refine lv_tableIn hx hb hdg h1 h2 ho ht ?_
        have hk := kk rfl rfl
        simp only [a_tsw, if_neg hout] at hk
        rw [List.getD_eq_getElem?_getD, List.getElem?_eq_getElem hlt2] at hk
        exact hk
    · cases hs
  case h_7 d ps =>
    split at hs
    · rename_i x r dt ts _
      simp only [a_k2, Bool.and_eq_true, decide_eq_true_eq] at hk
      obtain ⟨⟨⟨hd, hp⟩, hlen⟩, ha⟩ := hk
      cases hs
      refine lv_lookup hx hb hdg hp rfl (a_lsw_ok hd x ps.toList ts hlen (fun q hq => by simpa using List.all_eq_true.mp ha q hq)) (kk rfl rfl)
    · cases hs
  case h_8 => cases hs
end AR
