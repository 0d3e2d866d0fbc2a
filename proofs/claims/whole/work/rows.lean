section
/-! 01.mach: a small machine of our own, by which the methods are computed; nothing here speaks of this claim's classes.
A cell is an array (number of its kind, length, contents) or an object (number of its class, fields). A reference '.ref j' is the j-th cell of our own heap; '.retAddr k' is the k-th thing that lies outside of it (a String constant; 50: the script). -/
abbrev aC : Type := (Nat × vp_A) ⊕ (Nat × List Value)
abbrev aL : Type := List (Option Value)
abbrev aX : Type := List (List Nat)
/-- a row of a method: its place in the bytes, the instruction, its length, a number, what it links -/
abbrev aI : Type := Nat × Instr × Nat × Int32 × aX
abbrev aM : Type := MethodName × ByteArray × Nat × Option FieldType × List aI
abbrev aN : Type := Bool × Nat × aL × List Value × List aC
def a_ld (L : aL) (j : Nat) : Value := ((L[j]?).getD none).getD (.float 0)
def a_pg (L : aL) (j : Nat) : Bool := decide (j < L.length) && (j == 0 || (a_ld L (j - 1)).category == 1)
def a_pg2 (L : aL) (j : Nat) : Bool := decide (j + 1 < L.length) && (j == 0 || (a_ld L (j - 1)).category == 1)
def a_in (j : Int32) (n : Nat) : Bool := decide (¬ j < 0) && decide (j.toNatClampNeg < n)
def a_ic (c : ClassFile.Cond) (x y : Int32) : Bool := match c with
  | .eq => decide (x = y)
  | .ne => decide (¬ x = y)
  | .lt => decide (x < y)
  | .ge => decide (y ≤ x)
  | .gt => decide (y < x)
  | .le => decide (x ≤ y)
def a_li (L : aL) (j i : Nat) (st : List Value) (h : List aC) : Option aN := match a_ld L j with
  | .int x => some (true, i + 1, L, .int x :: st, h)
  | _ => none
def a_ll (L : aL) (j i : Nat) (st : List Value) (h : List aC) : Option aN := match a_ld L j with
  | .long x => some (true, i + 1, L, .long x :: st, h)
  | _ => none
def a_la (L : aL) (j i : Nat) (st : List Value) (h : List aC) : Option aN := match a_ld L j with
  | .ref x => some (true, i + 1, L, .ref x :: st, h)
  | .retAddr x => some (true, i + 1, L, .retAddr x :: st, h)
  | .null => some (true, i + 1, L, .null :: st, h)
  | _ => none
def a_si (L : aL) (j i : Nat) (st : List Value) (h : List aC) : Option aN := match st with
  | .int x :: r => some (a_pg L j, i + 1, L.set j (some (.int x)), r, h)
  | _ => none
def a_sl (L : aL) (j i : Nat) (st : List Value) (h : List aC) : Option aN := match st with
  | .long x :: r => some (a_pg2 L j, i + 1, (L.set j (some (.long x))).set (j + 1) none, r, h)
  | _ => none
def a_sa (L : aL) (j i : Nat) (st : List Value) (h : List aC) : Option aN := match st with
  | .ref x :: r => some (a_pg L j, i + 1, L.set j (some (.ref x)), r, h)
  | .null :: r => some (a_pg L j, i + 1, L.set j (some .null), r, h)
  | _ => none
/-- locals, constants, the stack, numbers -/
def a_s1 (ins : Instr) (cst : Int32) (aux : aX) (i : Nat) (L : aL) (st : List Value) (h : List aC) : Option aN := match ins with
  | .iconst _ => some (true, i + 1, L, .int cst :: st, h)
  | .bipush _ => some (true, i + 1, L, .int cst :: st, h)
  | .sipush _ => some (true, i + 1, L, .int cst :: st, h)
  | .lconst n => some (true, i + 1, L, .long (Int64.ofNat (n : Nat)) :: st, h)
  | .aconst_null => some (true, i + 1, L, .null :: st, h)
  | .iload_n k => a_li L k i st h
  | .iload k => a_li L k i st h
  | .lload_n k => a_ll L k i st h
  | .aload_n k => a_la L k i st h
  | .aload k => a_la L k i st h
  | .istore_n k => a_si L k i st h
  | .istore k => a_si L k i st h
  | .lstore_n k => a_sl L k i st h
  | .astore_n k => a_sa L k i st h
  | .astore k => a_sa L k i st h
  | .iinc k _ => match a_ld L k with
    | .int x => some (a_pg L k, i + 1, L.set k (some (.int (x + cst))), st, h)
    | _ => none
  | .iadd => match st with
    | .int y :: .int x :: r => some (true, i + 1, L, .int (x + y) :: r, h)
    | _ => none
  | .isub => match st with
    | .int y :: .int x :: r => some (true, i + 1, L, .int (x - y) :: r, h)
    | _ => none
  | .imul => match st with
    | .int y :: .int x :: r => some (true, i + 1, L, .int (x * y) :: r, h)
    | _ => none
  | .iand => match st with
    | .int y :: .int x :: r => some (true, i + 1, L, .int (x &&& y) :: r, h)
    | _ => none
  | .ior => match st with
    | .int y :: .int x :: r => some (true, i + 1, L, .int (x ||| y) :: r, h)
    | _ => none
  | .ixor => match st with
    | .int y :: .int x :: r => some (true, i + 1, L, .int (x ^^^ y) :: r, h)
    | _ => none
  | .ishl => match st with
    | .int y :: .int x :: r => some (true, i + 1, L, .int (x <<< (y &&& 31)) :: r, h)
    | _ => none
  | .ishr => match st with
    | .int y :: .int x :: r => some (true, i + 1, L, .int (x >>> (y &&& 31)) :: r, h)
    | _ => none
  | .idiv => match st with
    | .int y :: .int x :: r => some (decide (¬ y = 0), i + 1, L, .int (x / y) :: r, h)
    | _ => none
  | .irem => match st with
    | .int y :: .int x :: r => some (decide (¬ y = 0), i + 1, L, .int (x - x / y * y) :: r, h)
    | _ => none
  | .ineg => match st with
    | .int x :: r => some (true, i + 1, L, .int (-x) :: r, h)
    | _ => none
  | .lor => match st with
    | .long y :: .long x :: r => some (true, i + 1, L, .long (x ||| y) :: r, h)
    | _ => none
  | .lshl => match st with
    | .int y :: .long x :: r => some (true, i + 1, L, .long (x <<< (y.toInt64 &&& 63)) :: r, h)
    | _ => none
  | .lcmp => match st with
    | .long y :: .long x :: r => some (true, i + 1, L, .int (lg_cmp x y) :: r, h)
    | _ => none
  | .dup => match st with
    | v :: r => some (v.category == 1, i + 1, L, v :: v :: r, h)
    | _ => none
  | .dup2 => match st with
    | v :: w :: r => some (v.category == 1 && w.category == 1, i + 1, L, v :: w :: v :: w :: r, h)
    | _ => none
  | .pop => match st with
    | v :: r => some (v.category == 1, i + 1, L, r, h)
    | _ => none
  | _ => none
/-- what decode must give beside the instruction -/
def a_k1 (ins : Instr) (len : Nat) (cst : Int32) : Bool := match ins with
  | .iconst n => len == 1 && decide (Int32.ofInt n = cst)
  | .bipush n => len == 2 && decide ((Int8.ofInt n).toInt32 = cst)
  | .sipush n => len == 3 && decide ((Int16.ofInt n).toInt32 = cst)
  | .iload _ => len == 2
  | .aload _ => len == 2
  | .istore _ => len == 2
  | .astore _ => len == 2
  | .iinc _ n => len == 3 && decide (Int32.ofInt n = cst)
  | _ => len == 1
def a_tsw (lo hi : Int) (dt : Nat) (ts : List Nat) (x : Int32) : Nat := if x.toInt < lo ∨ hi < x.toInt then dt else ts.getD (x.toInt - lo).toNat dt
def a_lsw (dt : Nat) : List (Int × Int) → List Nat → Int32 → Nat
  | (a, _) :: ps, t :: ts, x => if x.toInt = a then t else a_lsw dt ps ts x
  | _, _, _ => dt
/-- where it goes on -/
def a_s2 (ins : Instr) (aux : aX) (i : Nat) (L : aL) (st : List Value) (h : List aC) : Option aN := match ins with
  | .goto _ => match aux with
    | [t] :: _ => some (true, t, L, st, h)
    | _ => none
  | .if_icmp c _ => match st, aux with
    | .int y :: .int x :: r, [t] :: _ => some (true, (bif a_ic c x y then t else i + 1), L, r, h)
    | _, _ => none
  | .ifCond c _ => match st, aux with
    | .int x :: r, [t] :: _ => some (true, (bif a_ic c x 0 then t else i + 1), L, r, h)
    | _, _ => none
  | .ifnull _ => match st, aux with
    | .null :: r, [t] :: _ => some (true, t, L, r, h)
    | .ref _ :: r, [_] :: _ => some (true, i + 1, L, r, h)
    | _, _ => none
  | .ifnonnull _ => match st, aux with
    | .null :: r, [_] :: _ => some (true, i + 1, L, r, h)
    | .ref _ :: r, [t] :: _ => some (true, t, L, r, h)
    | _, _ => none
  | .tableswitch _ lo hi _ => match st, aux with
    | .int x :: r, [dt] :: ts :: _ => some (true, a_tsw lo hi dt ts x, L, r, h)
    | _, _ => none
  | .lookupswitch _ ps => match st, aux with
    | .int x :: r, [dt] :: ts :: _ => some (true, a_lsw dt ps.toList ts x, L, r, h)
    | _, _ => none
  | _ => none
/-- does the value fit a field of the kind tc: 0 an int, 1 a boolean, 2 a reference -/
def a_fk (tc : Nat) (v : Value) : Bool := match tc, v with
  | 0, .int _ => true
  | 1, .int x => decide (x = 0) || decide (x = 1)
  | 2, .ref _ => true
  | 2, .null => true
  | _, _ => false
/-- fields, arrays, what is made; df: the fields of a new object by its class -/
def a_s3 (df : List (List Value)) (sc : Nat × (Nat → Int32)) (ins : Instr) (cst : Int32) (aux : aX) (i : Nat) (L : aL) (st : List Value) (h : List aC) : Option aN := match ins with
  | .getfield _ => match st, aux with
    | .ref a :: r, [f, _] :: cs :: _ => match h[a]? with
      | some (.inr (ci, fs)) => match fs[f]? with
        | some v => some (cs.contains ci, i + 1, L, v :: r, h)
        | none => none
      | _ => none
    | _, _ => none
  | .putfield _ => match st, aux with
    | v :: .ref a :: r, [f, tc] :: cs :: _ => match h[a]? with
      | some (.inr (ci, fs)) => some (cs.contains ci && decide (f < fs.length) && a_fk tc v, i + 1, L, r, h.set a (.inr (ci, fs.set f v)))
      | _ => none
    | _, _ => none
  | .iaload => match st with
    | .int j :: .ref a :: r => match h[a]? with
      | some (.inl (0, n, .inl f)) => some (a_in j n, i + 1, L, .int (f j.toNatClampNeg) :: r, h)
      | _ => none
    | .int j :: .retAddr 50 :: r => some (a_in j sc.1, i + 1, L, .int (sc.2 j.toNatClampNeg) :: r, h)
    | _ => none
  | .iastore => match st with
    | .int x :: .int j :: .ref a :: r => match h[a]? with
      | some (.inl (0, n, .inl f)) => some (a_in j n, i + 1, L, r, h.set a (.inl (0, n, .inl (upd f j.toNatClampNeg x))))
      | _ => none
    | _ => none
  | .baload => match st with
    | .int j :: .ref a :: r => match h[a]? with
      | some (.inl (1, n, .inl f)) => some (a_in j n, i + 1, L, .int (f j.toNatClampNeg) :: r, h)
      | _ => none
    | _ => none
  | .bastore => match st with
    | .int x :: .int j :: .ref a :: r => match h[a]? with
      | some (.inl (1, n, .inl f)) => some (a_in j n && (decide (x = 0) || decide (x = 1)), i + 1, L, r, h.set a (.inl (1, n, .inl (upd f j.toNatClampNeg x))))
      | _ => none
    | _ => none
  | .aaload => match st with
    | .int j :: .ref a :: r => match h[a]? with
      | some (.inl (2, n, .inr (.inr (.inr (.inr f))))) => some (a_in j n, i + 1, L, va_rf (f j.toNatClampNeg) :: r, h)
      | _ => none
    | _ => none
  | .aastore => match st, aux with
    | .ref v :: .int j :: .ref a :: r, cs :: _ => match h[a]?, h[v]? with
      | some (.inl (2, n, .inr (.inr (.inr (.inr f))))), some (.inr (ci, _)) => some (a_in j n && cs.contains ci, i + 1, L, r, h.set a (.inl (2, n, .inr (.inr (.inr (.inr (va_up f j.toNatClampNeg (some v))))))))
      | _, _ => none
    | .null :: .int j :: .ref a :: r, _ => match h[a]? with
      | some (.inl (2, n, .inr (.inr (.inr (.inr f))))) => some (a_in j n, i + 1, L, r, h.set a (.inl (2, n, .inr (.inr (.inr (.inr (va_up f j.toNatClampNeg none)))))))
      | _ => none
    | _, _ => none
  | .arraylength => match st with
    | .ref a :: r => match h[a]? with
      | some (.inl (k, x)) => some (decide (k < 3), i + 1, L, .int (Int32.ofNat x.1) :: r, h)
      | _ => none
    | .retAddr 50 :: r => some (true, i + 1, L, .int (Int32.ofNat sc.1) :: r, h)
    | _ => none
  | .new _ => match aux with
    | [ci] :: _ => match df[ci]? with
      | some fs => some (true, i + 1, L, .ref h.length :: st, h ++ [.inr (ci, fs)])
      | none => none
    | _ => none
  | .newarray t => match st, t with
    | .int n :: r, .int => some (decide (¬ n < 0) && decide (n.toNatClampNeg ≤ 1000), i + 1, L, .ref h.length :: r, h ++ [.inl (0, n.toNatClampNeg, .inl (fun _ => 0))])
    | .int n :: r, .boolean => some (decide (¬ n < 0) && decide (n.toNatClampNeg ≤ 1000), i + 1, L, .ref h.length :: r, h ++ [.inl (1, n.toNatClampNeg, .inl (fun _ => 0))])
    | _, _ => none
  | .anewarray _ => match st with
    | .int n :: r => some (decide (¬ n < 0) && decide (n.toNatClampNeg ≤ 1000), i + 1, L, .ref h.length :: r, h ++ [.inl (2, n.toNatClampNeg, .inr (.inr (.inr (.inr (fun _ => none)))))])
    | _ => none
  | .instanceof _ => match st, aux with
    | .null :: r, _ => some (true, i + 1, L, .int 0 :: r, h)
    | .ref a :: r, ys :: ns :: _ => match h[a]? with
      | some (.inr (ci, _)) => some (ys.contains ci || ns.contains ci, i + 1, L, .int (bif ys.contains ci then 1 else 0) :: r, h)
      | _ => none
    | _, _ => none
  | .ldc _ => match aux with
    | [k] :: _ => some (true, i + 1, L, .retAddr k :: st, h)
    | _ => none
  | .ldc2_w _ => some (true, i + 1, L, .long cst.toInt64 :: st, h)
  | _ => none
/-- methods that are not walked: Math.max, Math.min, System.arraycopy (ints), Object(), String.length, String.charAt; tx: the texts -/
def a_s4 (tx : List (List Int32)) (ins : Instr) (aux : aX) (i : Nat) (L : aL) (st : List Value) (h : List aC) : Option aN := match ins with
  | .invokestatic _ => match aux with
    | [1] :: _ => match st with
      | .int y :: .int x :: r => some (decide ((r.map fun v => v.category).sum ≤ 8), i + 1, L, .int (if x < y then y else x) :: r, h)
      | _ => none
    | [2] :: _ => match st with
      | .int y :: .int x :: r => some (decide ((r.map fun v => v.category).sum ≤ 8), i + 1, L, .int (if y < x then y else x) :: r, h)
      | _ => none
    | [3] :: _ => match st with
      | .int n :: .int dp :: .ref a :: .int sp :: .ref b :: r => match h[b]?, h[a]? with
        | some (.inl (0, n0, .inl f)), some (.inl (0, n1, .inl g)) => some (decide ((r.map fun v => v.category).sum ≤ 8) && decide (¬ sp < 0) && decide (¬ dp < 0) && decide (¬ n < 0) && decide (sp.toNatClampNeg + n.toNatClampNeg ≤ n0) && decide (dp.toNatClampNeg + n.toNatClampNeg ≤ n1), i + 1, L, r, h.set a (.inl (0, n1, .inl (va_cpy f g sp.toNatClampNeg dp.toNatClampNeg n.toNatClampNeg))))
        | _, _ => none
      | _ => none
    | _ => none
  | .invokespecial _ => match aux with
    | [1] :: _ => match st with
      | .ref _ :: r => some (decide ((r.map fun v => v.category).sum ≤ 8), i + 1, L, r, h)
      | _ => none
    | _ => none
  | .invokevirtual _ => match aux with
    | [1] :: _ => match st with
      | .retAddr k :: r => some (decide (k < tx.length) && decide ((r.map fun v => v.category).sum ≤ 8), i + 1, L, .int (Int32.ofNat (tx.getD k []).length) :: r, h)
      | _ => none
    | [2] :: _ => match st with
      | .int j :: .retAddr k :: r => some (decide (k < tx.length) && a_in j (tx.getD k []).length && decide ((r.map fun v => v.category).sum ≤ 8), i + 1, L, .int ((tx.getD k []).getD j.toNatClampNeg 0) :: r, h)
      | _ => none
    | _ => none
  | _ => none
/-- a return: does the answer fit, the answer -/
def a_fin (ins : Instr) (aux : aX) (st : List Value) : Option (Bool × Option Value) := match ins with
  | .ireturn => match st, aux with
    | [.int x], [0] :: _ => some (true, some (.int x))
    | [.int x], [1] :: _ => some (decide (x = 0) || decide (x = 1), some (.int x))
    | _, _ => some (false, none)
  | .lreturn => match st with
    | [.long x] => some (true, some (.long x))
    | _ => some (false, none)
  | .areturn => match st with
    | [.ref x] => some (true, some (.ref x))
    | [.retAddr x] => some (true, some (.retAddr x))
    | [.null] => some (true, some .null)
    | _ => some (false, none)
  | .return_ => match st with
    | [] => some (true, none)
    | _ => some (false, none)
  | _ => none
/-- which method an entry ci, method, .. names for the class ci -/
def a_vt (ci : Nat) : aX → Option Nat
  | (c :: k :: _) :: r => if c = ci then some k else a_vt ci r
  | _ => none
/-- a call of a method that is walked: its number, its arguments, what is left on the stack -/
def a_cal (ins : Instr) (aux : aX) (st : List Value) (h : List aC) : Option (Nat × List Value × List Value) := match ins with
  | .invokestatic _ => match aux with
    | [0, k, n] :: _ => some (k, (st.take n).reverse, st.drop n)
    | _ => none
  | .invokespecial _ => match aux with
    | [0, k, n] :: _ => match st.drop n with
      | .ref a :: r => some (k, .ref a :: (st.take n).reverse, r)
      | _ => none
    | [2, k, n] :: _ => match st.drop n with
      | .ref a :: r => some (k, .ref a :: (st.take n).reverse, r)
      | _ => none
    | _ => none
  | .invokevirtual _ => match aux with
    | [0, n] :: vt => match st.drop n with
      | .ref a :: r => match h[a]? with
        | some (.inr (ci, _)) => match a_vt ci vt with
          | some k => some (k, .ref a :: (st.take n).reverse, r)
          | none => none
        | _ => none
      | _ => none
    | _ => none
  | _ => none
def a_ent (ml : Nat) (As : List Value) : aL := As.map some ++ List.replicate (ml - As.length) none
/-- the machine: at most n steps in each frame, at most d frames above this one -/
def a_go (P : List aM) (df : List (List Value)) (tx : List (List Int32)) (sc : Nat × (Nat → Int32)) : Nat → Nat → Nat → Nat → aL → List Value → List aC → Option (Option Value × List aC)
  | 0, _, _, _, _, _, _ => none
  | n + 1, d, k, i, L, st, h => match P[k]? with
    | none => none
    | some (_, _, _, _, rows) => match rows[i]? with
      | none => none
      | some (_, ins, _, cst, aux) => match a_fin ins aux st with
        | some (g, r) => bif g then some (r, h) else none
        | none => match a_cal ins aux st h with
          | some (k', As, rest) => match d with
            | 0 => none
            | d' + 1 => match P[k']? with
              | none => none
              | some (_, _, ml, _, _) => bif decide ((rest.map fun v => v.category).sum ≤ 8) && decide (As.length ≤ ml) && As.all (fun v => v.category == 1) then
                  match a_go P df tx sc n d' k' 0 (a_ent ml As) [] h with
                  | some (rv, h') => a_go P df tx sc n (d' + 1) k (i + 1) L (rv.toList ++ rest) h'
                  | none => none
                else none
          | none => match a_s1 ins cst aux i L st h with
            | some (g, i', L', st', h') => bif g then a_go P df tx sc n d k i' L' st' h' else none
            | none => match a_s2 ins aux i L st h with
              | some (g, i', L', st', h') => bif g then a_go P df tx sc n d k i' L' st' h' else none
              | none => match a_s3 df sc ins cst aux i L st h with
                | some (g, i', L', st', h') => bif g then a_go P df tx sc n d k i' L' st' h' else none
                | none => match a_s4 tx ins aux i L st h with
                  | some (g, i', L', st', h') => bif g then a_go P df tx sc n d k i' L' st' h' else none
                  | none => none
end
section
/-! 02.rel: how our machine's state lies in the machine's; rows of locals, constants, the stack, numbers -/
def a_cv (B : Nat) (ad : Nat → Nat) (v : Value) : Value := match v with
  | .ref a => .ref (B + a)
  | .retAddr k => .ref (ad k)
  | .int x => .int x
  | .long x => .long x
  | .float x => .float x
  | .double x => .double x
  | .null => .null
theorem a_cv_cat (B : Nat) (ad : Nat → Nat) (v : Value) : (a_cv B ad v).category = v.category := by cases v <;> rfl
/-- the locals -/
def a_lo (B : Nat) (ad : Nat → Nat) (ls : Array Slot) (L : aL) : Prop := lv_has ls L.length [] ∧ ∀ (j : Nat) (v : Value), L[j]? = some (some v) → ls[j]? = some (.val (a_cv B ad v))
def a_asl (B : Nat) (ad : Nat → Nat) (L : aL) : List (Nat × Value) := (List.range L.length).filterMap (fun j => match L[j]? with
  | some (some v) => some (j, a_cv B ad v)
  | _ => none)
theorem a_asl_mem {B : Nat} {ad : Nat → Nat} {L : aL} {q : Nat × Value} (h : q ∈ a_asl B ad L) : ∃ v, L[q.1]? = some (some v) ∧ q.2 = a_cv B ad v := by
  obtain ⟨j, -, hj⟩ := List.mem_filterMap.mp h
  split at hj
  · rename_i v hv
    cases hj
    exact ⟨v, hv, rfl⟩
  · cases hj
theorem a_asl_of {B : Nat} {ad : Nat → Nat} {L : aL} {j : Nat} {v : Value} (h : L[j]? = some (some v)) : (j, a_cv B ad v) ∈ a_asl B ad L := by
  refine List.mem_filterMap.mpr ⟨j, List.mem_range.mpr (List.getElem?_eq_some_iff.mp h).1, ?_⟩
  simp only [h]
theorem a_lo_has {B : Nat} {ad : Nat → Nat} {ls : Array Slot} {L : aL} (h : a_lo B ad ls L) : lv_has ls L.length (a_asl B ad L) := by
  refine ⟨h.1.1, h.1.2.1, fun q hq => ?_⟩
  obtain ⟨v, h1, h2⟩ := a_asl_mem hq
  rw [h2]
  exact h.2 _ _ h1
theorem a_ld_int {L : aL} {j : Nat} {x : Int32} (h : a_ld L j = .int x) : L[j]? = some (some (.int x)) := by
  unfold a_ld at h
  cases e : L[j]? with
  | none => simp [e] at h
  | some o => cases o with
    | none => simp [e] at h
    | some v => simp [e] at h; rw [h]
theorem a_ld_long {L : aL} {j : Nat} {x : Int64} (h : a_ld L j = .long x) : L[j]? = some (some (.long x)) := by
  unfold a_ld at h
  cases e : L[j]? with
  | none => simp [e] at h
  | some o => cases o with
    | none => simp [e] at h
    | some v => simp [e] at h; rw [h]
theorem a_ld_ref {L : aL} {j : Nat} {x : Nat} (h : a_ld L j = .ref x) : L[j]? = some (some (.ref x)) := by
  unfold a_ld at h
  cases e : L[j]? with
  | none => simp [e] at h
  | some o => cases o with
    | none => simp [e] at h
    | some v => simp [e] at h; rw [h]
theorem a_ld_ra {L : aL} {j : Nat} {x : Nat} (h : a_ld L j = .retAddr x) : L[j]? = some (some (.retAddr x)) := by
  unfold a_ld at h
  cases e : L[j]? with
  | none => simp [e] at h
  | some o => cases o with
    | none => simp [e] at h
    | some v => simp [e] at h; rw [h]
theorem a_ld_null {L : aL} {j : Nat} (h : a_ld L j = .null) : L[j]? = some (some .null) := by
  unfold a_ld at h
  cases e : L[j]? with
  | none => simp [e] at h
  | some o => cases o with
    | none => simp [e] at h
    | some v => simp [e] at h; rw [h]
/-- what a store leaves of the others -/
theorem a_lo_set {B : Nat} {ad : Nat → Nat} {ls : Array Slot} {L : aL} {j : Nat} {v : Value} (hg : a_pg L j = true)
    (h : lv_has ls L.length ((j, a_cv B ad v) :: (a_asl B ad L).filter (fun q => !(q.1 == j) && !(q.1 + 1 == j && q.2.category == 2)))) : a_lo B ad ls (L.set j (some v)) := by
  unfold a_pg at hg
  simp only [Bool.and_eq_true, decide_eq_true_eq, Bool.or_eq_true, beq_iff_eq] at hg
  refine ⟨by rw [List.length_set]; exact ⟨h.1, h.2.1, fun q hq => by cases hq⟩, fun i w hi => ?_⟩
  by_cases hij : j = i
  · subst hij
    rw [List.getElem?_set_self hg.1] at hi
    cases hi
    exact h.2.2 _ List.mem_cons_self
  · rw [List.getElem?_set_ne hij] at hi
    refine h.2.2 (i, a_cv B ad w) (List.mem_cons_of_mem _ (List.mem_filter.mpr ⟨a_asl_of hi, ?_⟩))
    have h1 : (i == j) = false := by simpa using fun e : i = j => hij e.symm
    simp only [h1, Bool.not_false, Bool.true_and, Bool.not_eq_true', Bool.and_eq_false_imp, beq_iff_eq]
    intro e
    have h2 : j ≠ 0 := by omega
    have h3 := hg.2.resolve_left h2
    have h4 : a_ld L (j - 1) = w := by unfold a_ld; rw [show j - 1 = i by omega, hi]; rfl
    rw [h4] at h3
    simp [a_cv_cat, h3]
theorem a_lo_set2 {B : Nat} {ad : Nat → Nat} {ls : Array Slot} {L : aL} {j : Nat} {v : Value} (hg : a_pg2 L j = true)
    (h : lv_has ls L.length ((j, a_cv B ad v) :: (a_asl B ad L).filter (fun q => !(q.1 == j) && (!(q.1 == j + 1) && !(q.1 + 1 == j && q.2.category == 2))))) : a_lo B ad ls ((L.set j (some v)).set (j + 1) none) := by
  unfold a_pg2 at hg
  simp only [Bool.and_eq_true, decide_eq_true_eq, Bool.or_eq_true, beq_iff_eq] at hg
  refine ⟨by rw [List.length_set, List.length_set]; exact ⟨h.1, h.2.1, fun q hq => by cases hq⟩, fun i w hi => ?_⟩
  by_cases hij1 : j + 1 = i
  · subst hij1
    rw [List.getElem?_set_self (by rw [List.length_set]; exact hg.1)] at hi
    cases hi
  rw [List.getElem?_set_ne hij1] at hi
  by_cases hij : j = i
  · subst hij
    rw [List.getElem?_set_self (by omega)] at hi
    cases hi
    exact h.2.2 _ List.mem_cons_self
  · rw [List.getElem?_set_ne hij] at hi
    refine h.2.2 (i, a_cv B ad w) (List.mem_cons_of_mem _ (List.mem_filter.mpr ⟨a_asl_of hi, ?_⟩))
    have h1 : (i == j) = false := by simpa using fun e : i = j => hij e.symm
    have h1b : (i == j + 1) = false := by simpa using fun e : i = j + 1 => hij1 e.symm
    simp only [h1, h1b, Bool.not_false, Bool.true_and, Bool.not_eq_true', Bool.and_eq_false_imp, beq_iff_eq]
    intro e
    have h2 : j ≠ 0 := by omega
    have h3 := hg.2.resolve_left h2
    have h4 : a_ld L (j - 1) = w := by unfold a_ld; rw [show j - 1 = i by omega, hi]; rfl
    rw [h4] at h3
    simp [a_cv_cat, h3]
theorem a_pg_lt {L : aL} {j : Nat} (h : a_pg L j = true) : j < L.length := by
  unfold a_pg at h
  simp only [Bool.and_eq_true, decide_eq_true_eq] at h
  exact h.1
theorem a_pg2_lt {L : aL} {j : Nat} (h : a_pg2 L j = true) : j + 1 < L.length := by
  unfold a_pg2 at h
  simp only [Bool.and_eq_true, decide_eq_true_eq] at h
  exact h.1
section AR
variable {p : Program} {l : Launch} {e : Env} {R : Room} {s : State} {m : MethodId} {args : Array Value} {below : List Frame} {meth : Method} {c : Code} {H : Heap} {locs : List Loc} {cells slots : Nat} {Q : State → Prop}
variable {cc : ByteArray} {pc : Nat} {ls : Array Slot} {B : Nat} {ad : Nat → Nat}
/-- locals, constants, the stack, numbers: a step of ours is a step of the machine -/
theorem a_s1_ok (hx : p.tables.exec = Jvm.exec) (hb : c.code = cc) {ins : Instr} {len : Nat} {cst : Int32} {aux : aX} (hdg : decode cc pc = .ok (ins, len)) (hk : a_k1 ins len cst = true)
    {i i' : Nat} {L L' : aL} {st st' : List Value} {h h' : List aC} (hlo : a_lo B ad ls L) (hs : a_s1 ins cst aux i L st h = some (true, i', L', st', h'))
    (kk : ∀ ls' : Array Slot, i' = i + 1 → h' = h → L'.length = L.length → a_lo B ad ls' L' → W p l e R s m args below meth c H locs cells slots Q (F0 m (pc + len) ls' (st'.map (a_cv B ad)))) :
    W p l e R s m args below meth c H locs cells slots Q (F0 m pc ls (st.map (a_cv B ad))) := by
  unfold a_s1 at hs
  split at hs
  case h_1 n =>
    simp only [a_k1, Bool.and_eq_true, beq_iff_eq, decide_eq_true_eq] at hk
    obtain ⟨rfl, hc⟩ := hk
    cases hs
    exact lv_iconst hx hb hdg hc (kk ls rfl rfl rfl hlo)
  case h_2 n =>
    simp only [a_k1, Bool.and_eq_true, beq_iff_eq, decide_eq_true_eq] at hk
    obtain ⟨rfl, hc⟩ := hk
    cases hs
    exact lv_bipush hx hb hdg hc (kk ls rfl rfl rfl hlo)
  case h_3 n =>
    simp only [a_k1, Bool.and_eq_true, beq_iff_eq, decide_eq_true_eq] at hk
    obtain ⟨rfl, hc⟩ := hk
    cases hs
    exact lv_sipush hx hb hdg hc (kk ls rfl rfl rfl hlo)
  case h_4 n =>
    simp only [a_k1, beq_iff_eq] at hk
    subst hk
    cases hs
    exact lv_lconst hx hb hdg rfl (kk ls rfl rfl rfl hlo)
  case h_5 =>
    simp only [a_k1, beq_iff_eq] at hk
    subst hk
    cases hs
    exact lv_null hx hb hdg (kk ls rfl rfl rfl hlo)
  case h_6 k =>
    simp only [a_k1, beq_iff_eq] at hk
    subst hk
    unfold a_li at hs
    split at hs
    · rename_i x hv
      cases hs
      exact lv_iload_n hx hb hdg rfl (hlo.2 _ _ (a_ld_int hv)) (kk ls rfl rfl rfl hlo)
    · cases hs
  case h_7 k =>
    simp only [a_k1, beq_iff_eq] at hk
    subst hk
    unfold a_li at hs
    split at hs
    · rename_i x hv
      cases hs
      exact lv_iload hx hb hdg (hlo.2 _ _ (a_ld_int hv)) (kk ls rfl rfl rfl hlo)
    · cases hs
  case h_8 k =>
    simp only [a_k1, beq_iff_eq] at hk
    subst hk
    unfold a_ll at hs
    split at hs
    · rename_i x hv
      cases hs
      exact lv_lload_n hx hb hdg rfl (hlo.2 _ _ (a_ld_long hv)) (kk ls rfl rfl rfl hlo)
    · cases hs
  case h_9 k =>
    simp only [a_k1, beq_iff_eq] at hk
    subst hk
    unfold a_la at hs
    split at hs
    · rename_i x hv
      cases hs
      exact lv_aload_n hx hb hdg rfl (hlo.2 _ _ (a_ld_ref hv)) (kk ls rfl rfl rfl hlo)
    · rename_i x hv
      cases hs
      exact lv_aload_n hx hb hdg rfl (hlo.2 _ _ (a_ld_ra hv)) (kk ls rfl rfl rfl hlo)
    · rename_i hv
      cases hs
      exact lv_aload_nN hx hb hdg rfl (hlo.2 _ _ (a_ld_null hv)) (kk ls rfl rfl rfl hlo)
    · cases hs
  case h_10 k =>
    simp only [a_k1, beq_iff_eq] at hk
    subst hk
    unfold a_la at hs
    split at hs
    · rename_i x hv
      cases hs
      exact lv_aload hx hb hdg (hlo.2 _ _ (a_ld_ref hv)) (kk ls rfl rfl rfl hlo)
    · rename_i x hv
      cases hs
      exact lv_aload hx hb hdg (hlo.2 _ _ (a_ld_ra hv)) (kk ls rfl rfl rfl hlo)
    · rename_i hv
      cases hs
      exact lv_aloadN hx hb hdg (hlo.2 _ _ (a_ld_null hv)) (kk ls rfl rfl rfl hlo)
    · cases hs
  case h_11 k =>
    simp only [a_k1, beq_iff_eq] at hk
    subst hk
    unfold a_si at hs
    split at hs
    · rename_i x r
      simp only [Option.some.injEq, Prod.mk.injEq] at hs
      obtain ⟨hg, rfl, rfl, rfl, rfl⟩ := hs
      exact lv_istore_n hx hb hdg rfl (a_lo_has hlo) (a_pg_lt hg) rfl (fun ls' hl => kk ls' rfl rfl (List.length_set ..) (a_lo_set hg hl))
    · cases hs
  case h_12 k =>
    simp only [a_k1, beq_iff_eq] at hk
    subst hk
    unfold a_si at hs
    split at hs
    · rename_i x r
      simp only [Option.some.injEq, Prod.mk.injEq] at hs
      obtain ⟨hg, rfl, rfl, rfl, rfl⟩ := hs
      exact lv_istore hx hb hdg (a_lo_has hlo) (a_pg_lt hg) rfl (fun ls' hl => kk ls' rfl rfl (List.length_set ..) (a_lo_set hg hl))
    · cases hs
  case h_13 k =>
    simp only [a_k1, beq_iff_eq] at hk
    subst hk
    unfold a_sl at hs
    split at hs
    · rename_i x r
      simp only [Option.some.injEq, Prod.mk.injEq] at hs
      obtain ⟨hg, rfl, rfl, rfl, rfl⟩ := hs
      exact lv_lstore_n hx hb hdg rfl (a_lo_has hlo) (a_pg2_lt hg) rfl (fun ls' hl => kk ls' rfl rfl (by rw [List.length_set, List.length_set]) (a_lo_set2 hg hl))
    · cases hs
  case h_14 k =>
    simp only [a_k1, beq_iff_eq] at hk
    subst hk
    unfold a_sa at hs
    split at hs
    · rename_i x r
      simp only [Option.some.injEq, Prod.mk.injEq] at hs
      obtain ⟨hg, rfl, rfl, rfl, rfl⟩ := hs
      exact lv_astore_n hx hb hdg rfl (a_lo_has hlo) (a_pg_lt hg) rfl (fun ls' hl => kk ls' rfl rfl (List.length_set ..) (a_lo_set hg hl))
    · rename_i r
      simp only [Option.some.injEq, Prod.mk.injEq] at hs
      obtain ⟨hg, rfl, rfl, rfl, rfl⟩ := hs
      exact lv_astore_nN hx hb hdg rfl (a_lo_has hlo) (a_pg_lt hg) rfl (fun ls' hl => kk ls' rfl rfl (List.length_set ..) (a_lo_set hg hl))
    · cases hs
  case h_15 k =>
    simp only [a_k1, beq_iff_eq] at hk
    subst hk
    unfold a_sa at hs
    split at hs
    · rename_i x r
      simp only [Option.some.injEq, Prod.mk.injEq] at hs
      obtain ⟨hg, rfl, rfl, rfl, rfl⟩ := hs
      exact lv_astore hx hb hdg (a_lo_has hlo) (a_pg_lt hg) rfl (fun ls' hl => kk ls' rfl rfl (List.length_set ..) (a_lo_set hg hl))
    · rename_i r
      simp only [Option.some.injEq, Prod.mk.injEq] at hs
      obtain ⟨hg, rfl, rfl, rfl, rfl⟩ := hs
      exact lv_astoreN hx hb hdg (a_lo_has hlo) (a_pg_lt hg) rfl (fun ls' hl => kk ls' rfl rfl (List.length_set ..) (a_lo_set hg hl))
    · cases hs
  case h_16 k n =>
    simp only [a_k1, Bool.and_eq_true, beq_iff_eq, decide_eq_true_eq] at hk
    obtain ⟨rfl, hc⟩ := hk
    split at hs
    · rename_i x hv
      simp only [Option.some.injEq, Prod.mk.injEq] at hs
      obtain ⟨hg, rfl, rfl, rfl, rfl⟩ := hs
      obtain ⟨q, hq⟩ := List.getElem?_of_mem (a_asl_of (B := B) (ad := ad) (a_ld_int hv))
      exact lv_iinc hx hb hdg (a_lo_has hlo) hq (by rw [hc]) (a_pg_lt hg) rfl (fun ls' hl => kk ls' rfl rfl (List.length_set ..) (a_lo_set hg hl))
    · cases hs
  case h_17 =>
    simp only [a_k1, beq_iff_eq] at hk
    subst hk
    split at hs
    · cases hs
      exact lv_iadd hx hb hdg (kk ls rfl rfl rfl hlo)
    · cases hs
  case h_18 =>
    simp only [a_k1, beq_iff_eq] at hk
    subst hk
    split at hs
    · cases hs
      exact lv_isub hx hb hdg (kk ls rfl rfl rfl hlo)
    · cases hs
  case h_19 =>
    simp only [a_k1, beq_iff_eq] at hk
    subst hk
    split at hs
    · cases hs
      exact lv_imul hx hb hdg (kk ls rfl rfl rfl hlo)
    · cases hs
  case h_20 =>
    simp only [a_k1, beq_iff_eq] at hk
    subst hk
    split at hs
    · cases hs
      exact lv_iand hx hb hdg (kk ls rfl rfl rfl hlo)
    · cases hs
  case h_21 =>
    simp only [a_k1, beq_iff_eq] at hk
    subst hk
    split at hs
    · cases hs
      exact lv_ior hx hb hdg (kk ls rfl rfl rfl hlo)
    · cases hs
  case h_22 =>
    simp only [a_k1, beq_iff_eq] at hk
    subst hk
    split at hs
    · cases hs
      exact lv_ixor hx hb hdg (kk ls rfl rfl rfl hlo)
    · cases hs
  case h_23 =>
    simp only [a_k1, beq_iff_eq] at hk
    subst hk
    split at hs
    · cases hs
      exact lv_ishl hx hb hdg (kk ls rfl rfl rfl hlo)
    · cases hs
  case h_24 =>
    simp only [a_k1, beq_iff_eq] at hk
    subst hk
    split at hs
    · cases hs
      exact lv_ishr hx hb hdg (kk ls rfl rfl rfl hlo)
    · cases hs
  case h_25 =>
    simp only [a_k1, beq_iff_eq] at hk
    subst hk
    split at hs
    · simp only [Option.some.injEq, Prod.mk.injEq, decide_eq_true_eq] at hs
      obtain ⟨hg, rfl, rfl, rfl, rfl⟩ := hs
      exact lv_idiv hx hb hdg hg (kk ls rfl rfl rfl hlo)
    · cases hs
  case h_26 =>
    simp only [a_k1, beq_iff_eq] at hk
    subst hk
    split at hs
    · simp only [Option.some.injEq, Prod.mk.injEq, decide_eq_true_eq] at hs
      obtain ⟨hg, rfl, rfl, rfl, rfl⟩ := hs
      exact lv_irem hx hb hdg hg (kk ls rfl rfl rfl hlo)
    · cases hs
  case h_27 =>
    simp only [a_k1, beq_iff_eq] at hk
    subst hk
    split at hs
    · cases hs
      exact lv_ineg hx hb hdg (kk ls rfl rfl rfl hlo)
    · cases hs
  case h_28 =>
    simp only [a_k1, beq_iff_eq] at hk
    subst hk
    split at hs
    · cases hs
      exact lv_lor hx hb hdg (kk ls rfl rfl rfl hlo)
    · cases hs
  case h_29 =>
    simp only [a_k1, beq_iff_eq] at hk
    subst hk
    split at hs
    · cases hs
      exact lv_lshl hx hb hdg rfl (kk ls rfl rfl rfl hlo)
    · cases hs
  case h_30 =>
    simp only [a_k1, beq_iff_eq] at hk
    subst hk
    split at hs
    · cases hs
      exact W.lcmp hx hb hdg (kk ls rfl rfl rfl hlo)
    · cases hs
  case h_31 =>
    simp only [a_k1, beq_iff_eq] at hk
    subst hk
    split at hs
    · simp only [Option.some.injEq, Prod.mk.injEq, beq_iff_eq] at hs
      obtain ⟨hg, rfl, rfl, rfl, rfl⟩ := hs
      exact lv_dup hx hb hdg (by rw [a_cv_cat]; exact hg) (kk ls rfl rfl rfl hlo)
    · cases hs
  case h_32 =>
    simp only [a_k1, beq_iff_eq] at hk
    subst hk
    split at hs
    · simp only [Option.some.injEq, Prod.mk.injEq, Bool.and_eq_true, beq_iff_eq] at hs
      obtain ⟨hg, rfl, rfl, rfl, rfl⟩ := hs
      exact lv_dup2_11 hx hb hdg (by rw [a_cv_cat]; exact hg.1) (by rw [a_cv_cat]; exact hg.2) (kk ls rfl rfl rfl hlo)
    · cases hs
  case h_33 =>
    simp only [a_k1, beq_iff_eq] at hk
    subst hk
    split at hs
    · simp only [Option.some.injEq, Prod.mk.injEq, beq_iff_eq] at hs
      obtain ⟨hg, rfl, rfl, rfl, rfl⟩ := hs
      exact lv_pop hx hb hdg (by rw [a_cv_cat]; exact hg) (kk ls rfl rfl rfl hlo)
    · cases hs
  case h_34 => cases hs
end AR
end
section
/-! 03.flow: branches and switches -/
/-- the targets of row i lie where the offsets say (pf: a row's place in the bytes) -/
def a_k2 (ins : Instr) (len : Nat) (aux : aX) (pf : Nat → Nat) (i : Nat) : Bool := match ins with
  | .goto off => len == 3 && match aux with
    | [t] :: _ => decide ((pf i : Int) + off = (pf t : Int))
    | _ => false
  | .if_icmp _ off => len == 3 && pf (i + 1) == pf i + 3 && match aux with
    | [t] :: _ => decide ((pf i : Int) + off = (pf t : Int))
    | _ => false
  | .ifCond _ off => len == 3 && pf (i + 1) == pf i + 3 && match aux with
    | [t] :: _ => decide ((pf i : Int) + off = (pf t : Int))
    | _ => false
  | .ifnull off => len == 3 && pf (i + 1) == pf i + 3 && match aux with
    | [t] :: _ => decide ((pf i : Int) + off = (pf t : Int))
    | _ => false
  | .ifnonnull off => len == 3 && pf (i + 1) == pf i + 3 && match aux with
    | [t] :: _ => decide ((pf i : Int) + off = (pf t : Int))
    | _ => false
  | .tableswitch d lo hi offs => match aux with
    | [dt] :: ts :: _ => decide ((pf i : Int) + d = (pf dt : Int)) && decide (lo + (offs.toList.length : Int) = hi + 1) && decide (offs.toList.length = ts.length) && (offs.toList.zip ts).all (fun q => decide ((pf i : Int) + q.1 = (pf q.2 : Int)))
    | _ => false
  | .lookupswitch d ps => match aux with
    | [dt] :: ts :: _ => decide ((pf i : Int) + d = (pf dt : Int)) && (ps.toList.zip (ps.toList.drop 1)).all (fun (a, next) => a.1 < next.1) && decide (ps.toList.length = ts.length) && (ps.toList.zip ts).all (fun q => decide ((pf i : Int) + q.1.2 = (pf q.2 : Int)))
    | _ => false
  | _ => false
theorem a_lsw_ok {d : Int} {dt P : Nat} {pf : Nat → Nat} (hd : (P : Int) + d = (pf dt : Int)) (x : Int32) : ∀ (ps : List (Int × Int)) (ts : List Nat), ps.length = ts.length → (∀ q ∈ ps.zip ts, (P : Int) + q.1.2 = (pf q.2 : Int)) → (P : Int) + Op.lookupswitch.offset ps d x.toInt = (pf (a_lsw dt ps ts x) : Int) := by
  intro ps
  induction ps with
  | nil =>
    intro ts _ _
    cases ts <;> exact hd
  | cons q ps ih =>
    intro ts hl ha
    cases ts with
    | nil => simp at hl
    | cons t ts =>
      obtain ⟨a, o⟩ := q
      rw [Op.lookupswitch.offset_cons]
      simp only [a_lsw]
      by_cases hx : x.toInt = a
      · rw [if_pos hx.symm, if_pos hx]
        exact ha ((a, o), t) (by simp)
      · rw [if_neg (fun q => hx q.symm), if_neg hx]
        exact ih ts (by simpa using hl) (fun q hq => ha q (by simp only [List.zip_cons_cons, List.mem_cons]; exact Or.inr hq))
section AR
variable {p : Program} {l : Launch} {e : Env} {R : Room} {s : State} {m : MethodId} {args : Array Value} {below : List Frame} {meth : Method} {c : Code} {H : Heap} {locs : List Loc} {cells slots : Nat} {Q : State → Prop}
variable {cc : ByteArray} {ls : Array Slot} {B : Nat} {ad : Nat → Nat} {pf : Nat → Nat}
theorem a_ic_ok (hx : p.tables.exec = Jvm.exec) (hb : c.code = cc) {cd : ClassFile.Cond} {off : Int} {P t n : Nat} {rest : List Value} {x y : Int32} (hdg : decode cc P = .ok (.if_icmp cd off, 3)) (ht : (P : Int) + off = (pf t : Int)) (hn : pf n = P + 3)
    (kk : W p l e R s m args below meth c H locs cells slots Q (F0 m (pf (bif a_ic cd x y then t else n)) ls rest)) : W p l e R s m args below meth c H locs cells slots Q (F0 m P ls (.int y :: .int x :: rest)) := by
  cases cd with
  | eq => exact lv_icmp_eq hx hb hdg ht (fun q => by simpa [a_ic, q] using kk) (fun q => by rw [← hn]; simpa [a_ic, q] using kk)
  | ne => exact lv_icmp_ne hx hb hdg ht (fun q => by simpa [a_ic, q] using kk) (fun q => by rw [← hn]; simpa [a_ic, q] using kk)
  | lt => exact lv_icmp_lt hx hb hdg ht (fun q => by simpa [a_ic, q] using kk) (fun q => by rw [← hn]; simpa [a_ic, q] using kk)
  | ge => exact lv_icmp_ge hx hb hdg ht (fun q => by simpa [a_ic, q] using kk) (fun q => by rw [← hn]; simpa [a_ic, q] using kk)
  | gt => exact lv_icmp_gt hx hb hdg ht (fun q => by simpa [a_ic, q] using kk) (fun q => by rw [← hn]; simpa [a_ic, q] using kk)
  | le => exact lv_icmp_le hx hb hdg ht (fun q => by simpa [a_ic, q] using kk) (fun q => by rw [← hn]; simpa [a_ic, q] using kk)
theorem a_if_ok (hx : p.tables.exec = Jvm.exec) (hb : c.code = cc) {cd : ClassFile.Cond} {off : Int} {P t n : Nat} {rest : List Value} {x : Int32} (hdg : decode cc P = .ok (.ifCond cd off, 3)) (ht : (P : Int) + off = (pf t : Int)) (hn : pf n = P + 3)
    (kk : W p l e R s m args below meth c H locs cells slots Q (F0 m (pf (bif a_ic cd x 0 then t else n)) ls rest)) : W p l e R s m args below meth c H locs cells slots Q (F0 m P ls (.int x :: rest)) := by
  cases cd with
  | eq => exact lv_if_eq hx hb hdg ht (fun q => by simpa [a_ic, q] using kk) (fun q => by rw [← hn]; simpa [a_ic, q] using kk)
  | ne => exact lv_if_ne hx hb hdg ht (fun q => by simpa [a_ic, q] using kk) (fun q => by rw [← hn]; simpa [a_ic, q] using kk)
  | lt => exact lv_if_lt hx hb hdg ht (fun q => by simpa [a_ic, q] using kk) (fun q => by rw [← hn]; simpa [a_ic, q] using kk)
  | ge => exact lv_if_ge hx hb hdg ht (fun q => by simpa [a_ic, q] using kk) (fun q => by rw [← hn]; simpa [a_ic, q] using kk)
  | gt => exact lv_if_gt hx hb hdg ht (fun q => by simpa [a_ic, q] using kk) (fun q => by rw [← hn]; simpa [a_ic, q] using kk)
  | le => exact lv_if_le hx hb hdg ht (fun q => by simpa [a_ic, q] using kk) (fun q => by rw [← hn]; simpa [a_ic, q] using kk)
theorem a_s2_ok (hx : p.tables.exec = Jvm.exec) (hb : c.code = cc) {ins : Instr} {len : Nat} {aux : aX} {i i' : Nat} (hdg : decode cc (pf i) = .ok (ins, len)) (hk : a_k2 ins len aux pf i = true)
    {L L' : aL} {st st' : List Value} {h h' : List aC} (hs : a_s2 ins aux i L st h = some (true, i', L', st', h'))
    (kk : L' = L → h' = h → W p l e R s m args below meth c H locs cells slots Q (F0 m (pf i') ls (st'.map (a_cv B ad)))) :
    W p l e R s m args below meth c H locs cells slots Q (F0 m (pf i) ls (st.map (a_cv B ad))) := by
  unfold a_s2 at hs
  split at hs
  case h_1 off =>
    simp only [a_k2, Bool.and_eq_true, beq_iff_eq] at hk
    obtain ⟨rfl, hk⟩ := hk
    split at hs
    · simp only [decide_eq_true_eq] at hk
      cases hs
      exact lv_goto hx hb hdg hk (kk rfl rfl)
    · cases hs
  case h_2 cd off =>
    simp only [a_k2, Bool.and_eq_true, beq_iff_eq] at hk
    obtain ⟨⟨rfl, hn⟩, hk⟩ := hk
    split at hs
    · simp only [decide_eq_true_eq] at hk
      cases hs
      exact a_ic_ok hx hb hdg hk hn (kk rfl rfl)
    · cases hs
  case h_3 cd off =>
    simp only [a_k2, Bool.and_eq_true, beq_iff_eq] at hk
    obtain ⟨⟨rfl, hn⟩, hk⟩ := hk
    split at hs
    · simp only [decide_eq_true_eq] at hk
      cases hs
      exact a_if_ok hx hb hdg hk hn (kk rfl rfl)
    · cases hs
  case h_4 off =>
    simp only [a_k2, Bool.and_eq_true, beq_iff_eq] at hk
    obtain ⟨⟨rfl, hn⟩, hk⟩ := hk
    split at hs
    · simp only [decide_eq_true_eq] at hk
      cases hs
      exact lv_ifnullN hx hb hdg hk (kk rfl rfl)
    · cases hs
      exact lv_ifnull hx hb hdg (by rw [← hn]; exact kk rfl rfl)
    · cases hs
  case h_5 off =>
    simp only [a_k2, Bool.and_eq_true, beq_iff_eq] at hk
    obtain ⟨⟨rfl, hn⟩, hk⟩ := hk
    split at hs
    · cases hs
      exact lv_ifnonnullN hx hb hdg (by rw [← hn]; exact kk rfl rfl)
    · simp only [decide_eq_true_eq] at hk
      cases hs
      exact lv_ifnonnull hx hb hdg hk (kk rfl rfl)
    · cases hs
  case h_6 d lo hi offs =>
    split at hs
    · rename_i x r dt ts _
      simp only [a_k2, Bool.and_eq_true, decide_eq_true_eq, List.all_eq_true] at hk
      obtain ⟨⟨⟨hd, hl⟩, hlen⟩, ha⟩ := hk
      cases hs
      by_cases hout : x.toInt < lo ∨ hi < x.toInt
      · refine lv_tableOut hx hb hdg hout hd ?_
        simpa [a_tsw, hout] using kk rfl rfl
      · have h1 : ¬ x.toInt < lo := fun q => hout (Or.inl q)
        have h2 : ¬ hi < x.toInt := fun q => hout (Or.inr q)
        have hlt : (x.toInt - lo).toNat < offs.toList.length := by omega
        have hlt2 : (x.toInt - lo).toNat < ts.length := by omega
        have ho : offs[(x.toInt - lo).toNat]? = some (offs.toList[(x.toInt - lo).toNat]) := by rw [← Array.getElem?_toList, List.getElem?_eq_getElem hlt]
        have hz : (offs.toList[(x.toInt - lo).toNat], ts[(x.toInt - lo).toNat]) ∈ offs.toList.zip ts := by
          refine List.mem_of_getElem? (i := (x.toInt - lo).toNat) ?_
          rw [List.getElem?_zip_eq_some]
          exact ⟨List.getElem?_eq_getElem hlt, List.getElem?_eq_getElem hlt2⟩
        have ht := ha _ hz
        refine lv_tableIn hx hb hdg h1 h2 ho ht ?_
        have hk := kk rfl rfl
        simp only [a_tsw, if_neg hout] at hk
        rw [List.getD_eq_getElem?_getD, List.getElem?_eq_getElem hlt2] at hk
        exact hk
    · cases hs
  case h_7 d ps =>
    split at hs
    · rename_i x r dt ts _
      simp only [a_k2, Bool.and_eq_true, decide_eq_true_eq] at hk
      obtain ⟨⟨⟨hd, hp⟩, hlen⟩, ha⟩ := hk
      cases hs
      refine lv_lookup hx hb hdg hp rfl (a_lsw_ok hd x ps.toList ts hlen (fun q hq => by simpa using List.all_eq_true.mp ha q hq)) (kk rfl rfl)
    · cases hs
  case h_8 => cases hs
end AR
end
