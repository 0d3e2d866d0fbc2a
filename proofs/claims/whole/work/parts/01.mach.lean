/-! 01.mach: a small machine of our own, by which the methods are computed; nothing here speaks of this claim's classes.
A cell is an array (number of its kind, length, contents) or an object (number of its class, fields). A reference '.ref j' is the j-th cell of our own heap; '.retAddr k' is the k-th thing that lies outside of it (a String constant; 50: the script). -/
abbrev aC : Type := (Nat × vp_A) ⊕ (Nat × List Value)
abbrev aL : Type := List (Option Value)
abbrev aX : Type := List (List Nat)
/-- a row of a method: its place in the bytes, the instruction, its length, a number, what it links -/
abbrev aI : Type := Nat × Instr × Nat × Int32 × aX
abbrev aM : Type := MethodName × ByteArray × Nat × Option FieldType × List aI
abbrev aN : Type := Bool × Nat × aL × List Value × List aC
def a_ld (L : aL) (j : Nat) : Value := ((L[j]?).getD none).getD (.float 0)
def a_pg (L : aL) (j : Nat) : Bool := decide (j < L.length) && (j == 0 || (a_ld L (j - 1)).category == 1)
def a_pg2 (L : aL) (j : Nat) : Bool := decide (j + 1 < L.length) && (j == 0 || (a_ld L (j - 1)).category == 1)
def a_in (j : Int32) (n : Nat) : Bool := decide (¬ j < 0) && decide (j.toNatClampNeg < n)
def a_ic (c : ClassFile.Cond) (x y : Int32) : Bool := match c with
  | .eq => decide (x = y)
  | .ne => decide (¬ x = y)
  | .lt => decide (x < y)
  | .ge => decide (y ≤ x)
  | .gt => decide (y < x)
  | .le => decide (x ≤ y)
def a_li (L : aL) (j i : Nat) (st : List Value) (h : List aC) : Option aN := match a_ld L j with
  | .int x => some (true, i + 1, L, .int x :: st, h)
  | _ => none
def a_ll (L : aL) (j i : Nat) (st : List Value) (h : List aC) : Option aN := match a_ld L j with
  | .long x => some (true, i + 1, L, .long x :: st, h)
  | _ => none
def a_la (L : aL) (j i : Nat) (st : List Value) (h : List aC) : Option aN := match a_ld L j with
  | .ref x => some (true, i + 1, L, .ref x :: st, h)
  | .retAddr x => some (true, i + 1, L, .retAddr x :: st, h)
  | .null => some (true, i + 1, L, .null :: st, h)
  | _ => none
def a_si (L : aL) (j i : Nat) (st : List Value) (h : List aC) : Option aN := match st with
  | .int x :: r => some (a_pg L j, i + 1, L.set j (some (.int x)), r, h)
  | _ => none
def a_sl (L : aL) (j i : Nat) (st : List Value) (h : List aC) : Option aN := match st with
  | .long x :: r => some (a_pg2 L j, i + 1, (L.set j (some (.long x))).set (j + 1) none, r, h)
  | _ => none
def a_sa (L : aL) (j i : Nat) (st : List Value) (h : List aC) : Option aN := match st with
  | .ref x :: r => some (a_pg L j, i + 1, L.set j (some (.ref x)), r, h)
  | .null :: r => some (a_pg L j, i + 1, L.set j (some .null), r, h)
  | _ => none
/-- locals, constants, the stack, numbers -/
def a_s1 (ins : Instr) (cst : Int32) (aux : aX) (i : Nat) (L : aL) (st : List Value) (h : List aC) : Option aN := match ins with
  | .iconst _ => some (true, i + 1, L, .int cst :: st, h)
  | .bipush _ => some (true, i + 1, L, .int cst :: st, h)
  | .sipush _ => some (true, i + 1, L, .int cst :: st, h)
  | .lconst n => some (true, i + 1, L, .long (Int64.ofNat (n : Nat)) :: st, h)
  | .aconst_null => some (true, i + 1, L, .null :: st, h)
  | .iload_n k => a_li L k i st h
  | .iload k => a_li L k i st h
  | .lload_n k => a_ll L k i st h
  | .aload_n k => a_la L k i st h
  | .aload k => a_la L k i st h
  | .istore_n k => a_si L k i st h
  | .istore k => a_si L k i st h
  | .lstore_n k => a_sl L k i st h
  | .astore_n k => a_sa L k i st h
  | .astore k => a_sa L k i st h
  | .iinc k _ => match a_ld L k with
    | .int x => some (a_pg L k, i + 1, L.set k (some (.int (x + cst))), st, h)
    | _ => none
  | .iadd => match st with
    | .int y :: .int x :: r => some (true, i + 1, L, .int (x + y) :: r, h)
    | _ => none
  | .isub => match st with
    | .int y :: .int x :: r => some (true, i + 1, L, .int (x - y) :: r, h)
    | _ => none
  | .imul => match st with
    | .int y :: .int x :: r => some (true, i + 1, L, .int (x * y) :: r, h)
    | _ => none
  | .iand => match st with
    | .int y :: .int x :: r => some (true, i + 1, L, .int (x &&& y) :: r, h)
    | _ => none
  | .ior => match st with
    | .int y :: .int x :: r => some (true, i + 1, L, .int (x ||| y) :: r, h)
    | _ => none
  | .ixor => match st with
    | .int y :: .int x :: r => some (true, i + 1, L, .int (x ^^^ y) :: r, h)
    | _ => none
  | .ishl => match st with
    | .int y :: .int x :: r => some (true, i + 1, L, .int (x <<< (y &&& 31)) :: r, h)
    | _ => none
  | .ishr => match st with
    | .int y :: .int x :: r => some (true, i + 1, L, .int (x >>> (y &&& 31)) :: r, h)
    | _ => none
  | .idiv => match st with
    | .int y :: .int x :: r => some (decide (¬ y = 0), i + 1, L, .int (x / y) :: r, h)
    | _ => none
  | .irem => match st with
    | .int y :: .int x :: r => some (decide (¬ y = 0), i + 1, L, .int (x - x / y * y) :: r, h)
    | _ => none
  | .ineg => match st with
    | .int x :: r => some (true, i + 1, L, .int (-x) :: r, h)
    | _ => none
  | .lor => match st with
    | .long y :: .long x :: r => some (true, i + 1, L, .long (x ||| y) :: r, h)
    | _ => none
  | .lshl => match st with
    | .int y :: .long x :: r => some (true, i + 1, L, .long (x <<< (y.toInt64 &&& 63)) :: r, h)
    | _ => none
  | .lcmp => match st with
    | .long y :: .long x :: r => some (true, i + 1, L, .int (lg_cmp x y) :: r, h)
    | _ => none
  | .dup => match st with
    | v :: r => some (v.category == 1, i + 1, L, v :: v :: r, h)
    | _ => none
  | .dup2 => match st with
    | v :: w :: r => some (v.category == 1 && w.category == 1, i + 1, L, v :: w :: v :: w :: r, h)
    | _ => none
  | .pop => match st with
    | v :: r => some (v.category == 1, i + 1, L, r, h)
    | _ => none
  | _ => none
/-- what decode must give beside the instruction -/
def a_k1 (ins : Instr) (len : Nat) (cst : Int32) : Bool := match ins with
  | .iconst n => len == 1 && decide (Int32.ofInt n = cst)
  | .bipush n => len == 2 && decide ((Int8.ofInt n).toInt32 = cst)
  | .sipush n => len == 3 && decide ((Int16.ofInt n).toInt32 = cst)
  | .iload _ => len == 2
  | .aload _ => len == 2
  | .istore _ => len == 2
  | .astore _ => len == 2
  | .iinc _ n => len == 3 && decide (Int32.ofInt n = cst)
  | _ => len == 1
def a_tsw (lo hi : Int) (dt : Nat) (ts : List Nat) (x : Int32) : Nat := if x.toInt < lo ∨ hi < x.toInt then dt else ts.getD (x.toInt - lo).toNat dt
def a_lsw (dt : Nat) : List (Int × Int) → List Nat → Int32 → Nat
  | (a, _) :: ps, t :: ts, x => if x.toInt = a then t else a_lsw dt ps ts x
  | _, _, _ => dt
/-- where it goes on -/
def a_s2 (ins : Instr) (aux : aX) (i : Nat) (L : aL) (st : List Value) (h : List aC) : Option aN := match ins with
  | .goto _ => match aux with
    | [t] :: _ => some (true, t, L, st, h)
    | _ => none
  | .if_icmp c _ => match st, aux with
    | .int y :: .int x :: r, [t] :: _ => some (true, (bif a_ic c x y then t else i + 1), L, r, h)
    | _, _ => none
  | .ifCond c _ => match st, aux with
    | .int x :: r, [t] :: _ => some (true, (bif a_ic c x 0 then t else i + 1), L, r, h)
    | _, _ => none
  | .ifnull _ => match st, aux with
    | .null :: r, [t] :: _ => some (true, t, L, r, h)
    | .ref _ :: r, [_] :: _ => some (true, i + 1, L, r, h)
    | _, _ => none
  | .ifnonnull _ => match st, aux with
    | .null :: r, [_] :: _ => some (true, i + 1, L, r, h)
    | .ref _ :: r, [t] :: _ => some (true, t, L, r, h)
    | _, _ => none
  | .tableswitch _ lo hi _ => match st, aux with
    | .int x :: r, [dt] :: ts :: _ => some (true, a_tsw lo hi dt ts x, L, r, h)
    | _, _ => none
  | .lookupswitch _ ps => match st, aux with
    | .int x :: r, [dt] :: ts :: _ => some (true, a_lsw dt ps.toList ts x, L, r, h)
    | _, _ => none
  | _ => none
/-- does the value fit a field of the kind tc: 0 an int, 1 a boolean, 2 a reference -/
def a_fk (tc : Nat) (v : Value) : Bool := match tc, v with
  | 0, .int _ => true
  | 1, .int x => decide (x = 0) || decide (x = 1)
  | 2, .ref _ => true
  | 2, .null => true
  | _, _ => false
/-- fields, arrays, what is made; df: the fields of a new object by its class -/
def a_s3 (df : List (List Value)) (sc : Nat × (Nat → Int32)) (ins : Instr) (cst : Int32) (aux : aX) (i : Nat) (L : aL) (st : List Value) (h : List aC) : Option aN := match ins with
  | .getfield _ => match st, aux with
    | .ref a :: r, [f, 0] :: cs :: _ => match h[a]? with
      | some (.inr (ci, fs)) => match fs[f]? with
        | some v => some (cs.contains ci, i + 1, L, v :: r, h)
        | none => none
      | _ => none
    | _, _ => none
  | .putfield _ => match st, aux with
    | v :: .ref a :: r, [f, tc] :: cs :: _ => match h[a]? with
      | some (.inr (ci, fs)) => some (cs.contains ci && decide (f < fs.length) && a_fk tc v, i + 1, L, r, h.set a (.inr (ci, fs.set f v)))
      | _ => none
    | _, _ => none
  | .iaload => match st with
    | .int j :: .ref a :: r => match h[a]? with
      | some (.inl (0, n, .inl f)) => some (a_in j n, i + 1, L, .int (f j.toNatClampNeg) :: r, h)
      | _ => none
    | .int j :: .retAddr 50 :: r => some (a_in j sc.1, i + 1, L, .int (sc.2 j.toNatClampNeg) :: r, h)
    | _ => none
  | .iastore => match st with
    | .int x :: .int j :: .ref a :: r => match h[a]? with
      | some (.inl (0, n, .inl f)) => some (a_in j n, i + 1, L, r, h.set a (.inl (0, n, .inl (upd f j.toNatClampNeg x))))
      | _ => none
    | _ => none
  | .baload => match st with
    | .int j :: .ref a :: r => match h[a]? with
      | some (.inl (1, n, .inl f)) => some (a_in j n, i + 1, L, .int (f j.toNatClampNeg) :: r, h)
      | _ => none
    | _ => none
  | .bastore => match st with
    | .int x :: .int j :: .ref a :: r => match h[a]? with
      | some (.inl (1, n, .inl f)) => some (a_in j n && (decide (x = 0) || decide (x = 1)), i + 1, L, r, h.set a (.inl (1, n, .inl (upd f j.toNatClampNeg x))))
      | _ => none
    | _ => none
  | .aaload => match st with
    | .int j :: .ref a :: r => match h[a]? with
      | some (.inl (2, n, .inr (.inr (.inr (.inr f))))) => some (a_in j n, i + 1, L, va_rf (f j.toNatClampNeg) :: r, h)
      | _ => none
    | _ => none
  | .aastore => match st, aux with
    | .ref v :: .int j :: .ref a :: r, cs :: _ => match h[a]?, h[v]? with
      | some (.inl (2, n, .inr (.inr (.inr (.inr f))))), some (.inr (ci, _)) => some (a_in j n && cs.contains ci, i + 1, L, r, h.set a (.inl (2, n, .inr (.inr (.inr (.inr (va_up f j.toNatClampNeg (some v))))))))
      | _, _ => none
    | .null :: .int j :: .ref a :: r, _ => match h[a]? with
      | some (.inl (2, n, .inr (.inr (.inr (.inr f))))) => some (a_in j n, i + 1, L, r, h.set a (.inl (2, n, .inr (.inr (.inr (.inr (va_up f j.toNatClampNeg none)))))))
      | _ => none
    | _, _ => none
  | .arraylength => match st with
    | .ref a :: r => match h[a]? with
      | some (.inl (k, x)) => some (decide (k < 3), i + 1, L, .int (Int32.ofNat x.1) :: r, h)
      | _ => none
    | .retAddr 50 :: r => some (true, i + 1, L, .int (Int32.ofNat sc.1) :: r, h)
    | _ => none
  | .new _ => match aux with
    | [ci] :: _ => match df[ci]? with
      | some fs => some (true, i + 1, L, .ref h.length :: st, h ++ [.inr (ci, fs)])
      | none => none
    | _ => none
  | .newarray t => match st, t with
    | .int n :: r, .int => some (decide (¬ n < 0) && decide (n.toNatClampNeg ≤ 1000), i + 1, L, .ref h.length :: r, h ++ [.inl (0, n.toNatClampNeg, .inl (fun _ => 0))])
    | .int n :: r, .boolean => some (decide (¬ n < 0) && decide (n.toNatClampNeg ≤ 1000), i + 1, L, .ref h.length :: r, h ++ [.inl (1, n.toNatClampNeg, .inl (fun _ => 0))])
    | _, _ => none
  | .anewarray _ => match st with
    | .int n :: r => some (decide (¬ n < 0) && decide (n.toNatClampNeg ≤ 1000), i + 1, L, .ref h.length :: r, h ++ [.inl (2, n.toNatClampNeg, .inr (.inr (.inr (.inr (fun _ => none)))))])
    | _ => none
  | .instanceof _ => match st, aux with
    | .null :: r, _ => some (true, i + 1, L, .int 0 :: r, h)
    | .ref a :: r, ys :: ns :: _ => match h[a]? with
      | some (.inr (ci, _)) => some (ys.contains ci || ns.contains ci, i + 1, L, .int (bif ys.contains ci then 1 else 0) :: r, h)
      | _ => none
    | _, _ => none
  | .ldc _ => match aux with
    | [k] :: _ => some (true, i + 1, L, .retAddr k :: st, h)
    | _ => none
  | .ldc2_w _ => some (true, i + 1, L, .long cst.toInt64 :: st, h)
  | _ => none
/-- methods that are not walked: Math.max, Math.min, System.arraycopy (ints), Object() -/
def a_s4 (ins : Instr) (aux : aX) (i : Nat) (L : aL) (st : List Value) (h : List aC) : Option aN := match ins with
  | .invokestatic _ => match aux with
    | [1] :: _ => match st with
      | .int y :: .int x :: r => some (decide ((r.map fun v => v.category).sum ≤ 8), i + 1, L, .int (if x < y then y else x) :: r, h)
      | _ => none
    | [2] :: _ => match st with
      | .int y :: .int x :: r => some (decide ((r.map fun v => v.category).sum ≤ 8), i + 1, L, .int (if y < x then y else x) :: r, h)
      | _ => none
    | [3] :: _ => match st with
      | .int n :: .int dp :: .ref a :: .int sp :: .ref b :: r => match h[b]?, h[a]? with
        | some (.inl (0, n0, .inl f)), some (.inl (0, n1, .inl g)) => some (decide ((r.map fun v => v.category).sum ≤ 8) && decide (¬ sp < 0) && decide (¬ dp < 0) && decide (¬ n < 0) && decide (sp.toNatClampNeg + n.toNatClampNeg ≤ n0) && decide (dp.toNatClampNeg + n.toNatClampNeg ≤ n1), i + 1, L, r, h.set a (.inl (0, n1, .inl (va_cpy f g sp.toNatClampNeg dp.toNatClampNeg n.toNatClampNeg))))
        | _, _ => none
      | _ => none
    | _ => none
  | .invokespecial _ => match aux with
    | [1] :: _ => match st with
      | .ref _ :: r => some (decide ((r.map fun v => v.category).sum ≤ 8), i + 1, L, r, h)
      | _ => none
    | _ => none
  | _ => none
/-- String constants: their bytes and coder, statics (sv), a char -/
def a_s5 (tx : List (List Int32)) (sv : List (String × String × String × Value)) (ins : Instr) (aux : aX) (i : Nat) (L : aL) (st : List Value) (h : List aC) : Option aN := match ins with
  | .getfield _ => match st, aux with
    | .retAddr k :: r, [0, 9] :: _ => some (decide (k < tx.length), i + 1, L, .retAddr (100 + k) :: r, h)
    | .retAddr k :: r, [1, 9] :: _ => some (decide (k < tx.length), i + 1, L, .int 0 :: r, h)
    | _, _ => none
  | .arraylength => match st with
    | .retAddr q :: r => some (decide (100 ≤ q) && decide (q - 100 < tx.length), i + 1, L, .int (Int32.ofNat (tx.getD (q - 100) []).length) :: r, h)
    | _ => none
  | .baload => match st with
    | .int j :: .retAddr q :: r => some (decide (100 ≤ q) && decide (q - 100 < tx.length) && a_in j (tx.getD (q - 100) []).length, i + 1, L, .int ((tx.getD (q - 100) []).getD j.toNatClampNeg 0) :: r, h)
    | _ => none
  | .getstatic _ => match aux with
    | [j] :: _ => match sv[j]? with
      | some (_, _, _, v) => some (true, i + 1, L, v :: st, h)
      | none => none
    | _ => none
  | .i2c => match st with
    | .int x :: r => some (true, i + 1, L, .int (x.toUInt32 % 65536).toInt32 :: r, h)
    | _ => none
  | _ => none
/-- a return: does the answer fit, the answer -/
def a_fin (ins : Instr) (aux : aX) (st : List Value) : Option (Bool × Option Value) := match ins with
  | .ireturn => match st, aux with
    | [.int x], [0] :: _ => some (true, some (.int x))
    | [.int x], [1] :: _ => some (decide (x = 0) || decide (x = 1), some (.int x))
    | [.int x], [2] :: _ => some (decide (x.toInt8.toInt32 = x), some (.int x))
    | [.int x], [3] :: _ => some (decide (x.toUInt32.toUInt16.toUInt32.toInt32 = x), some (.int x))
    | _, _ => some (false, none)
  | .lreturn => match st with
    | [.long x] => some (true, some (.long x))
    | _ => some (false, none)
  | .areturn => match st with
    | [.ref x] => some (true, some (.ref x))
    | [.retAddr x] => some (true, some (.retAddr x))
    | [.null] => some (true, some .null)
    | _ => some (false, none)
  | .return_ => match st with
    | [] => some (true, none)
    | _ => some (false, none)
  | _ => none
/-- which method an entry ci, method, .. names for the class ci -/
def a_vt (ci : Nat) : aX → Option Nat
  | (c :: k :: _) :: r => if c = ci then some k else a_vt ci r
  | _ => none
/-- a call of a method that is walked: its number, its arguments, what is left on the stack -/
def a_cal (nt : Nat) (ins : Instr) (aux : aX) (st : List Value) (h : List aC) : Option (Nat × List Value × List Value) := match ins with
  | .invokestatic _ => match aux with
    | [0, k, n] :: _ => if n ≤ st.length then some (k, (st.take n).reverse, st.drop n) else none
    | [6, k, n] :: _ => if n ≤ st.length then some (k, (st.take n).reverse, st.drop n) else none
    | _ => none
  | .invokespecial _ => match aux with
    | [0, k, n] :: _ => match st.drop n with
      | .ref a :: r => some (k, .ref a :: (st.take n).reverse, r)
      | _ => none
    | [2, k, n] :: _ => match st.drop n with
      | .ref a :: r => match h[a]? with
        | some (.inr _) => some (k, .ref a :: (st.take n).reverse, r)
        | _ => none
      | _ => none
    | [7, k, n] :: _ => match st.drop n with
      | .ref a :: r => match h[a]? with
        | some (.inr _) => some (k, .ref a :: (st.take n).reverse, r)
        | _ => none
      | _ => none
    | _ => none
  | .invokevirtual _ => match aux with
    | [0, n] :: vt => match st.drop n with
      | .ref a :: r => match h[a]? with
        | some (.inr (ci, _)) => match a_vt ci vt with
          | some k => some (k, .ref a :: (st.take n).reverse, r)
          | none => none
        | _ => none
      | _ => none
    | [5, k, n] :: _ => match st.drop n with
      | .retAddr a :: r => if a < nt then some (k, .retAddr a :: (st.take n).reverse, r) else none
      | _ => none
    | _ => none
  | _ => none
def a_ent (ml : Nat) (As : List Value) : aL := As.map some ++ List.replicate (ml - As.length) none
/-- the machine: at most n steps in each frame, at most d frames above this one -/
def a_go (P : List aM) (df : List (List Value)) (tx : List (List Int32)) (sv : List (String × String × String × Value)) (sc : Nat × (Nat → Int32)) : Nat → Nat → Nat → Nat → aL → List Value → List aC → Option (Option Value × List aC)
  | 0, _, _, _, _, _, _ => none
  | n + 1, d, k, i, L, st, h => match P[k]? with
    | none => none
    | some (_, _, _, _, rows) => match rows[i]? with
      | none => none
      | some (_, ins, _, cst, aux) => match a_fin ins aux st with
        | some (g, r) => bif g then some (r, h) else none
        | none => match a_cal tx.length ins aux st h with
          | some (k', As, rest) => match d with
            | 0 => none
            | d' + 1 => match P[k']? with
              | none => none
              | some (_, _, ml, _, _) => bif decide ((rest.map fun v => v.category).sum ≤ 8) && decide (As.length ≤ ml) && As.all (fun v => v.category == 1) then
                  match a_go P df tx sv sc n d' k' 0 (a_ent ml As) [] h with
                  | some (rv, h') => a_go P df tx sv sc n (d' + 1) k (i + 1) L (rv.toList ++ rest) h'
                  | none => none
                else none
          | none => match a_s1 ins cst aux i L st h with
            | some (g, i', L', st', h') => bif g then a_go P df tx sv sc n d k i' L' st' h' else none
            | none => match a_s2 ins aux i L st h with
              | some (g, i', L', st', h') => bif g then a_go P df tx sv sc n d k i' L' st' h' else none
              | none => match a_s3 df sc ins cst aux i L st h with
                | some (g, i', L', st', h') => bif g then a_go P df tx sv sc n d k i' L' st' h' else none
                | none => match a_s4 ins aux i L st h with
                  | some (g, i', L', st', h') => bif g then a_go P df tx sv sc n d k i' L' st' h' else none
                  | none => match a_s5 tx sv ins aux i L st h with
                    | some (g, i', L', st', h') => bif g then a_go P df tx sv sc n d k i' L' st' h' else none
                    | none => none
