section
/-! 01.mach: a small machine of our own, by which the methods are computed; nothing here speaks of this claim's classes.
A cell is an array (number of its kind, length, contents) or an object (number of its class, fields). A reference '.ref j' is the j-th cell of our own heap; '.retAddr k' is the k-th thing that lies outside of it (a String constant; 50: the script). -/
abbrev aC : Type := (Nat × vp_A) ⊕ (Nat × List Value)
abbrev aL : Type := List (Option Value)
abbrev aX : Type := List (List Nat)
/-- a row of a method: its place in the bytes, the instruction, its length, a number, what it links -/
abbrev aI : Type := Nat × Instr × Nat × Int32 × aX
abbrev aM : Type := MethodName × ByteArray × Nat × Option FieldType × List aI
abbrev aN : Type := Bool × Nat × aL × List Value × List aC
def a_ld (L : aL) (j : Nat) : Value := ((L[j]?).getD none).getD (.float 0)
def a_pg (L : aL) (j : Nat) : Bool := decide (j < L.length) && (j == 0 || (a_ld L (j - 1)).category == 1)
def a_pg2 (L : aL) (j : Nat) : Bool := decide (j + 1 < L.length) && (j == 0 || (a_ld L (j - 1)).category == 1)
def a_in (j : Int32) (n : Nat) : Bool := decide (¬ j < 0) && decide (j.toNatClampNeg < n)
def a_ic (c : ClassFile.Cond) (x y : Int32) : Bool := match c with
  | .eq => decide (x = y)
  | .ne => decide (¬ x = y)
  | .lt => decide (x < y)
  | .ge => decide (y ≤ x)
  | .gt => decide (y < x)
  | .le => decide (x ≤ y)
def a_li (L : aL) (j i : Nat) (st : List Value) (h : List aC) : Option aN := match a_ld L j with
  | .int x => some (true, i + 1, L, .int x :: st, h)
  | _ => none
def a_ll (L : aL) (j i : Nat) (st : List Value) (h : List aC) : Option aN := match a_ld L j with
  | .long x => some (true, i + 1, L, .long x :: st, h)
  | _ => none
def a_la (L : aL) (j i : Nat) (st : List Value) (h : List aC) : Option aN := match a_ld L j with
  | .ref x => some (true, i + 1, L, .ref x :: st, h)
  | .retAddr x => some (true, i + 1, L, .retAddr x :: st, h)
  | .null => some (true, i + 1, L, .null :: st, h)
  | _ => none
def a_si (L : aL) (j i : Nat) (st : List Value) (h : List aC) : Option aN := match st with
  | .int x :: r => some (a_pg L j, i + 1, L.set j (some (.int x)), r, h)
  | _ => none
def a_sl (L : aL) (j i : Nat) (st : List Value) (h : List aC) : Option aN := match st with
  | .long x :: r => some (a_pg2 L j, i + 1, (L.set j (some (.long x))).set (j + 1) none, r, h)
  | _ => none
def a_sa (L : aL) (j i : Nat) (st : List Value) (h : List aC) : Option aN := match st with
  | .ref x :: r => some (a_pg L j, i + 1, L.set j (some (.ref x)), r, h)
  | .null :: r => some (a_pg L j, i + 1, L.set j (some .null), r, h)
  | _ => none
/-- locals, constants, the stack, numbers -/
def a_s1 (ins : Instr) (cst : Int32) (aux : aX) (i : Nat) (L : aL) (st : List Value) (h : List aC) : Option aN := match ins with
  | .iconst _ => some (true, i + 1, L, .int cst :: st, h)
  | .bipush _ => some (true, i + 1, L, .int cst :: st, h)
  | .sipush _ => some (true, i + 1, L, .int cst :: st, h)
  | .lconst n => some (true, i + 1, L, .long (Int64.ofNat (n : Nat)) :: st, h)
  | .aconst_null => some (true, i + 1, L, .null :: st, h)
  | .iload_n k => a_li L k i st h
  | .iload k => a_li L k i st h
  | .lload_n k => a_ll L k i st h
  | .aload_n k => a_la L k i st h
  | .aload k => a_la L k i st h
  | .istore_n k => a_si L k i st h
  | .istore k => a_si L k i st h
  | .lstore_n k => a_sl L k i st h
  | .astore_n k => a_sa L k i st h
  | .astore k => a_sa L k i st h
  | .iinc k _ => match a_ld L k with
    | .int x => some (a_pg L k, i + 1, L.set k (some (.int (x + cst))), st, h)
    | _ => none
  | .iadd => match st with
    | .int y :: .int x :: r => some (true, i + 1, L, .int (x + y) :: r, h)
    | _ => none
  | .isub => match st with
    | .int y :: .int x :: r => some (true, i + 1, L, .int (x - y) :: r, h)
    | _ => none
  | .imul => match st with
    | .int y :: .int x :: r => some (true, i + 1, L, .int (x * y) :: r, h)
    | _ => none
  | .iand => match st with
    | .int y :: .int x :: r => some (true, i + 1, L, .int (x &&& y) :: r, h)
    | _ => none
  | .ior => match st with
    | .int y :: .int x :: r => some (true, i + 1, L, .int (x ||| y) :: r, h)
    | _ => none
  | .ixor => match st with
    | .int y :: .int x :: r => some (true, i + 1, L, .int (x ^^^ y) :: r, h)
    | _ => none
  | .ishl => match st with
    | .int y :: .int x :: r => some (true, i + 1, L, .int (x <<< (y &&& 31)) :: r, h)
    | _ => none
  | .ishr => match st with
    | .int y :: .int x :: r => some (true, i + 1, L, .int (x >>> (y &&& 31)) :: r, h)
    | _ => none
  | .idiv => match st with
    | .int y :: .int x :: r => some (decide (¬ y = 0), i + 1, L, .int (x / y) :: r, h)
    | _ => none
  | .irem => match st with
    | .int y :: .int x :: r => some (decide (¬ y = 0), i + 1, L, .int (x - x / y * y) :: r, h)
    | _ => none
  | .ineg => match st with
    | .int x :: r => some (true, i + 1, L, .int (-x) :: r, h)
    | _ => none
  | .lor => match st with
    | .long y :: .long x :: r => some (true, i + 1, L, .long (x ||| y) :: r, h)
    | _ => none
  | .lshl => match st with
    | .int y :: .long x :: r => some (true, i + 1, L, .long (x <<< (y.toInt64 &&& 63)) :: r, h)
    | _ => none
  | .lcmp => match st with
    | .long y :: .long x :: r => some (true, i + 1, L, .int (lg_cmp x y) :: r, h)
    | _ => none
  | .dup => match st with
    | v :: r => some (v.category == 1, i + 1, L, v :: v :: r, h)
    | _ => none
  | .dup2 => match st with
    | v :: w :: r => some (v.category == 1 && w.category == 1, i + 1, L, v :: w :: v :: w :: r, h)
    | _ => none
  | .pop => match st with
    | v :: r => some (v.category == 1, i + 1, L, r, h)
    | _ => none
  | _ => none
/-- what decode must give beside the instruction -/
def a_k1 (ins : Instr) (len : Nat) (cst : Int32) : Bool := match ins with
  | .iconst n => len == 1 && decide (Int32.ofInt n = cst)
  | .bipush n => len == 2 && decide ((Int8.ofInt n).toInt32 = cst)
  | .sipush n => len == 3 && decide ((Int16.ofInt n).toInt32 = cst)
  | .iload _ => len == 2
  | .aload _ => len == 2
  | .istore _ => len == 2
  | .astore _ => len == 2
  | .iinc _ n => len == 3 && decide (Int32.ofInt n = cst)
  | _ => len == 1
def a_tsw (lo hi : Int) (dt : Nat) (ts : List Nat) (x : Int32) : Nat := if x.toInt < lo ∨ hi < x.toInt then dt else ts.getD (x.toInt - lo).toNat dt
def a_lsw (dt : Nat) : List (Int × Int) → List Nat → Int32 → Nat
  | (a, _) :: ps, t :: ts, x => if x.toInt = a then t else a_lsw dt ps ts x
  | _, _, _ => dt
/-- where it goes on -/
def a_s2 (ins : Instr) (aux : aX) (i : Nat) (L : aL) (st : List Value) (h : List aC) : Option aN := match ins with
  | .goto _ => match aux with
    | [t] :: _ => some (true, t, L, st, h)
    | _ => none
  | .if_icmp c _ => match st, aux with
    | .int y :: .int x :: r, [t] :: _ => some (true, (bif a_ic c x y then t else i + 1), L, r, h)
    | _, _ => none
  | .ifCond c _ => match st, aux with
    | .int x :: r, [t] :: _ => some (true, (bif a_ic c x 0 then t else i + 1), L, r, h)
    | _, _ => none
  | .ifnull _ => match st, aux with
    | .null :: r, [t] :: _ => some (true, t, L, r, h)
    | .ref _ :: r, [_] :: _ => some (true, i + 1, L, r, h)
    | _, _ => none
  | .ifnonnull _ => match st, aux with
    | .null :: r, [_] :: _ => some (true, i + 1, L, r, h)
    | .ref _ :: r, [t] :: _ => some (true, t, L, r, h)
    | _, _ => none
  | .tableswitch _ lo hi _ => match st, aux with
    | .int x :: r, [dt] :: ts :: _ => some (true, a_tsw lo hi dt ts x, L, r, h)
    | _, _ => none
  | .lookupswitch _ ps => match st, aux with
    | .int x :: r, [dt] :: ts :: _ => some (true, a_lsw dt ps.toList ts x, L, r, h)
    | _, _ => none
  | _ => none
/-- does the value fit a field of the kind tc: 0 an int, 1 a boolean, 2 a reference -/
def a_fk (tc : Nat) (v : Value) : Bool := match tc, v with
  | 0, .int _ => true
  | 1, .int x => decide (x = 0) || decide (x = 1)
  | 2, .ref _ => true
  | 2, .null => true
  | _, _ => false
/-- fields, arrays, what is made; df: the fields of a new object by its class -/
def a_s3 (df : List (List Value)) (sc : Nat × (Nat → Int32)) (ins : Instr) (cst : Int32) (aux : aX) (i : Nat) (L : aL) (st : List Value) (h : List aC) : Option aN := match ins with
  | .getfield _ => match st, aux with
    | .ref a :: r, [f, 0] :: cs :: _ => match h[a]? with
      | some (.inr (ci, fs)) => match fs[f]? with
        | some v => some (cs.contains ci, i + 1, L, v :: r, h)
        | none => none
      | _ => none
    | _, _ => none
  | .putfield _ => match st, aux with
    | v :: .ref a :: r, [f, tc] :: cs :: _ => match h[a]? with
      | some (.inr (ci, fs)) => some (cs.contains ci && decide (f < fs.length) && a_fk tc v, i + 1, L, r, h.set a (.inr (ci, fs.set f v)))
      | _ => none
    | _, _ => none
  | .iaload => match st with
    | .int j :: .ref a :: r => match h[a]? with
      | some (.inl (0, n, .inl f)) => some (a_in j n, i + 1, L, .int (f j.toNatClampNeg) :: r, h)
      | _ => none
    | .int j :: .retAddr 50 :: r => some (a_in j sc.1, i + 1, L, .int (sc.2 j.toNatClampNeg) :: r, h)
    | _ => none
  | .iastore => match st with
    | .int x :: .int j :: .ref a :: r => match h[a]? with
      | some (.inl (0, n, .inl f)) => some (a_in j n, i + 1, L, r, h.set a (.inl (0, n, .inl (upd f j.toNatClampNeg x))))
      | _ => none
    | _ => none
  | .baload => match st with
    | .int j :: .ref a :: r => match h[a]? with
      | some (.inl (1, n, .inl f)) => some (a_in j n, i + 1, L, .int (f j.toNatClampNeg) :: r, h)
      | _ => none
    | _ => none
  | .bastore => match st with
    | .int x :: .int j :: .ref a :: r => match h[a]? with
      | some (.inl (1, n, .inl f)) => some (a_in j n && (decide (x = 0) || decide (x = 1)), i + 1, L, r, h.set a (.inl (1, n, .inl (upd f j.toNatClampNeg x))))
      | _ => none
    | _ => none
  | .aaload => match st with
    | .int j :: .ref a :: r => match h[a]? with
      | some (.inl (2, n, .inr (.inr (.inr (.inr f))))) => some (a_in j n, i + 1, L, va_rf (f j.toNatClampNeg) :: r, h)
      | _ => none
    | _ => none
  | .aastore => match st, aux with
    | .ref v :: .int j :: .ref a :: r, cs :: _ => match h[a]?, h[v]? with
      | some (.inl (2, n, .inr (.inr (.inr (.inr f))))), some (.inr (ci, _)) => some (a_in j n && cs.contains ci, i + 1, L, r, h.set a (.inl (2, n, .inr (.inr (.inr (.inr (va_up f j.toNatClampNeg (some v))))))))
      | _, _ => none
    | .null :: .int j :: .ref a :: r, _ => match h[a]? with
      | some (.inl (2, n, .inr (.inr (.inr (.inr f))))) => some (a_in j n, i + 1, L, r, h.set a (.inl (2, n, .inr (.inr (.inr (.inr (va_up f j.toNatClampNeg none)))))))
      | _ => none
    | _, _ => none
  | .arraylength => match st with
    | .ref a :: r => match h[a]? with
      | some (.inl (k, x)) => some (decide (k < 3), i + 1, L, .int (Int32.ofNat x.1) :: r, h)
      | _ => none
    | .retAddr 50 :: r => some (true, i + 1, L, .int (Int32.ofNat sc.1) :: r, h)
    | _ => none
  | .new _ => match aux with
    | [ci] :: _ => match df[ci]? with
      | some fs => some (true, i + 1, L, .ref h.length :: st, h ++ [.inr (ci, fs)])
      | none => none
    | _ => none
  | .newarray t => match st, t with
    | .int n :: r, .int => some (decide (¬ n < 0) && decide (n.toNatClampNeg ≤ 1000), i + 1, L, .ref h.length :: r, h ++ [.inl (0, n.toNatClampNeg, .inl (fun _ => 0))])
    | .int n :: r, .boolean => some (decide (¬ n < 0) && decide (n.toNatClampNeg ≤ 1000), i + 1, L, .ref h.length :: r, h ++ [.inl (1, n.toNatClampNeg, .inl (fun _ => 0))])
    | _, _ => none
  | .anewarray _ => match st with
    | .int n :: r => some (decide (¬ n < 0) && decide (n.toNatClampNeg ≤ 1000), i + 1, L, .ref h.length :: r, h ++ [.inl (2, n.toNatClampNeg, .inr (.inr (.inr (.inr (fun _ => none)))))])
    | _ => none
  | .instanceof _ => match st, aux with
    | .null :: r, _ => some (true, i + 1, L, .int 0 :: r, h)
    | .ref a :: r, ys :: ns :: _ => match h[a]? with
      | some (.inr (ci, _)) => some (ys.contains ci || ns.contains ci, i + 1, L, .int (bif ys.contains ci then 1 else 0) :: r, h)
      | _ => none
    | _, _ => none
  | .ldc _ => match aux with
    | [k] :: _ => some (true, i + 1, L, .retAddr k :: st, h)
    | _ => none
  | .ldc2_w _ => some (true, i + 1, L, .long cst.toInt64 :: st, h)
  | _ => none
/-- methods that are not walked: Math.max, Math.min, System.arraycopy (ints), Object() -/
def a_s4 (ins : Instr) (aux : aX) (i : Nat) (L : aL) (st : List Value) (h : List aC) : Option aN := match ins with
  | .invokestatic _ => match aux with
    | [1] :: _ => match st with
      | .int y :: .int x :: r => some (decide ((r.map fun v => v.category).sum ≤ 8), i + 1, L, .int (if x < y then y else x) :: r, h)
      | _ => none
    | [2] :: _ => match st with
      | .int y :: .int x :: r => some (decide ((r.map fun v => v.category).sum ≤ 8), i + 1, L, .int (if y < x then y else x) :: r, h)
      | _ => none
    | [3] :: _ => match st with
      | .int n :: .int dp :: .ref a :: .int sp :: .ref b :: r => match h[b]?, h[a]? with
        | some (.inl (0, n0, .inl f)), some (.inl (0, n1, .inl g)) => some (decide ((r.map fun v => v.category).sum ≤ 8) && decide (¬ sp < 0) && decide (¬ dp < 0) && decide (¬ n < 0) && decide (sp.toNatClampNeg + n.toNatClampNeg ≤ n0) && decide (dp.toNatClampNeg + n.toNatClampNeg ≤ n1), i + 1, L, r, h.set a (.inl (0, n1, .inl (va_cpy f g sp.toNatClampNeg dp.toNatClampNeg n.toNatClampNeg))))
        | _, _ => none
      | _ => none
    | _ => none
  | .invokespecial _ => match aux with
    | [1] :: _ => match st with
      | .ref _ :: r => some (decide ((r.map fun v => v.category).sum ≤ 8), i + 1, L, r, h)
      | _ => none
    | _ => none
  | _ => none
/-- String constants: their bytes and coder, statics (sv), a char -/
def a_s5 (tx : List (List Int32)) (sv : List (String × String × String × Value)) (ins : Instr) (aux : aX) (i : Nat) (L : aL) (st : List Value) (h : List aC) : Option aN := match ins with
  | .getfield _ => match st, aux with
    | .retAddr k :: r, [0, 9] :: _ => some (decide (k < tx.length), i + 1, L, .retAddr (100 + k) :: r, h)
    | .retAddr k :: r, [1, 9] :: _ => some (decide (k < tx.length), i + 1, L, .int 0 :: r, h)
    | _, _ => none
  | .arraylength => match st with
    | .retAddr q :: r => some (decide (100 ≤ q) && decide (q - 100 < tx.length), i + 1, L, .int (Int32.ofNat (tx.getD (q - 100) []).length) :: r, h)
    | _ => none
  | .baload => match st with
    | .int j :: .retAddr q :: r => some (decide (100 ≤ q) && decide (q - 100 < tx.length) && a_in j (tx.getD (q - 100) []).length, i + 1, L, .int ((tx.getD (q - 100) []).getD j.toNatClampNeg 0) :: r, h)
    | _ => none
  | .getstatic _ => match aux with
    | [j] :: _ => match sv[j]? with
      | some (_, _, _, v) => some (true, i + 1, L, v :: st, h)
      | none => none
    | _ => none
  | .i2c => match st with
    | .int x :: r => some (true, i + 1, L, .int (x.toUInt32 % 65536).toInt32 :: r, h)
    | _ => none
  | _ => none
/-- a return: does the answer fit, the answer -/
def a_fin (ins : Instr) (aux : aX) (st : List Value) : Option (Bool × Option Value) := match ins with
  | .ireturn => match st, aux with
    | [.int x], [0] :: _ => some (true, some (.int x))
    | [.int x], [1] :: _ => some (decide (x = 0) || decide (x = 1), some (.int x))
    | [.int x], [2] :: _ => some (decide (x.toInt8.toInt32 = x), some (.int x))
    | [.int x], [3] :: _ => some (decide (x.toUInt32.toUInt16.toUInt32.toInt32 = x), some (.int x))
    | _, _ => some (false, none)
  | .lreturn => match st with
    | [.long x] => some (true, some (.long x))
    | _ => some (false, none)
  | .areturn => match st with
    | [.ref x] => some (true, some (.ref x))
    | [.retAddr x] => some (true, some (.retAddr x))
    | [.null] => some (true, some .null)
    | _ => some (false, none)
  | .return_ => match st with
    | [] => some (true, none)
    | _ => some (false, none)
  | _ => none
/-- which method an entry ci, method, .. names for the class ci -/
def a_vt (ci : Nat) : aX → Option Nat
  | (c :: k :: _) :: r => if c = ci then some k else a_vt ci r
  | _ => none
/-- a call of a method that is walked: its number, its arguments, what is left on the stack -/
def a_cal (nt : Nat) (ins : Instr) (aux : aX) (st : List Value) (h : List aC) : Option (Nat × List Value × List Value) := match ins with
  | .invokestatic _ => match aux with
    | [0, k, n] :: _ => if n ≤ st.length then some (k, (st.take n).reverse, st.drop n) else none
    | [6, k, n] :: _ => if n ≤ st.length then some (k, (st.take n).reverse, st.drop n) else none
    | _ => none
  | .invokespecial _ => match aux with
    | [0, k, n] :: _ => match st.drop n with
      | .ref a :: r => some (k, .ref a :: (st.take n).reverse, r)
      | _ => none
    | [2, k, n] :: _ => match st.drop n with
      | .ref a :: r => match h[a]? with
        | some (.inr _) => some (k, .ref a :: (st.take n).reverse, r)
        | _ => none
      | _ => none
    | [7, k, n] :: _ => match st.drop n with
      | .ref a :: r => match h[a]? with
        | some (.inr _) => some (k, .ref a :: (st.take n).reverse, r)
        | _ => none
      | _ => none
    | _ => none
  | .invokevirtual _ => match aux with
    | [0, n] :: vt => match st.drop n with
      | .ref a :: r => match h[a]? with
        | some (.inr (ci, _)) => match a_vt ci vt with
          | some k => some (k, .ref a :: (st.take n).reverse, r)
          | none => none
        | _ => none
      | _ => none
    | [5, k, n] :: _ => match st.drop n with
      | .retAddr a :: r => if a < nt then some (k, .retAddr a :: (st.take n).reverse, r) else none
      | _ => none
    | _ => none
  | _ => none
def a_ent (ml : Nat) (As : List Value) : aL := As.map some ++ List.replicate (ml - As.length) none
/-- the machine: at most n steps in each frame, at most d frames above this one -/
def a_go (P : List aM) (df : List (List Value)) (tx : List (List Int32)) (sv : List (String × String × String × Value)) (sc : Nat × (Nat → Int32)) : Nat → Nat → Nat → Nat → aL → List Value → List aC → Option (Option Value × List aC)
  | 0, _, _, _, _, _, _ => none
  | n + 1, d, k, i, L, st, h => match P[k]? with
    | none => none
    | some (_, _, _, _, rows) => match rows[i]? with
      | none => none
      | some (_, ins, _, cst, aux) => match a_fin ins aux st with
        | some (g, r) => bif g then some (r, h) else none
        | none => match a_cal tx.length ins aux st h with
          | some (k', As, rest) => match d with
            | 0 => none
            | d' + 1 => match P[k']? with
              | none => none
              | some (_, _, ml, _, _) => bif decide ((rest.map fun v => v.category).sum ≤ 8) && decide (As.length ≤ ml) && As.all (fun v => v.category == 1) then
                  match a_go P df tx sv sc n d' k' 0 (a_ent ml As) [] h with
                  | some (rv, h') => a_go P df tx sv sc n (d' + 1) k (i + 1) L (rv.toList ++ rest) h'
                  | none => none
                else none
          | none => match a_s1 ins cst aux i L st h with
            | some (g, i', L', st', h') => bif g then a_go P df tx sv sc n d k i' L' st' h' else none
            | none => match a_s2 ins aux i L st h with
              | some (g, i', L', st', h') => bif g then a_go P df tx sv sc n d k i' L' st' h' else none
              | none => match a_s3 df sc ins cst aux i L st h with
                | some (g, i', L', st', h') => bif g then a_go P df tx sv sc n d k i' L' st' h' else none
                | none => match a_s4 ins aux i L st h with
                  | some (g, i', L', st', h') => bif g then a_go P df tx sv sc n d k i' L' st' h' else none
                  | none => match a_s5 tx sv ins aux i L st h with
                    | some (g, i', L', st', h') => bif g then a_go P df tx sv sc n d k i' L' st' h' else none
                    | none => none
end
section
/-! 02.rel: how our machine's state lies in the machine's; rows of locals, constants, the stack, numbers -/
def a_cv (B : Nat) (ad : Nat → Nat) (v : Value) : Value := match v with
  | .ref a => .ref (B + a)
  | .retAddr k => .ref (ad k)
  | .int x => .int x
  | .long x => .long x
  | .float x => .float x
  | .double x => .double x
  | .null => .null
theorem a_cv_cat (B : Nat) (ad : Nat → Nat) (v : Value) : (a_cv B ad v).category = v.category := by cases v <;> rfl
/-- the locals -/
def a_lo (B : Nat) (ad : Nat → Nat) (ls : Array Slot) (L : aL) : Prop := lv_has ls L.length [] ∧ ∀ (j : Nat) (v : Value), L[j]? = some (some v) → ls[j]? = some (.val (a_cv B ad v))
def a_asl (B : Nat) (ad : Nat → Nat) (L : aL) : List (Nat × Value) := (List.range L.length).filterMap (fun j => match L[j]? with
  | some (some v) => some (j, a_cv B ad v)
  | _ => none)
theorem a_asl_mem {B : Nat} {ad : Nat → Nat} {L : aL} {q : Nat × Value} (h : q ∈ a_asl B ad L) : ∃ v, L[q.1]? = some (some v) ∧ q.2 = a_cv B ad v := by
  obtain ⟨j, -, hj⟩ := List.mem_filterMap.mp h
  split at hj
  · rename_i v hv
    cases hj
    exact ⟨v, hv, rfl⟩
  · cases hj
theorem a_asl_of {B : Nat} {ad : Nat → Nat} {L : aL} {j : Nat} {v : Value} (h : L[j]? = some (some v)) : (j, a_cv B ad v) ∈ a_asl B ad L := by
  refine List.mem_filterMap.mpr ⟨j, List.mem_range.mpr (List.getElem?_eq_some_iff.mp h).1, ?_⟩
  simp only [h]
theorem a_lo_has {B : Nat} {ad : Nat → Nat} {ls : Array Slot} {L : aL} (h : a_lo B ad ls L) : lv_has ls L.length (a_asl B ad L) := by
  refine ⟨h.1.1, h.1.2.1, fun q hq => ?_⟩
  obtain ⟨v, h1, h2⟩ := a_asl_mem hq
  rw [h2]
  exact h.2 _ _ h1
theorem a_ld_int {L : aL} {j : Nat} {x : Int32} (h : a_ld L j = .int x) : L[j]? = some (some (.int x)) := by
  unfold a_ld at h
  cases e : L[j]? with
  | none => simp [e] at h
  | some o => cases o with
    | none => simp [e] at h
    | some v => simp [e] at h; rw [h]
theorem a_ld_long {L : aL} {j : Nat} {x : Int64} (h : a_ld L j = .long x) : L[j]? = some (some (.long x)) := by
  unfold a_ld at h
  cases e : L[j]? with
  | none => simp [e] at h
  | some o => cases o with
    | none => simp [e] at h
    | some v => simp [e] at h; rw [h]
theorem a_ld_ref {L : aL} {j : Nat} {x : Nat} (h : a_ld L j = .ref x) : L[j]? = some (some (.ref x)) := by
  unfold a_ld at h
  cases e : L[j]? with
  | none => simp [e] at h
  | some o => cases o with
    | none => simp [e] at h
    | some v => simp [e] at h; rw [h]
theorem a_ld_ra {L : aL} {j : Nat} {x : Nat} (h : a_ld L j = .retAddr x) : L[j]? = some (some (.retAddr x)) := by
  unfold a_ld at h
  cases e : L[j]? with
  | none => simp [e] at h
  | some o => cases o with
    | none => simp [e] at h
    | some v => simp [e] at h; rw [h]
theorem a_ld_null {L : aL} {j : Nat} (h : a_ld L j = .null) : L[j]? = some (some .null) := by
  unfold a_ld at h
  cases e : L[j]? with
  | none => simp [e] at h
  | some o => cases o with
    | none => simp [e] at h
    | some v => simp [e] at h; rw [h]
/-- what a store leaves of the others -/
theorem a_lo_set {B : Nat} {ad : Nat → Nat} {ls : Array Slot} {L : aL} {j : Nat} {v : Value} (hg : a_pg L j = true)
    (h : lv_has ls L.length ((j, a_cv B ad v) :: (a_asl B ad L).filter (fun q => !(q.1 == j) && !(q.1 + 1 == j && q.2.category == 2)))) : a_lo B ad ls (L.set j (some v)) := by
  unfold a_pg at hg
  simp only [Bool.and_eq_true, decide_eq_true_eq, Bool.or_eq_true, beq_iff_eq] at hg
  refine ⟨by rw [List.length_set]; exact ⟨h.1, h.2.1, fun q hq => by cases hq⟩, fun i w hi => ?_⟩
  by_cases hij : j = i
  · subst hij
    rw [List.getElem?_set_self hg.1] at hi
    cases hi
    exact h.2.2 _ List.mem_cons_self
  · rw [List.getElem?_set_ne hij] at hi
    refine h.2.2 (i, a_cv B ad w) (List.mem_cons_of_mem _ (List.mem_filter.mpr ⟨a_asl_of hi, ?_⟩))
    have h1 : (i == j) = false := by simpa using fun e : i = j => hij e.symm
    simp only [h1, Bool.not_false, Bool.true_and, Bool.not_eq_true', Bool.and_eq_false_imp, beq_iff_eq]
    intro e
    have h2 : j ≠ 0 := by omega
    have h3 := hg.2.resolve_left h2
    have h4 : a_ld L (j - 1) = w := by unfold a_ld; rw [show j - 1 = i by omega, hi]; rfl
    rw [h4] at h3
    simp [a_cv_cat, h3]
theorem a_lo_set2 {B : Nat} {ad : Nat → Nat} {ls : Array Slot} {L : aL} {j : Nat} {v : Value} (hg : a_pg2 L j = true)
    (h : lv_has ls L.length ((j, a_cv B ad v) :: (a_asl B ad L).filter (fun q => !(q.1 == j) && (!(q.1 == j + 1) && !(q.1 + 1 == j && q.2.category == 2))))) : a_lo B ad ls ((L.set j (some v)).set (j + 1) none) := by
  unfold a_pg2 at hg
  simp only [Bool.and_eq_true, decide_eq_true_eq, Bool.or_eq_true, beq_iff_eq] at hg
  refine ⟨by rw [List.length_set, List.length_set]; exact ⟨h.1, h.2.1, fun q hq => by cases hq⟩, fun i w hi => ?_⟩
  by_cases hij1 : j + 1 = i
  · subst hij1
    rw [List.getElem?_set_self (by rw [List.length_set]; exact hg.1)] at hi
    cases hi
  rw [List.getElem?_set_ne hij1] at hi
  by_cases hij : j = i
  · subst hij
    rw [List.getElem?_set_self (by omega)] at hi
    cases hi
    exact h.2.2 _ List.mem_cons_self
  · rw [List.getElem?_set_ne hij] at hi
    refine h.2.2 (i, a_cv B ad w) (List.mem_cons_of_mem _ (List.mem_filter.mpr ⟨a_asl_of hi, ?_⟩))
    have h1 : (i == j) = false := by simpa using fun e : i = j => hij e.symm
    have h1b : (i == j + 1) = false := by simpa using fun e : i = j + 1 => hij1 e.symm
    simp only [h1, h1b, Bool.not_false, Bool.true_and, Bool.not_eq_true', Bool.and_eq_false_imp, beq_iff_eq]
    intro e
    have h2 : j ≠ 0 := by omega
    have h3 := hg.2.resolve_left h2
    have h4 : a_ld L (j - 1) = w := by unfold a_ld; rw [show j - 1 = i by omega, hi]; rfl
    rw [h4] at h3
    simp [a_cv_cat, h3]
theorem a_pg_lt {L : aL} {j : Nat} (h : a_pg L j = true) : j < L.length := by
  unfold a_pg at h
  simp only [Bool.and_eq_true, decide_eq_true_eq] at h
  exact h.1
theorem a_pg2_lt {L : aL} {j : Nat} (h : a_pg2 L j = true) : j + 1 < L.length := by
  unfold a_pg2 at h
  simp only [Bool.and_eq_true, decide_eq_true_eq] at h
  exact h.1
section AR
variable {p : Program} {l : Launch} {e : Env} {R : Room} {s : State} {m : MethodId} {args : Array Value} {below : List Frame} {meth : Method} {c : Code} {H : Heap} {locs : List Loc} {cells slots : Nat} {Q : State → Prop}
variable {cc : ByteArray} {pc : Nat} {ls : Array Slot} {B : Nat} {ad : Nat → Nat}
/-- locals, constants, the stack, numbers: a step of ours is a step of the machine -/
theorem a_s1_ok (hx : p.tables.exec = Jvm.exec) (hb : c.code = cc) {ins : Instr} {len : Nat} {cst : Int32} {aux : aX} (hdg : decode cc pc = .ok (ins, len)) (hk : a_k1 ins len cst = true)
    {i i' : Nat} {L L' : aL} {st st' : List Value} {h h' : List aC} (hlo : a_lo B ad ls L) (hs : a_s1 ins cst aux i L st h = some (true, i', L', st', h'))
    (kk : ∀ ls' : Array Slot, i' = i + 1 → h' = h → L'.length = L.length → a_lo B ad ls' L' → W p l e R s m args below meth c H locs cells slots Q (F0 m (pc + len) ls' (st'.map (a_cv B ad)))) :
    W p l e R s m args below meth c H locs cells slots Q (F0 m pc ls (st.map (a_cv B ad))) := by
  unfold a_s1 at hs
  split at hs
  case h_1 n =>
    simp only [a_k1, Bool.and_eq_true, beq_iff_eq, decide_eq_true_eq] at hk
    obtain ⟨rfl, hc⟩ := hk
    cases hs
    exact lv_iconst hx hb hdg hc (kk ls rfl rfl rfl hlo)
  case h_2 n =>
    simp only [a_k1, Bool.and_eq_true, beq_iff_eq, decide_eq_true_eq] at hk
    obtain ⟨rfl, hc⟩ := hk
    cases hs
    exact lv_bipush hx hb hdg hc (kk ls rfl rfl rfl hlo)
  case h_3 n =>
    simp only [a_k1, Bool.and_eq_true, beq_iff_eq, decide_eq_true_eq] at hk
    obtain ⟨rfl, hc⟩ := hk
    cases hs
    exact lv_sipush hx hb hdg hc (kk ls rfl rfl rfl hlo)
  case h_4 n =>
    simp only [a_k1, beq_iff_eq] at hk
    subst hk
    cases hs
    exact lv_lconst hx hb hdg rfl (kk ls rfl rfl rfl hlo)
  case h_5 =>
    simp only [a_k1, beq_iff_eq] at hk
    subst hk
    cases hs
    exact lv_null hx hb hdg (kk ls rfl rfl rfl hlo)
  case h_6 k =>
    simp only [a_k1, beq_iff_eq] at hk
    subst hk
    unfold a_li at hs
    split at hs
    · rename_i x hv
      cases hs
      exact lv_iload_n hx hb hdg rfl (hlo.2 _ _ (a_ld_int hv)) (kk ls rfl rfl rfl hlo)
    · cases hs
  case h_7 k =>
    simp only [a_k1, beq_iff_eq] at hk
    subst hk
    unfold a_li at hs
    split at hs
    · rename_i x hv
      cases hs
      exact lv_iload hx hb hdg (hlo.2 _ _ (a_ld_int hv)) (kk ls rfl rfl rfl hlo)
    · cases hs
  case h_8 k =>
    simp only [a_k1, beq_iff_eq] at hk
    subst hk
    unfold a_ll at hs
    split at hs
    · rename_i x hv
      cases hs
      exact lv_lload_n hx hb hdg rfl (hlo.2 _ _ (a_ld_long hv)) (kk ls rfl rfl rfl hlo)
    · cases hs
  case h_9 k =>
    simp only [a_k1, beq_iff_eq] at hk
    subst hk
    unfold a_la at hs
    split at hs
    · rename_i x hv
      cases hs
      exact lv_aload_n hx hb hdg rfl (hlo.2 _ _ (a_ld_ref hv)) (kk ls rfl rfl rfl hlo)
    · rename_i x hv
      cases hs
      exact lv_aload_n hx hb hdg rfl (hlo.2 _ _ (a_ld_ra hv)) (kk ls rfl rfl rfl hlo)
    · rename_i hv
      cases hs
      exact lv_aload_nN hx hb hdg rfl (hlo.2 _ _ (a_ld_null hv)) (kk ls rfl rfl rfl hlo)
    · cases hs
  case h_10 k =>
    simp only [a_k1, beq_iff_eq] at hk
    subst hk
    unfold a_la at hs
    split at hs
    · rename_i x hv
      cases hs
      exact lv_aload hx hb hdg (hlo.2 _ _ (a_ld_ref hv)) (kk ls rfl rfl rfl hlo)
    · rename_i x hv
      cases hs
      exact lv_aload hx hb hdg (hlo.2 _ _ (a_ld_ra hv)) (kk ls rfl rfl rfl hlo)
    · rename_i hv
      cases hs
      exact lv_aloadN hx hb hdg (hlo.2 _ _ (a_ld_null hv)) (kk ls rfl rfl rfl hlo)
    · cases hs
  case h_11 k =>
    simp only [a_k1, beq_iff_eq] at hk
    subst hk
    unfold a_si at hs
    split at hs
    · rename_i x r
      simp only [Option.some.injEq, Prod.mk.injEq] at hs
      obtain ⟨hg, rfl, rfl, rfl, rfl⟩ := hs
      exact lv_istore_n hx hb hdg rfl (a_lo_has hlo) (a_pg_lt hg) rfl (fun ls' hl => kk ls' rfl rfl (List.length_set ..) (a_lo_set hg hl))
    · cases hs
  case h_12 k =>
    simp only [a_k1, beq_iff_eq] at hk
    subst hk
    unfold a_si at hs
    split at hs
    · rename_i x r
      simp only [Option.some.injEq, Prod.mk.injEq] at hs
      obtain ⟨hg, rfl, rfl, rfl, rfl⟩ := hs
      exact lv_istore hx hb hdg (a_lo_has hlo) (a_pg_lt hg) rfl (fun ls' hl => kk ls' rfl rfl (List.length_set ..) (a_lo_set hg hl))
    · cases hs
  case h_13 k =>
    simp only [a_k1, beq_iff_eq] at hk
    subst hk
    unfold a_sl at hs
    split at hs
    · rename_i x r
      simp only [Option.some.injEq, Prod.mk.injEq] at hs
      obtain ⟨hg, rfl, rfl, rfl, rfl⟩ := hs
      exact lv_lstore_n hx hb hdg rfl (a_lo_has hlo) (a_pg2_lt hg) rfl (fun ls' hl => kk ls' rfl rfl (by rw [List.length_set, List.length_set]) (a_lo_set2 hg hl))
    · cases hs
  case h_14 k =>
    simp only [a_k1, beq_iff_eq] at hk
    subst hk
    unfold a_sa at hs
    split at hs
    · rename_i x r
      simp only [Option.some.injEq, Prod.mk.injEq] at hs
      obtain ⟨hg, rfl, rfl, rfl, rfl⟩ := hs
      exact lv_astore_n hx hb hdg rfl (a_lo_has hlo) (a_pg_lt hg) rfl (fun ls' hl => kk ls' rfl rfl (List.length_set ..) (a_lo_set hg hl))
    · rename_i r
      simp only [Option.some.injEq, Prod.mk.injEq] at hs
      obtain ⟨hg, rfl, rfl, rfl, rfl⟩ := hs
      exact lv_astore_nN hx hb hdg rfl (a_lo_has hlo) (a_pg_lt hg) rfl (fun ls' hl => kk ls' rfl rfl (List.length_set ..) (a_lo_set hg hl))
    · cases hs
  case h_15 k =>
    simp only [a_k1, beq_iff_eq] at hk
    subst hk
    unfold a_sa at hs
    split at hs
    · rename_i x r
      simp only [Option.some.injEq, Prod.mk.injEq] at hs
      obtain ⟨hg, rfl, rfl, rfl, rfl⟩ := hs
      exact lv_astore hx hb hdg (a_lo_has hlo) (a_pg_lt hg) rfl (fun ls' hl => kk ls' rfl rfl (List.length_set ..) (a_lo_set hg hl))
    · rename_i r
      simp only [Option.some.injEq, Prod.mk.injEq] at hs
      obtain ⟨hg, rfl, rfl, rfl, rfl⟩ := hs
      exact lv_astoreN hx hb hdg (a_lo_has hlo) (a_pg_lt hg) rfl (fun ls' hl => kk ls' rfl rfl (List.length_set ..) (a_lo_set hg hl))
    · cases hs
  case h_16 k n =>
    simp only [a_k1, Bool.and_eq_true, beq_iff_eq, decide_eq_true_eq] at hk
    obtain ⟨rfl, hc⟩ := hk
    split at hs
    · rename_i x hv
      simp only [Option.some.injEq, Prod.mk.injEq] at hs
      obtain ⟨hg, rfl, rfl, rfl, rfl⟩ := hs
      obtain ⟨q, hq⟩ := List.getElem?_of_mem (a_asl_of (B := B) (ad := ad) (a_ld_int hv))
      exact lv_iinc hx hb hdg (a_lo_has hlo) hq (by rw [hc]) (a_pg_lt hg) rfl (fun ls' hl => kk ls' rfl rfl (List.length_set ..) (a_lo_set hg hl))
    · cases hs
  case h_17 =>
    simp only [a_k1, beq_iff_eq] at hk
    subst hk
    split at hs
    · cases hs
      exact lv_iadd hx hb hdg (kk ls rfl rfl rfl hlo)
    · cases hs
  case h_18 =>
    simp only [a_k1, beq_iff_eq] at hk
    subst hk
    split at hs
    · cases hs
      exact lv_isub hx hb hdg (kk ls rfl rfl rfl hlo)
    · cases hs
  case h_19 =>
    simp only [a_k1, beq_iff_eq] at hk
    subst hk
    split at hs
    · cases hs
      exact lv_imul hx hb hdg (kk ls rfl rfl rfl hlo)
    · cases hs
  case h_20 =>
    simp only [a_k1, beq_iff_eq] at hk
    subst hk
    split at hs
    · cases hs
      exact lv_iand hx hb hdg (kk ls rfl rfl rfl hlo)
    · cases hs
  case h_21 =>
    simp only [a_k1, beq_iff_eq] at hk
    subst hk
    split at hs
    · cases hs
      exact lv_ior hx hb hdg (kk ls rfl rfl rfl hlo)
    · cases hs
  case h_22 =>
    simp only [a_k1, beq_iff_eq] at hk
    subst hk
    split at hs
    · cases hs
      exact lv_ixor hx hb hdg (kk ls rfl rfl rfl hlo)
    · cases hs
  case h_23 =>
    simp only [a_k1, beq_iff_eq] at hk
    subst hk
    split at hs
    · cases hs
      exact lv_ishl hx hb hdg (kk ls rfl rfl rfl hlo)
    · cases hs
  case h_24 =>
    simp only [a_k1, beq_iff_eq] at hk
    subst hk
    split at hs
    · cases hs
      exact lv_ishr hx hb hdg (kk ls rfl rfl rfl hlo)
    · cases hs
  case h_25 =>
    simp only [a_k1, beq_iff_eq] at hk
    subst hk
    split at hs
    · simp only [Option.some.injEq, Prod.mk.injEq, decide_eq_true_eq] at hs
      obtain ⟨hg, rfl, rfl, rfl, rfl⟩ := hs
      exact lv_idiv hx hb hdg hg (kk ls rfl rfl rfl hlo)
    · cases hs
  case h_26 =>
    simp only [a_k1, beq_iff_eq] at hk
    subst hk
    split at hs
    · simp only [Option.some.injEq, Prod.mk.injEq, decide_eq_true_eq] at hs
      obtain ⟨hg, rfl, rfl, rfl, rfl⟩ := hs
      exact lv_irem hx hb hdg hg (kk ls rfl rfl rfl hlo)
    · cases hs
  case h_27 =>
    simp only [a_k1, beq_iff_eq] at hk
    subst hk
    split at hs
    · cases hs
      exact lv_ineg hx hb hdg (kk ls rfl rfl rfl hlo)
    · cases hs
  case h_28 =>
    simp only [a_k1, beq_iff_eq] at hk
    subst hk
    split at hs
    · cases hs
      exact lv_lor hx hb hdg (kk ls rfl rfl rfl hlo)
    · cases hs
  case h_29 =>
    simp only [a_k1, beq_iff_eq] at hk
    subst hk
    split at hs
    · cases hs
      exact lv_lshl hx hb hdg rfl (kk ls rfl rfl rfl hlo)
    · cases hs
  case h_30 =>
    simp only [a_k1, beq_iff_eq] at hk
    subst hk
    split at hs
    · cases hs
      exact W.lcmp hx hb hdg (kk ls rfl rfl rfl hlo)
    · cases hs
  case h_31 =>
    simp only [a_k1, beq_iff_eq] at hk
    subst hk
    split at hs
    · simp only [Option.some.injEq, Prod.mk.injEq, beq_iff_eq] at hs
      obtain ⟨hg, rfl, rfl, rfl, rfl⟩ := hs
      exact lv_dup hx hb hdg (by rw [a_cv_cat]; exact hg) (kk ls rfl rfl rfl hlo)
    · cases hs
  case h_32 =>
    simp only [a_k1, beq_iff_eq] at hk
    subst hk
    split at hs
    · simp only [Option.some.injEq, Prod.mk.injEq, Bool.and_eq_true, beq_iff_eq] at hs
      obtain ⟨hg, rfl, rfl, rfl, rfl⟩ := hs
      exact lv_dup2_11 hx hb hdg (by rw [a_cv_cat]; exact hg.1) (by rw [a_cv_cat]; exact hg.2) (kk ls rfl rfl rfl hlo)
    · cases hs
  case h_33 =>
    simp only [a_k1, beq_iff_eq] at hk
    subst hk
    split at hs
    · simp only [Option.some.injEq, Prod.mk.injEq, beq_iff_eq] at hs
      obtain ⟨hg, rfl, rfl, rfl, rfl⟩ := hs
      exact lv_pop hx hb hdg (by rw [a_cv_cat]; exact hg) (kk ls rfl rfl rfl hlo)
    · cases hs
  case h_34 => cases hs
end AR
end
section
/-! 03.flow: branches and switches -/
/-- the targets of row i lie where the offsets say (pf: a row's place in the bytes) -/
def a_k2 (ins : Instr) (len : Nat) (aux : aX) (pf : Nat → Nat) (i : Nat) : Bool := match ins with
  | .goto off => len == 3 && match aux with
    | [t] :: _ => decide ((pf i : Int) + off = (pf t : Int))
    | _ => false
  | .if_icmp _ off => len == 3 && pf (i + 1) == pf i + 3 && match aux with
    | [t] :: _ => decide ((pf i : Int) + off = (pf t : Int))
    | _ => false
  | .ifCond _ off => len == 3 && pf (i + 1) == pf i + 3 && match aux with
    | [t] :: _ => decide ((pf i : Int) + off = (pf t : Int))
    | _ => false
  | .ifnull off => len == 3 && pf (i + 1) == pf i + 3 && match aux with
    | [t] :: _ => decide ((pf i : Int) + off = (pf t : Int))
    | _ => false
  | .ifnonnull off => len == 3 && pf (i + 1) == pf i + 3 && match aux with
    | [t] :: _ => decide ((pf i : Int) + off = (pf t : Int))
    | _ => false
  | .tableswitch d lo hi offs => match aux with
    | [dt] :: ts :: _ => decide ((pf i : Int) + d = (pf dt : Int)) && decide (lo + (offs.toList.length : Int) = hi + 1) && decide (offs.toList.length = ts.length) && (offs.toList.zip ts).all (fun q => decide ((pf i : Int) + q.1 = (pf q.2 : Int)))
    | _ => false
  | .lookupswitch d ps => match aux with
    | [dt] :: ts :: _ => decide ((pf i : Int) + d = (pf dt : Int)) && (ps.toList.zip (ps.toList.drop 1)).all (fun (a, next) => a.1 < next.1) && decide (ps.toList.length = ts.length) && (ps.toList.zip ts).all (fun q => decide ((pf i : Int) + q.1.2 = (pf q.2 : Int)))
    | _ => false
  | _ => false
theorem a_lsw_ok {d : Int} {dt P : Nat} {pf : Nat → Nat} (hd : (P : Int) + d = (pf dt : Int)) (x : Int32) : ∀ (ps : List (Int × Int)) (ts : List Nat), ps.length = ts.length → (∀ q ∈ ps.zip ts, (P : Int) + q.1.2 = (pf q.2 : Int)) → (P : Int) + Op.lookupswitch.offset ps d x.toInt = (pf (a_lsw dt ps ts x) : Int) := by
  intro ps
  induction ps with
  | nil =>
    intro ts _ _
    cases ts <;> exact hd
  | cons q ps ih =>
    intro ts hl ha
    cases ts with
    | nil => simp at hl
    | cons t ts =>
      obtain ⟨a, o⟩ := q
      rw [Op.lookupswitch.offset_cons]
      simp only [a_lsw]
      by_cases hx : x.toInt = a
      · rw [if_pos hx.symm, if_pos hx]
        exact ha ((a, o), t) (by simp)
      · rw [if_neg (fun q => hx q.symm), if_neg hx]
        exact ih ts (by simpa using hl) (fun q hq => ha q (by simp only [List.zip_cons_cons, List.mem_cons]; exact Or.inr hq))
section AR
variable {p : Program} {l : Launch} {e : Env} {R : Room} {s : State} {m : MethodId} {args : Array Value} {below : List Frame} {meth : Method} {c : Code} {H : Heap} {locs : List Loc} {cells slots : Nat} {Q : State → Prop}
variable {cc : ByteArray} {ls : Array Slot} {B : Nat} {ad : Nat → Nat} {pf : Nat → Nat}
theorem a_ic_ok (hx : p.tables.exec = Jvm.exec) (hb : c.code = cc) {cd : ClassFile.Cond} {off : Int} {P t n : Nat} {rest : List Value} {x y : Int32} (hdg : decode cc P = .ok (.if_icmp cd off, 3)) (ht : (P : Int) + off = (pf t : Int)) (hn : pf n = P + 3)
    (kk : W p l e R s m args below meth c H locs cells slots Q (F0 m (pf (bif a_ic cd x y then t else n)) ls rest)) : W p l e R s m args below meth c H locs cells slots Q (F0 m P ls (.int y :: .int x :: rest)) := by
  cases cd with
  | eq => exact lv_icmp_eq hx hb hdg ht (fun q => by simpa [a_ic, q] using kk) (fun q => by rw [← hn]; simpa [a_ic, q] using kk)
  | ne => exact lv_icmp_ne hx hb hdg ht (fun q => by simpa [a_ic, q] using kk) (fun q => by rw [← hn]; simpa [a_ic, q] using kk)
  | lt => exact lv_icmp_lt hx hb hdg ht (fun q => by simpa [a_ic, q] using kk) (fun q => by rw [← hn]; simpa [a_ic, q] using kk)
  | ge => exact lv_icmp_ge hx hb hdg ht (fun q => by simpa [a_ic, q] using kk) (fun q => by rw [← hn]; simpa [a_ic, q] using kk)
  | gt => exact lv_icmp_gt hx hb hdg ht (fun q => by simpa [a_ic, q] using kk) (fun q => by rw [← hn]; simpa [a_ic, q] using kk)
  | le => exact lv_icmp_le hx hb hdg ht (fun q => by simpa [a_ic, q] using kk) (fun q => by rw [← hn]; simpa [a_ic, q] using kk)
theorem a_if_ok (hx : p.tables.exec = Jvm.exec) (hb : c.code = cc) {cd : ClassFile.Cond} {off : Int} {P t n : Nat} {rest : List Value} {x : Int32} (hdg : decode cc P = .ok (.ifCond cd off, 3)) (ht : (P : Int) + off = (pf t : Int)) (hn : pf n = P + 3)
    (kk : W p l e R s m args below meth c H locs cells slots Q (F0 m (pf (bif a_ic cd x 0 then t else n)) ls rest)) : W p l e R s m args below meth c H locs cells slots Q (F0 m P ls (.int x :: rest)) := by
  cases cd with
  | eq => exact lv_if_eq hx hb hdg ht (fun q => by simpa [a_ic, q] using kk) (fun q => by rw [← hn]; simpa [a_ic, q] using kk)
  | ne => exact lv_if_ne hx hb hdg ht (fun q => by simpa [a_ic, q] using kk) (fun q => by rw [← hn]; simpa [a_ic, q] using kk)
  | lt => exact lv_if_lt hx hb hdg ht (fun q => by simpa [a_ic, q] using kk) (fun q => by rw [← hn]; simpa [a_ic, q] using kk)
  | ge => exact lv_if_ge hx hb hdg ht (fun q => by simpa [a_ic, q] using kk) (fun q => by rw [← hn]; simpa [a_ic, q] using kk)
  | gt => exact lv_if_gt hx hb hdg ht (fun q => by simpa [a_ic, q] using kk) (fun q => by rw [← hn]; simpa [a_ic, q] using kk)
  | le => exact lv_if_le hx hb hdg ht (fun q => by simpa [a_ic, q] using kk) (fun q => by rw [← hn]; simpa [a_ic, q] using kk)
theorem a_s2_ok (hx : p.tables.exec = Jvm.exec) (hb : c.code = cc) {ins : Instr} {len : Nat} {aux : aX} {i i' : Nat} (hdg : decode cc (pf i) = .ok (ins, len)) (hk : a_k2 ins len aux pf i = true)
    {L L' : aL} {st st' : List Value} {h h' : List aC} (hs : a_s2 ins aux i L st h = some (true, i', L', st', h'))
    (kk : L' = L → h' = h → W p l e R s m args below meth c H locs cells slots Q (F0 m (pf i') ls (st'.map (a_cv B ad)))) :
    W p l e R s m args below meth c H locs cells slots Q (F0 m (pf i) ls (st.map (a_cv B ad))) := by
  unfold a_s2 at hs
  split at hs
  case h_1 off =>
    simp only [a_k2, Bool.and_eq_true, beq_iff_eq] at hk
    obtain ⟨rfl, hk⟩ := hk
    split at hs
    · simp only [decide_eq_true_eq] at hk
      cases hs
      exact lv_goto hx hb hdg hk (kk rfl rfl)
    · cases hs
  case h_2 cd off =>
    simp only [a_k2, Bool.and_eq_true, beq_iff_eq] at hk
    obtain ⟨⟨rfl, hn⟩, hk⟩ := hk
    split at hs
    · simp only [decide_eq_true_eq] at hk
      cases hs
      exact a_ic_ok hx hb hdg hk hn (kk rfl rfl)
    · cases hs
  case h_3 cd off =>
    simp only [a_k2, Bool.and_eq_true, beq_iff_eq] at hk
    obtain ⟨⟨rfl, hn⟩, hk⟩ := hk
    split at hs
    · simp only [decide_eq_true_eq] at hk
      cases hs
      exact a_if_ok hx hb hdg hk hn (kk rfl rfl)
    · cases hs
  case h_4 off =>
    simp only [a_k2, Bool.and_eq_true, beq_iff_eq] at hk
    obtain ⟨⟨rfl, hn⟩, hk⟩ := hk
    split at hs
    · simp only [decide_eq_true_eq] at hk
      cases hs
      exact lv_ifnullN hx hb hdg hk (kk rfl rfl)
    · cases hs
      exact lv_ifnull hx hb hdg (by rw [← hn]; exact kk rfl rfl)
    · cases hs
  case h_5 off =>
    simp only [a_k2, Bool.and_eq_true, beq_iff_eq] at hk
    obtain ⟨⟨rfl, hn⟩, hk⟩ := hk
    split at hs
    · cases hs
      exact lv_ifnonnullN hx hb hdg (by rw [← hn]; exact kk rfl rfl)
    · simp only [decide_eq_true_eq] at hk
      cases hs
      exact lv_ifnonnull hx hb hdg hk (kk rfl rfl)
    · cases hs
  case h_6 d lo hi offs =>
    split at hs
    · rename_i x r dt ts _
      simp only [a_k2, Bool.and_eq_true, decide_eq_true_eq, List.all_eq_true] at hk
      obtain ⟨⟨⟨hd, hl⟩, hlen⟩, ha⟩ := hk
      cases hs
      by_cases hout : x.toInt < lo ∨ hi < x.toInt
      · refine lv_tableOut hx hb hdg hout hd ?_
        simpa [a_tsw, hout] using kk rfl rfl
      · have h1 : ¬ x.toInt < lo := fun q => hout (Or.inl q)
        have h2 : ¬ hi < x.toInt := fun q => hout (Or.inr q)
        have hlt : (x.toInt - lo).toNat < offs.toList.length := by omega
        have hlt2 : (x.toInt - lo).toNat < ts.length := by omega
        have ho : offs[(x.toInt - lo).toNat]? = some (offs.toList[(x.toInt - lo).toNat]) := by rw [← Array.getElem?_toList, List.getElem?_eq_getElem hlt]
        have hz : (offs.toList[(x.toInt - lo).toNat], ts[(x.toInt - lo).toNat]) ∈ offs.toList.zip ts := by
          refine List.mem_of_getElem? (i := (x.toInt - lo).toNat) ?_
          rw [List.getElem?_zip_eq_some]
          exact ⟨List.getElem?_eq_getElem hlt, List.getElem?_eq_getElem hlt2⟩
        have ht := ha _ hz
        refine lv_tableIn hx hb hdg h1 h2 ho ht ?_
        have hk := kk rfl rfl
        simp only [a_tsw, if_neg hout] at hk
        rw [List.getD_eq_getElem?_getD, List.getElem?_eq_getElem hlt2] at hk
        exact hk
    · cases hs
  case h_7 d ps =>
    split at hs
    · rename_i x r dt ts _
      simp only [a_k2, Bool.and_eq_true, decide_eq_true_eq] at hk
      obtain ⟨⟨⟨hd, hp⟩, hlen⟩, ha⟩ := hk
      cases hs
      refine lv_lookup hx hb hdg hp rfl (a_lsw_ok hd x ps.toList ts hlen (fun q hq => by simpa using List.all_eq_true.mp ha q hq)) (kk rfl rfl)
    · cases hs
  case h_8 => cases hs
end AR
end
section
/-! 04.heap: our heap in the machine's; rows of fields and arrays -/
def a_cA (B : Nat) (x : vp_A) : vp_A := match x with
  | (n, .inr (.inr (.inr (.inr f)))) => (n, .inr (.inr (.inr (.inr (fun j => (f j).map (fun q => B + q))))))
  | (n, .inr (.inr (.inr (.inl f)))) => (n, .inr (.inr (.inr (.inl f))))
  | (n, .inr (.inr (.inl f))) => (n, .inr (.inr (.inl f)))
  | (n, .inr (.inl f)) => (n, .inr (.inl f))
  | (n, .inl f) => (n, .inl f)
def a_cE (B : Nat) (ad : Nat → Nat) (dA : Nat → ClassId) (x : aC) : va_E := match x with
  | .inl (k, x) => .inl (dA k, a_cA B x)
  | .inr (ci, fs) => .inr (ci, fs.map (a_cv B ad))
/-- the heap h of ours lies in H from B on, and nothing is behind it -/
def a_hp (B : Nat) (ad : Nat → Nat) (D : va_G) (dA : Nat → ClassId) (cl : List vw_C) (h : List aC) (H : Heap) : Prop :=
  H.size = B + h.length ∧ ∀ (j : Nat) (x : aC), h[j]? = some x → va_at D cl (B + j, a_cE B ad dA x) H
def a_tys (dA : Nat → ClassId) (E : String) : List (ClassId × FieldType) := [(dA 0, .int), (dA 1, .boolean), (dA 2, .object E)]
/-- what is asked of the table of classes -/
def a_cls (cl : List vw_C) (ty : Nat → Nat → FieldType) (df : List (List Value)) (TB : List Jvm.Cond) : Prop :=
  ∀ (ci : Nat) (C : String) (T : u_T) (N : Nat), cl[ci]? = some (C, T, N) → (∀ w ∈ u_ws C T N, w ∈ TB) ∧ (∀ k, k < N → parseFieldDescriptor (T k).2.2.1 = some (ty ci k)) ∧ (∀ a, a < N → ∀ b, b < N → a ≠ b → (T a).2.1 ≠ (T b).2.1) ∧ ∀ fs, df[ci]? = some fs → fs.length = N ∧ (∀ j, j < N → defaultValue (ty ci j) = vp_V fs j) ∧ ∀ v ∈ fs, v = .int 0 ∨ v = .null
theorem a_hp_P {B : Nat} {ad : Nat → Nat} {D : va_G} {dA : Nat → ClassId} {cl : List vw_C} {h : List aC} {H : Heap} {j : Nat} {x : aC} (hh : a_hp B ad D dA cl h H) (hj : h[j]? = some x) : va_P D cl [(B + j, a_cE B ad dA x)] H := by
  intro k q hq
  match k, hq with
  | 0, hq => cases hq; exact hh.2 j x hj
  | k + 1, hq => simp at hq
theorem a_hp_set {B : Nat} {ad : Nat → Nat} {D : va_G} {dA : Nat → ClassId} {cl : List vw_C} {h : List aC} {H H1 : Heap} {j : Nat} {x y : aC} (hh : a_hp B ad D dA cl h H) (hj : h[j]? = some x) (z : H1.size = H.size) (oq : ∀ q : Nat, q ≠ B + j → H1[q]? = H[q]?) (he : va_at D cl (B + j, a_cE B ad dA y) H1) : a_hp B ad D dA cl (h.set j y) H1 := by
  refine ⟨by rw [z, hh.1, List.length_set], fun k w hk => ?_⟩
  by_cases hjk : j = k
  · subst hjk
    rw [List.getElem?_set_self (List.getElem?_eq_some_iff.mp hj).1] at hk
    cases hk
    exact he
  · rw [List.getElem?_set_ne hjk] at hk
    exact (hh.2 k w hk).kept (oq (B + k) (by omega))
theorem a_hp_push {B : Nat} {ad : Nat → Nat} {D : va_G} {dA : Nat → ClassId} {cl : List vw_C} {h : List aC} {H H1 : Heap} {y : aC} (hh : a_hp B ad D dA cl h H) (z : H1.size = H.size + 1) (oq : ∀ q : Nat, q < H.size → H1[q]? = H[q]?) (he : va_at D cl (B + h.length, a_cE B ad dA y) H1) : a_hp B ad D dA cl (h ++ [y]) H1 := by
  refine ⟨by rw [z, hh.1, List.length_append]; simp; omega, fun k w hk => ?_⟩
  by_cases hl : k < h.length
  · rw [List.getElem?_append_left hl] at hk
    exact (hh.2 k w hk).kept (oq (B + k) (by rw [hh.1]; omega))
  · rw [List.getElem?_append_right (by omega)] at hk
    have hz : k - h.length < 1 := (List.getElem?_eq_some_iff.mp hk).1
    have hk0 : k = h.length := by omega
    subst hk0
    simp at hk
    subst hk
    exact he
theorem a_S_put {B : Nat} {H0 H H1 : Heap} {locs : List Loc} {j k : Nat} (hS : va_S (fun q => B ≤ q) H0 H locs) (z : H1.size = H.size) (oq : ∀ q : Nat, q ≠ B + j → H1[q]? = H[q]?) : va_S (fun q => B ≤ q) H0 H1 (locs ++ [⟨B + j, k⟩]) := hS.put z oq (Nat.le_add_right B j)
theorem a_S_push {B : Nat} {H0 H H1 : Heap} {locs : List Loc} (hS : va_S (fun q => B ≤ q) H0 H locs) (z : H1.size = H.size + 1) (oq : ∀ q : Nat, q < H.size → H1[q]? = H[q]?) : va_S (fun q => B ≤ q) H0 H1 locs :=
  ⟨Nat.le_trans hS.1 (by omega), fun q h1 h2 => (oq q (Nat.lt_of_lt_of_le h1 hS.1)).trans (hS.2.1 q h1 h2), hS.2.2⟩
theorem a_in_ok {j : Int32} {n : Nat} (h : a_in j n = true) : vp_in j n := by
  unfold a_in at h
  simp only [Bool.and_eq_true, decide_eq_true_eq] at h
  exact fun q => q.elim h.1 (fun q => by omega)
theorem a_cv_rf (B : Nat) (ad : Nat → Nat) (r : Option Nat) : a_cv B ad (va_rf r) = va_rf (r.map (fun q => B + q)) := by cases r <;> rfl
/-- a value that fits its field -/
theorem a_fk_ok {B : Nat} {ad : Nat → Nat} {tc : Nat} {v : Value} {t : FieldType} (h : a_fk tc v = true) (ht : (tc = 0 ∧ t = .int) ∨ (tc = 1 ∧ t = .boolean) ∨ (tc = 2 ∧ ((∃ n, t = .object n) ∨ ∃ u, t = .array u))) : narrow t (a_cv B ad v) = a_cv B ad v ∧ fits t (a_cv B ad v) = true := by
  rcases ht with ⟨rfl, rfl⟩ | ⟨rfl, rfl⟩ | ⟨rfl, ⟨n, rfl⟩ | ⟨u, rfl⟩⟩
  · cases v <;> simp [a_fk] at h
    exact ⟨rfl, rfl⟩
  · cases v <;> simp [a_fk] at h
    rcases h with rfl | rfl
    · show narrow .boolean (.int 0) = .int 0 ∧ fits .boolean (.int 0) = true
      decide
    · show narrow .boolean (.int 1) = .int 1 ∧ fits .boolean (.int 1) = true
      decide
  · cases v <;> simp [a_fk] at h
    · exact ⟨rfl, rfl⟩
    · exact ⟨rfl, rfl⟩
  · cases v <;> simp [a_fk] at h
    · exact ⟨rfl, rfl⟩
    · exact ⟨rfl, rfl⟩
section AH
variable {p : Program} {l : Launch} {e : Env} {R : Room} {s : State} {m : MethodId} {args : Array Value} {below : List Frame} {meth : Method} {c : Code} {H : Heap} {locs : List Loc} {cells slots : Nat} {Q : State → Prop}
variable {cc : ByteArray} {pc : Nat} {ls : Array Slot} {B : Nat} {ad : Nat → Nat} {D : va_G} {dA : Nat → ClassId} {cl : List vw_C} {ty : Nat → Nat → FieldType} {df : List (List Value)} {TB : List Jvm.Cond} {E : String} {H0 : Heap} {h : List aC} {rest : List Value}
theorem a_getf (hx : p.tables.exec = Jvm.exec) (hb : c.code = cc) (hcl : a_cls cl ty df TB) (hts : ∀ w ∈ TB, w.before args s = true) {own ref : String} (hown : s.vm.findClass own = some m.cls) (hK : va_K D cl (a_tys dA E) s) (hh : a_hp B ad D dA cl h H)
    {a ci index f : Nat} {fs : List Value} {v : Value} (ha : h[a]? = some (.inr (ci, fs))) {C : String} {T : u_T} {N : Nat} (hc : cl[ci]? = some (C, T, N)) (hf : f < N) (hlink : Cond.fieldLink own index ref (T f).2.1 (T f).2.2.1 ∈ TB) (hsame : (T f).1 = ref ∨ Cond.sameField ref (T f).1 (T f).2.1 (T f).2.2.1 ∈ TB) (hv : fs[f]? = some v) (hdg : decode cc pc = .ok (.getfield index, 3))
    (kk : W p l e R s m args below meth c H locs cells slots Q (F0 m (pc + 3) ls (a_cv B ad v :: rest))) : W p l e R s m args below meth c H locs cells slots Q (F0 m pc ls (.ref (B + a) :: rest)) := by
  refine va_get (D := D) (ci := ci) (T := T) (N := N) hx hb hts (hcl ci C T N hc).1 hown hK (a_hp_P hh ha) 0 rfl hc f hf (hts _ hlink) ?_ (by rw [List.getElem?_map, hv]; rfl) hdg kk
  intro x hx
  rcases hsame with q | q
  · rw [← q]; exact hx
  · exact u_same (hts _ q) x hx
theorem a_putf (hx : p.tables.exec = Jvm.exec) (hb : c.code = cc) (hcl : a_cls cl ty df TB) (hts : ∀ w ∈ TB, w.before args s = true) {own ref : String} (hown : s.vm.findClass own = some m.cls) (hK : va_K D cl (a_tys dA E) s) (hh : a_hp B ad D dA cl h H) (hS : va_S (fun q => B ≤ q) H0 H locs)
    {a ci index f : Nat} {fs : List Value} {v : Value} (ha : h[a]? = some (.inr (ci, fs))) {C : String} {T : u_T} {N : Nat} (hc : cl[ci]? = some (C, T, N)) (hf : f < N) (hlink : Cond.fieldLink own index ref (T f).2.1 (T f).2.2.1 ∈ TB) (hsame : (T f).1 = ref ∨ Cond.sameField ref (T f).1 (T f).2.1 (T f).2.2.1 ∈ TB) (hfin : (T f).2.2.2 = false ∨ ((T f).2.2.2 = true ∧ meth.name = "<init>" ∧ (T f).1 = own))
    (hn : narrow (ty ci f) (a_cv B ad v) = a_cv B ad v ∧ fits (ty ci f) (a_cv B ad v) = true) (hl : f < fs.length) (hdg : decode cc pc = .ok (.putfield index, 3))
    (kk : ∀ (H1 : Heap) (locs1 : List Loc), a_hp B ad D dA cl (h.set a (.inr (ci, fs.set f v))) H1 → va_S (fun q => B ≤ q) H0 H1 locs1 → W p l e R s m args below meth c H1 locs1 cells slots Q (F0 m (pc + 3) ls rest)) : W p l e R s m args below meth c H locs cells slots Q (F0 m pc ls (a_cv B ad v :: .ref (B + a) :: rest)) := by
  obtain ⟨hin, hty, hnm, -⟩ := hcl ci C T N hc
  have hap := va_apart (own := own) hts hin (ty ci) hty hnm hK hc
  obtain ⟨r, h1, cell, q1, q2, q3, q4⟩ := hh.2 a _ ha
  have hr : r = (C, T, N) := Option.some.inj (h1.symm.trans hc)
  subst hr
  obtain ⟨hSl, hfc, kC, hkC, hkind⟩ := hK.1 ci _ hc
  obtain ⟨cf, kf, fi, fd, hi, hsl⟩ := hSl f hf
  have hi2 : s.fieldFound? ref (T f).2.1 (T f).2.2.1 = some (cf, kf, fi, fd) := by
    rcases hsame with q | q
    · rw [← q]; exact hi
    · exact u_same (hts _ q) _ hi
  have hlay := hts _ (hin _ (u_in_lay hf))
  have hst := (u_facts hfc hkC (u_lays hts hin hf) hi).1
  have fin : ∀ H' : Heap, H'[B + a]? = some (cell.setSlot fd.slot (a_cv B ad v)) → H'.size = H.size → (∀ q, q ≠ B + a → H'[q]? = H[q]?) → W p l e R s m args below meth c H' (locs ++ [⟨B + a, fd.slot⟩]) cells slots Q (F0 m (pc + 3) ls rest) := by
    intro H' e1 e2 e3
    rw [hsl] at e1
    refine kk H' _ (a_hp_set hh ha e2 e3 ⟨_, hc, ?_⟩) (a_S_put hS e2 e3)
    refine t_OB.to (V := updV (vp_V (fs.map (a_cv B ad))) f (a_cv B ad v)) ⟨_, e1, q2, q3, t_set q4 hap hf _⟩ (fun j _ => ?_)
    rw [vp_updV_set (by rw [List.length_map]; exact hl), ← List.map_set]
  unfold u_lay at hlay
  rcases hfin with hfin | ⟨hfin, hin2, hdecl⟩
  · rw [if_neg (by rw [hfin]; decide)] at hlay
    have h6 := u_store hfc hkC hkind hlay hi (hty f hf) hn.1 hn.2
    exact W.putK hx hb (f := fd) ⟨hown, hts _ hlink, ⟨_, _, _, hi2⟩, hst⟩ (by rw [q2]; exact h6) q1 q3 (by rw [hsl]; exact k2_hasslot (q4 f hf)) rfl rfl hdg fin
  · rw [if_pos hfin] at hlay
    have hcf : m.cls = cf := by
      obtain ⟨_, _, c', _, _, _, -, -, hf', -, -, -, hown2, -⟩ := Cond.laysFinal_spec hlay
      have e1 : c' = cf := by have := hi.symm.trans hf'; simp at this; exact this.1.symm
      rw [hdecl] at hown2
      rw [← e1]; exact Option.some.inj (hown.symm.trans hown2)
    have h6 := u_fits hfc hkC hkind (Or.inr hlay) hi (hty f hf) hn.1 hn.2
    exact W.putFinK hx hb hown (hts _ hlink) hi2 hst hcf hin2 (by rw [q2]; exact h6) q1 q3 (by rw [hsl]; exact k2_hasslot (q4 f hf)) rfl rfl hdg fin
theorem a_iald (hx : p.tables.exec = Jvm.exec) (hb : c.code = cc) (hK : va_K D cl (a_tys dA E) s) (hh : a_hp B ad D dA cl h H) {a n : Nat} {f : Nat → Int32} (ha : h[a]? = some (.inl (0, n, .inl f))) {j : Int32} (hin : vp_in j n) (hdg : decode cc pc = .ok (.iaload, 1))
    (kk : W p l e R s m args below meth c H locs cells slots Q (F0 m (pc + 1) ls (.int (f j.toNatClampNeg) :: rest))) : W p l e R s m args below meth c H locs cells slots Q (F0 m pc ls (.int j :: .ref (B + a) :: rest)) :=
  va_iald hx hb hK (a_hp_P hh ha) 0 0 rfl rfl hin hdg kk
theorem a_zald (hx : p.tables.exec = Jvm.exec) (hb : c.code = cc) (hK : va_K D cl (a_tys dA E) s) (hh : a_hp B ad D dA cl h H) {a n : Nat} {f : Nat → Int32} (ha : h[a]? = some (.inl (1, n, .inl f))) {j : Int32} (hin : vp_in j n) (hdg : decode cc pc = .ok (.baload, 1))
    (kk : W p l e R s m args below meth c H locs cells slots Q (F0 m (pc + 1) ls (.int (f j.toNatClampNeg) :: rest))) : W p l e R s m args below meth c H locs cells slots Q (F0 m pc ls (.int j :: .ref (B + a) :: rest)) :=
  va_zald hx hb hK (a_hp_P hh ha) 0 1 rfl rfl hin hdg kk
theorem a_aald (hx : p.tables.exec = Jvm.exec) (hb : c.code = cc) (hK : va_K D cl (a_tys dA E) s) (hh : a_hp B ad D dA cl h H) {a n : Nat} {f : Nat → Option Nat} (ha : h[a]? = some (.inl (2, n, .inr (.inr (.inr (.inr f)))))) {j : Int32} (hin : vp_in j n) (hdg : decode cc pc = .ok (.aaload, 1))
    (kk : W p l e R s m args below meth c H locs cells slots Q (F0 m (pc + 1) ls (a_cv B ad (va_rf (f j.toNatClampNeg)) :: rest))) : W p l e R s m args below meth c H locs cells slots Q (F0 m pc ls (.int j :: .ref (B + a) :: rest)) := by
  rw [a_cv_rf] at kk
  exact va_aldq hx hb hK (a_hp_P hh ha) 0 2 rfl rfl hin hdg kk
theorem a_alen (hx : p.tables.exec = Jvm.exec) (hb : c.code = cc) (hK : va_K D cl (a_tys dA E) s) (hh : a_hp B ad D dA cl h H) {a k : Nat} {x : vp_A} (ha : h[a]? = some (.inl (k, x))) (hk : k < 3) (hdg : decode cc pc = .ok (.arraylength, 1))
    (kk : W p l e R s m args below meth c H locs cells slots Q (F0 m (pc + 1) ls (.int (Int32.ofNat x.1) :: rest))) : W p l e R s m args below meth c H locs cells slots Q (F0 m pc ls (.ref (B + a) :: rest)) := by
  have hx1 : (a_cA B x).1 = x.1 := by
    obtain ⟨n, y⟩ := x
    rcases y with f | f | f | f | f <;> rfl
  have h2 : ∃ t, (a_tys dA E)[k]? = some (dA k, t) := by
    match k, hk with
    | 0, _ => exact ⟨_, rfl⟩
    | 1, _ => exact ⟨_, rfl⟩
    | 2, _ => exact ⟨_, rfl⟩
  obtain ⟨t, h2⟩ := h2
  exact va_alen hx hb hK (a_hp_P hh ha) 0 k (x := a_cA B x) rfl h2 (by rw [hx1]) hdg kk
theorem a_iast (hx : p.tables.exec = Jvm.exec) (hb : c.code = cc) (hK : va_K D cl (a_tys dA E) s) (hh : a_hp B ad D dA cl h H) (hS : va_S (fun q => B ≤ q) H0 H locs) {a n : Nat} {f : Nat → Int32} (ha : h[a]? = some (.inl (0, n, .inl f))) {j x : Int32} (hin : vp_in j n) (hdg : decode cc pc = .ok (.iastore, 1))
    (kk : ∀ (H1 : Heap) (locs1 : List Loc), a_hp B ad D dA cl (h.set a (.inl (0, n, .inl (upd f j.toNatClampNeg x)))) H1 → va_S (fun q => B ≤ q) H0 H1 locs1 → W p l e R s m args below meth c H1 locs1 cells slots Q (F0 m (pc + 1) ls rest)) : W p l e R s m args below meth c H locs cells slots Q (F0 m pc ls (.int x :: .int j :: .ref (B + a) :: rest)) := by
  refine W.iast hx hb (hh.2 a _ ha) ((hK.2 0 (dA 0, .int) rfl).1 n (fun j => .int (f j))) (fun q => by cases q) (by show ¬ (j < 0 ∨ (arrV _ _ _).slots.size ≤ _); rw [arrV_size]; exact hin) rfl rfl hdg fun H1 e1 z oq => ?_
  refine kk H1 _ (a_hp_set hh ha z oq ?_) (a_S_put hS z oq)
  show H1[B + a]? = some (vp_cell _ (n, .inl _))
  rw [e1]
  show some ((vp_cell _ (n, .inl f)).setSlot _ _) = _
  rw [vp_cell_i, vp_cell_i, arrV_store]
  congr 2
  funext q
  by_cases hq : q = j.toNatClampNeg
  · subst hq; simp [updV, upd]
  · simp [updV, upd, hq]
theorem a_zast (hx : p.tables.exec = Jvm.exec) (hb : c.code = cc) (hK : va_K D cl (a_tys dA E) s) (hh : a_hp B ad D dA cl h H) (hS : va_S (fun q => B ≤ q) H0 H locs) {a n : Nat} {f : Nat → Int32} (ha : h[a]? = some (.inl (1, n, .inl f))) {j x : Int32} (hin : vp_in j n) (h01 : x = 0 ∨ x = 1) (hdg : decode cc pc = .ok (.bastore, 1))
    (kk : ∀ (H1 : Heap) (locs1 : List Loc), a_hp B ad D dA cl (h.set a (.inl (1, n, .inl (upd f j.toNatClampNeg x)))) H1 → va_S (fun q => B ≤ q) H0 H1 locs1 → W p l e R s m args below meth c H1 locs1 cells slots Q (F0 m (pc + 1) ls rest)) : W p l e R s m args below meth c H locs cells slots Q (F0 m pc ls (.int x :: .int j :: .ref (B + a) :: rest)) := by
  have hx1 : narrow .boolean (.int x) = .int x := by rcases h01 with rfl | rfl <;> decide
  refine W.zast hx hb (hh.2 a _ ha) ((hK.2 1 (dA 1, .boolean) rfl).1 n (fun j => .int (f j))) (fun q => by cases q) (by show ¬ (j < 0 ∨ (arrV _ _ _).slots.size ≤ _); rw [arrV_size]; exact hin) rfl rfl hdg fun H1 e1 z oq => ?_
  refine kk H1 _ (a_hp_set hh ha z oq ?_) (a_S_put hS z oq)
  show H1[B + a]? = some (vp_cell _ (n, .inl _))
  rw [e1]
  show some ((vp_cell _ (n, .inl f)).setSlot _ _) = _
  rw [vp_cell_i, vp_cell_i, arrV_store]
  congr 2
  funext q
  by_cases hq : q = j.toNatClampNeg
  · subst hq; simp [updV, upd, hx1]
  · simp [updV, upd, hq]
theorem a_aastN (hx : p.tables.exec = Jvm.exec) (hb : c.code = cc) (hK : va_K D cl (a_tys dA E) s) (hh : a_hp B ad D dA cl h H) (hS : va_S (fun q => B ≤ q) H0 H locs) {a n : Nat} {f : Nat → Option Nat} (ha : h[a]? = some (.inl (2, n, .inr (.inr (.inr (.inr f)))))) {j : Int32} (hin : vp_in j n) (hdg : decode cc pc = .ok (.aastore, 1))
    (kk : ∀ (H1 : Heap) (locs1 : List Loc), a_hp B ad D dA cl (h.set a (.inl (2, n, .inr (.inr (.inr (.inr (va_up f j.toNatClampNeg none))))))) H1 → va_S (fun q => B ≤ q) H0 H1 locs1 → W p l e R s m args below meth c H1 locs1 cells slots Q (F0 m (pc + 1) ls rest)) : W p l e R s m args below meth c H locs cells slots Q (F0 m pc ls (.null :: .int j :: .ref (B + a) :: rest)) := by
  refine va_WaastN (C := E) hx hb (hh.2 a _ ha) ((hK.2 2 (dA 2, .object E) rfl).1 n (fun j => va_rf ((f j).map (fun q => B + q)))) (fun q => by cases q) (by show ¬ (j < 0 ∨ (arrV _ _ _).slots.size ≤ _); rw [arrV_size]; exact hin) rfl rfl hdg fun H1 e1 z oq => ?_
  refine kk H1 _ (a_hp_set hh ha z oq ?_) (a_S_put hS z oq)
  show H1[B + a]? = some (vp_cell _ (n, .inr (.inr (.inr (.inr _)))))
  rw [e1]
  show some ((vp_cell _ (n, .inr (.inr (.inr (.inr (fun j => (f j).map (fun q => B + q))))))).setSlot _ _) = _
  rw [vp_cell_q, vp_cell_q, arrV_store]
  congr 2
  funext q
  by_cases hq : q = j.toNatClampNeg
  · subst hq; simp [updV, va_up, va_rf]
  · simp [updV, va_up, hq]
theorem a_aast (hx : p.tables.exec = Jvm.exec) (hb : c.code = cc) (hts : ∀ w ∈ TB, w.before args s = true) (hK : va_K D cl (a_tys dA E) s) (hh : a_hp B ad D dA cl h H) (hS : va_S (fun q => B ≤ q) H0 H locs) {a n v ci : Nat} {f : Nat → Option Nat} {vs : List Value} (ha : h[a]? = some (.inl (2, n, .inr (.inr (.inr (.inr f)))))) (hv : h[v]? = some (.inr (ci, vs))) {r : vw_C} (hc : cl[ci]? = some r) (hca : r.1 = E ∨ Cond.castable r.1 E ∈ TB) {j : Int32} (hin : vp_in j n) (hdg : decode cc pc = .ok (.aastore, 1))
    (kk : ∀ (H1 : Heap) (locs1 : List Loc), a_hp B ad D dA cl (h.set a (.inl (2, n, .inr (.inr (.inr (.inr (va_up f j.toNatClampNeg (some v)))))))) H1 → va_S (fun q => B ≤ q) H0 H1 locs1 → W p l e R s m args below meth c H1 locs1 cells slots Q (F0 m (pc + 1) ls rest)) : W p l e R s m args below meth c H locs cells slots Q (F0 m pc ls (.ref (B + v) :: .int j :: .ref (B + a) :: rest)) := by
  have hlt : j.toNatClampNeg < n := Nat.not_le.mp fun q => hin (Or.inr q)
  have h0 : ¬ j < 0 := fun q => hin (Or.inl q)
  obtain ⟨r', hr', cellV, g1, g2, g3, -⟩ := hh.2 v _ hv
  have hcls := (hK.1 ci r hc).2
  obtain ⟨kA, comp, k1, k2, k3, -⟩ := (hK.2 2 (dA 2, .object E) rfl).2
  obtain ⟨kE, hkE, -⟩ := Vm.findClass_spec k3
  obtain ⟨kC, hkC, -⟩ := hcls.2
  have hasg : s.vm.assignable (D.1 ci) comp = true := by
    rcases hca with q | q
    · have hcomp : comp = D.1 ci := Option.some.inj (k3.symm.trans (by rw [← q]; exact hcls.1))
      rw [hcomp]
      exact va_assign hcls
    · obtain ⟨c0, t1, f1, f2, f3⟩ := Cond.castable_spec (hts _ q)
      cases hcls.1.symm.trans f1
      cases k3.symm.trans f2
      exact f3
  refine W.aast hx hb (hh.2 a _ ha) (fun q h => by cases h) (fun h => by cases h) k1 k2 rfl hkE ⟨h0, by show _ < (arrV _ _ _).slots.size; rw [arrV_size]; exact hlt⟩ g1 (fun q h => by rw [g3] at h; cases h) (by rw [g2]; exact hkC) (by rw [g2]; exact hasg) rfl rfl hdg fun H1 e1 z oq => ?_
  refine kk H1 _ (a_hp_set hh ha z oq ?_) (a_S_put hS z oq)
  show H1[B + a]? = some (vp_cell _ (n, .inr (.inr (.inr (.inr _)))))
  rw [e1]
  show some ((vp_cell _ (n, .inr (.inr (.inr (.inr (fun j => (f j).map (fun q => B + q))))))).setSlot _ _) = _
  rw [vp_cell_q, vp_cell_q, arrV_store]
  congr 2
  funext q
  by_cases hq : q = j.toNatClampNeg
  · subst hq; simp [updV, va_up, va_rf]
  · simp [updV, va_up, hq]
end AH
end
section
/-! 05.make: what is made; what a row's links must be; the steps of a_s3 -/
def a_sz (x : aC) : Nat := match x with
  | .inl (_, n, _) => n
  | .inr (_, fs) => fs.length
def a_hz (h : List aC) : Nat := (h.map a_sz).sum
theorem a_hz_app (h : List aC) (x : aC) : a_hz (h ++ [x]) = a_hz h + a_sz x := by simp [a_hz]
theorem a_sum_set (l : List Nat) (j x : Nat) (hj : l[j]? = some x) : (l.set j x).sum = l.sum := by
  induction l generalizing j with
  | nil => simp at hj
  | cons y l ih =>
    cases j with
    | zero => simp at hj; simp [hj]
    | succ j => simp at hj; simp [ih j hj]
theorem a_hz_set {h : List aC} {j : Nat} {x y : aC} (hj : h[j]? = some x) (hxy : a_sz y = a_sz x) : a_hz (h.set j y) = a_hz h := by
  unfold a_hz
  rw [List.map_set, hxy]
  exact a_sum_set _ _ _ (by rw [List.getElem?_map, hj]; rfl)
def a_kf (own : String) (cl : List vw_C) (TB : List Jvm.Cond) (ix f : Nat) (cs : List Nat) (pl ps : Nat) : Bool := match TB[pl]? with
  | some (.fieldLink o i ref nm ds) => o == own && i == ix && cs.all (fun ci => match cl[ci]? with
    | some (_, T, N) => decide (f < N) && (T f).2.1 == nm && (T f).2.2.1 == ds && ((T f).1 == ref || decide (TB[ps]? = some (Jvm.Cond.sameField ref (T f).1 nm ds)))
    | none => false)
  | _ => false
theorem a_kf_ok {own : String} {cl : List vw_C} {TB : List Jvm.Cond} {ix f : Nat} {cs : List Nat} {pl ps ci : Nat} (h : a_kf own cl TB ix f cs pl ps = true) (hci : cs.contains ci = true) :
    ∃ (C : String) (T : u_T) (N : Nat) (ref : String), cl[ci]? = some (C, T, N) ∧ f < N ∧ Cond.fieldLink own ix ref (T f).2.1 (T f).2.2.1 ∈ TB ∧ ((T f).1 = ref ∨ Cond.sameField ref (T f).1 (T f).2.1 (T f).2.2.1 ∈ TB) := by
  unfold a_kf at h
  split at h
  · rename_i o i ref nm ds hl
    simp only [Bool.and_eq_true, beq_iff_eq, List.all_eq_true] at h
    obtain ⟨⟨rfl, rfl⟩, ha⟩ := h
    have h1 := ha ci (by simpa using hci)
    split at h1
    · rename_i C T N hc
      simp only [Bool.and_eq_true, beq_iff_eq, decide_eq_true_eq, Bool.or_eq_true] at h1
      obtain ⟨⟨⟨h2, rfl⟩, rfl⟩, h5⟩ := h1
      exact ⟨C, T, N, ref, hc, h2, List.mem_of_getElem? hl, h5.imp id (fun q => List.mem_of_getElem? q)⟩
    · cases h1
  · cases h
/-- a kind of value for a kind of field -/
def a_kt (tc : Nat) (t : Option FieldType) : Bool := match tc, t with
  | 0, some .int => true
  | 1, some .boolean => true
  | 2, some (.object _) => true
  | 2, some (.array _) => true
  | _, _ => false
theorem a_kt_ok {tc : Nat} {t : FieldType} (h : a_kt tc (some t) = true) : (tc = 0 ∧ t = .int) ∨ (tc = 1 ∧ t = .boolean) ∨ (tc = 2 ∧ ((∃ n, t = .object n) ∨ ∃ u, t = .array u)) := by
  unfold a_kt at h
  split at h
  · rename_i e; cases e; exact Or.inl ⟨rfl, rfl⟩
  · rename_i e; cases e; exact Or.inr (Or.inl ⟨rfl, rfl⟩)
  · rename_i e; cases e; exact Or.inr (Or.inr ⟨rfl, Or.inl ⟨_, rfl⟩⟩)
  · rename_i e; cases e; exact Or.inr (Or.inr ⟨rfl, Or.inr ⟨_, rfl⟩⟩)
  · cases h
def a_kp (own : String) (isI : Bool) (cl : List vw_C) (f tc : Nat) (cs : List Nat) : Bool := cs.all (fun ci => match cl[ci]? with
  | some (_, T, _) => a_kt tc (parseFieldDescriptor (T f).2.2.1) && ((T f).2.2.2 == false || (isI && (T f).1 == own))
  | none => false)
def a_kc (cl : List vw_C) (TB : List Jvm.Cond) (nm : String) (ps : List Nat) (ci : Nat) : Bool := match cl[ci]? with
  | some (C, _, _) => C == nm || ps.any (fun q => decide (TB[q]? = some (Jvm.Cond.castable C nm)))
  | none => false
theorem a_kc_ok {cl : List vw_C} {TB : List Jvm.Cond} {nm : String} {ps : List Nat} {ci : Nat} (h : a_kc cl TB nm ps ci = true) : ∃ r : vw_C, cl[ci]? = some r ∧ (r.1 = nm ∨ Cond.castable r.1 nm ∈ TB) := by
  unfold a_kc at h
  split at h
  · rename_i C T N hc
    simp only [Bool.or_eq_true, beq_iff_eq, List.any_eq_true, decide_eq_true_eq] at h
    exact ⟨_, hc, h.imp id (fun ⟨q, _, hq⟩ => List.mem_of_getElem? hq)⟩
  · cases h
def a_kn (cl : List vw_C) (NC : List (String × String)) (nm : String) (ci : Nat) : Bool := match cl[ci]? with
  | some (C, _, _) => NC.contains (C, nm)
  | none => false
/-- what a row of a_s3 must link -/
def a_k3 (own : String) (isI : Bool) (cl : List vw_C) (TB : List Jvm.Cond) (E : String) (NC : List (String × String)) (SR : List (String × Nat × String × Nat)) (ins : Instr) (len : Nat) (cst : Int32) (aux : aX) : Bool := match ins with
  | .getfield ix => len == 3 && match aux with
    | [f, _] :: cs :: [pl, ps] :: _ => a_kf own cl TB ix f cs pl ps
    | _ => false
  | .putfield ix => len == 3 && match aux with
    | [f, tc] :: cs :: [pl, ps] :: _ => a_kf own cl TB ix f cs pl ps && a_kp own isI cl f tc cs
    | _ => false
  | .iaload => len == 1
  | .iastore => len == 1
  | .baload => len == 1
  | .bastore => len == 1
  | .aaload => len == 1
  | .aastore => len == 1 && match aux with
    | cs :: ps :: _ => cs.all (a_kc cl TB E ps)
    | _ => false
  | .arraylength => len == 1
  | .new ix => len == 3 && match aux with
    | [ci] :: [p1, p2, p3] :: _ => match cl[ci]? with
      | some (C, _, N) => decide (TB[p1]? = some (Jvm.Cond.classLink own ix C)) && decide (TB[p2]? = some (Jvm.Cond.instantiable C N)) && decide (TB[p3]? = some (Jvm.Cond.initialized C))
      | none => false
    | _ => false
  | .newarray t => len == 2 && match aux with
    | [p1] :: _ => decide (TB[p1]? = some (Jvm.Cond.arrayClass (newarray.typeOf t)))
    | _ => false
  | .anewarray ix => len == 3 && match aux with
    | [p1, p2] :: _ => decide (TB[p1]? = some (Jvm.Cond.classLink own ix E)) && decide (TB[p2]? = some (Jvm.Cond.arrayOver (.object E)))
    | _ => false
  | .instanceof ix => len == 3 && match aux with
    | ys :: ns :: (pl :: ps) :: _ => match TB[pl]? with
      | some (.classLink o i nm) => o == own && i == ix && ys.all (a_kc cl TB nm ps) && ns.all (a_kn cl NC nm)
      | _ => false
    | _ => false
  | .ldc ix => len == 2 && match aux with
    | [k] :: [q] :: _ => match SR[q]? with
      | some (o, i, _, k') => o == own && i == ix && k' == k
      | none => false
    | _ => false
  | .ldc2_w ix => len == 3 && match aux with
    | [q] :: _ => decide (TB[q]? = some (Jvm.Cond.constantLong own ix cst.toInt64))
    | _ => false
  | _ => false
section AH
variable {p : Program} {l : Launch} {e : Env} {R : Room} {s : State} {m : MethodId} {args : Array Value} {below : List Frame} {meth : Method} {c : Code} {H : Heap} {locs : List Loc} {cells slots : Nat} {Q : State → Prop}
variable {cc : ByteArray} {pc : Nat} {ls : Array Slot} {B : Nat} {ad : Nat → Nat} {D : va_G} {dA : Nat → ClassId} {cl : List vw_C} {ty : Nat → Nat → FieldType} {df : List (List Value)} {TB : List Jvm.Cond} {E : String} {H0 : Heap} {h : List aC} {rest : List Value}
theorem a_recv (hK : va_K D cl (a_tys dA E) s) (hh : a_hp B ad D dA cl h H) {a ci : Nat} {fs : List Value} (ha : h[a]? = some (.inr (ci, fs))) {r : vw_C} (hc : cl[ci]? = some r) : ∃ cell : Cell, H[B + a]? = some cell ∧ cell.vm.isStatics = false ∧ s.vm.findClass r.1 = some cell.cls :=
  va_recv hK (a_hp_P hh ha) (ci := ci) (q0 := 0) hc rfl
theorem a_new (hx : p.tables.exec = Jvm.exec) (hb : c.code = cc) (hcl : a_cls cl ty df TB) (hts : ∀ w ∈ TB, w.before args s = true) {own : String} (hown : s.vm.findClass own = some m.cls) (hK : va_K D cl (a_tys dA E) s) (hh : a_hp B ad D dA cl h H) (hS : va_S (fun q => B ≤ q) H0 H locs)
    {ci ix : Nat} {fs : List Value} {C : String} {T : u_T} {N : Nat} (hc : cl[ci]? = some (C, T, N)) (hd : df[ci]? = some fs) (h1 : Cond.classLink own ix C ∈ TB) (h2 : Cond.instantiable C N ∈ TB) (h3 : Cond.initialized C ∈ TB) (hcells : cells + 1 ≤ R.cells) (hslots : slots + N ≤ R.slots) (hdg : decode cc pc = .ok (.new ix, 3))
    (kk : ∀ H1 : Heap, a_hp B ad D dA cl (h ++ [.inr (ci, fs)]) H1 → va_S (fun q => B ≤ q) H0 H1 locs → W p l e R s m args below meth c H1 locs (cells + 1) (slots + N) Q (F0 m (pc + 3) ls (.ref (B + h.length) :: rest))) : W p l e R s m args below meth c H locs cells slots Q (F0 m pc ls rest) := by
  obtain ⟨hin, hty, hnm, hdf⟩ := hcl ci C T N hc
  obtain ⟨-, hfs, hno⟩ := hdf fs hd
  have hKn := hK.1 ci _ hc
  have hmap : fs.map (a_cv B ad) = fs := by
    conv => rhs; rw [← List.map_id fs]
    refine List.map_congr_left (fun v hv => ?_)
    rcases hno v hv with rfl | rfl <;> rfl
  refine W.newcK hx hb hown (hts _ h1) (hts _ h2) (hts _ h3) rfl hdg hcells hslots hKn.2.1 hh.1 fun H1 kC hkC e1 z1 o1 => ?_
  rw [← hh.1] at z1 o1
  refine kk H1 (a_hp_push hh z1 o1 ⟨_, hc, ?_⟩) (a_S_push hS z1 o1)
  have h9 := (u_born (ty ci) hts hin hKn hkC e1 hty).to hfs
  simpa only [hmap] using h9
theorem a_newi (hx : p.tables.exec = Jvm.exec) (hb : c.code = cc) (hts : ∀ w ∈ TB, w.before args s = true) (hK : va_K D cl (a_tys dA E) s) (hh : a_hp B ad D dA cl h H) (hS : va_S (fun q => B ≤ q) H0 H locs)
    {n : Int32} (h1 : Cond.arrayClass .int ∈ TB) (hn : ¬ n < 0) (hN : n.toNatClampNeg ≤ 1000) (hcells : cells + 1 ≤ R.cells) (hslots : slots + n.toNatClampNeg ≤ R.slots) (hdg : decode cc pc = .ok (.newarray .int, 2))
    (kk : ∀ H1 : Heap, a_hp B ad D dA cl (h ++ [.inl (0, n.toNatClampNeg, .inl (fun _ => 0))]) H1 → va_S (fun q => B ≤ q) H0 H1 locs → W p l e R s m args below meth c H1 locs (cells + 1) (slots + n.toNatClampNeg) Q (F0 m (pc + 2) ls (.ref (B + h.length) :: rest))) : W p l e R s m args below meth c H locs cells slots Q (F0 m pc ls (.int n :: rest)) := by
  refine va_newaK (atype := .int) hx hb (hts _ h1) rfl hdg rfl hn rfl (by show _ * 4 ≤ _; omega) hcells hslots hh.1 fun H1 cA e1 z1 o1 hAr hNm => ?_
  rw [← hh.1] at z1 o1
  have hcA : cA = dA 0 := Option.some.inj (hNm.symm.trans (hK.2 0 (dA 0, .int) rfl).2)
  subst hcA
  exact kk H1 (a_hp_push hh z1 o1 e1) (a_S_push hS z1 o1)
theorem a_newz (hx : p.tables.exec = Jvm.exec) (hb : c.code = cc) (hts : ∀ w ∈ TB, w.before args s = true) (hK : va_K D cl (a_tys dA E) s) (hh : a_hp B ad D dA cl h H) (hS : va_S (fun q => B ≤ q) H0 H locs)
    {n : Int32} (h1 : Cond.arrayClass .boolean ∈ TB) (hn : ¬ n < 0) (hN : n.toNatClampNeg ≤ 1000) (hcells : cells + 1 ≤ R.cells) (hslots : slots + n.toNatClampNeg ≤ R.slots) (hdg : decode cc pc = .ok (.newarray .boolean, 2))
    (kk : ∀ H1 : Heap, a_hp B ad D dA cl (h ++ [.inl (1, n.toNatClampNeg, .inl (fun _ => 0))]) H1 → va_S (fun q => B ≤ q) H0 H1 locs → W p l e R s m args below meth c H1 locs (cells + 1) (slots + n.toNatClampNeg) Q (F0 m (pc + 2) ls (.ref (B + h.length) :: rest))) : W p l e R s m args below meth c H locs cells slots Q (F0 m pc ls (.int n :: rest)) := by
  refine va_newaK (atype := .boolean) hx hb (hts _ h1) rfl hdg rfl hn rfl (by show _ * 1 ≤ _; omega) hcells hslots hh.1 fun H1 cA e1 z1 o1 hAr hNm => ?_
  rw [← hh.1] at z1 o1
  have hcA : cA = dA 1 := Option.some.inj (hNm.symm.trans (hK.2 1 (dA 1, .boolean) rfl).2)
  subst hcA
  exact kk H1 (a_hp_push hh z1 o1 e1) (a_S_push hS z1 o1)
theorem a_newq (hx : p.tables.exec = Jvm.exec) (hb : c.code = cc) (hts : ∀ w ∈ TB, w.before args s = true) {own : String} (hown : s.vm.findClass own = some m.cls) (hK : va_K D cl (a_tys dA E) s) (hh : a_hp B ad D dA cl h H) (hS : va_S (fun q => B ≤ q) H0 H locs)
    {n : Int32} {ix : Nat} (h1 : Cond.classLink own ix E ∈ TB) (h2 : Cond.arrayOver (.object E) ∈ TB) (hn : ¬ n < 0) (hN : n.toNatClampNeg ≤ 1000) (hcells : cells + 1 ≤ R.cells) (hslots : slots + n.toNatClampNeg ≤ R.slots) (hdg : decode cc pc = .ok (.anewarray ix, 3))
    (kk : ∀ H1 : Heap, a_hp B ad D dA cl (h ++ [.inl (2, n.toNatClampNeg, .inr (.inr (.inr (.inr (fun _ => none)))))]) H1 → va_S (fun q => B ≤ q) H0 H1 locs → W p l e R s m args below meth c H1 locs (cells + 1) (slots + n.toNatClampNeg) Q (F0 m (pc + 3) ls (.ref (B + h.length) :: rest))) : W p l e R s m args below meth c H locs cells slots Q (F0 m pc ls (.int n :: rest)) := by
  refine W.anew hx hb hown (hts _ h1) (hts _ h2) rfl hdg rfl hn (by omega) hcells hslots fun cA kA comp f1 f2 f3 f4 => ?_
  generalize hH1 : H.push ({ cls := cA, slots := Array.replicate n.toNatClampNeg .null, vm := .none } : Cell) = H1
  have z1 : H1.size = H.size + 1 := by rw [← hH1, Array.size_push]
  have e1 : H1[H.size]? = some (arrV cA n.toNatClampNeg (fun _ => .null)) := by rw [← hH1, Array.getElem?_push_size, ← arrV_new]
  have o1 : ∀ q : Nat, q < H.size → H1[q]? = H[q]? := fun q hq => by rw [← hH1, Array.getElem?_push, if_neg (Nat.ne_of_lt hq)]
  obtain ⟨_, _, -, -, -, hNm⟩ := (hK.2 2 (dA 2, .object E) rfl).2
  have hcA : cA = dA 2 := Option.some.inj (f1.symm.trans hNm)
  subst hcA
  have hz := hh.1
  rw [show ({ F0 m pc ls (.int n :: rest) with pc := pc + 3, stack := .ref H.size :: rest } : JFrame) = F0 m (pc + 3) ls (.ref (B + h.length) :: rest) by rw [hz]]
  refine kk H1 (a_hp_push hh z1 o1 ?_) (a_S_push hS z1 o1)
  show H1[B + h.length]? = some (vp_cell _ _)
  rw [← hz]
  exact e1
end AH
end
section
/-! 06.step3: the steps of a_s3 -/
section AH
variable {p : Program} {l : Launch} {e : Env} {R : Room} {s : State} {m : MethodId} {args : Array Value} {below : List Frame} {meth : Method} {c : Code} {H : Heap} {locs : List Loc} {cells slots : Nat} {Q : State → Prop}
variable {cc : ByteArray} {pc : Nat} {ls : Array Slot} {B : Nat} {ad : Nat → Nat} {D : va_G} {dA : Nat → ClassId} {cl : List vw_C} {ty : Nat → Nat → FieldType} {df : List (List Value)} {TB : List Jvm.Cond} {E : String} {h : List aC} {NC : List (String × String)} {SR : List (String × Nat × String × Nat)} {sc : Nat × (Nat → Int32)}
theorem a_s3_ok (hx : p.tables.exec = Jvm.exec) (hb : c.code = cc) (hcl : a_cls cl ty df TB) (hts : ∀ w ∈ TB, w.before args s = true) {own : String} (hown : s.vm.findClass own = some m.cls) (hK : va_K D cl (a_tys dA E) s)
    (hnc : ∀ q ∈ NC, va_Nc q.1 q.2 s) (hsr : ∀ q ∈ SR, vk_R q.1 q.2.1 q.2.2.1 (ad q.2.2.2) s) (hX : va_X (ad 50) sc.1 sc.2 s s.heap) (hbl : ad 50 < s.heap.size ∧ ad 50 < B) {isI : Bool} (hI : isI = true → meth.name = "<init>")
    {ins : Instr} {len : Nat} {cst : Int32} {aux : aX} (hdg : decode cc pc = .ok (ins, len)) (hk : a_k3 own isI cl TB E NC SR ins len cst aux = true)
    (hh : a_hp B ad D dA cl h H) (hS : va_S (fun q => B ≤ q) s.heap H locs)
    {i i' : Nat} {L L' : aL} {st st' : List Value} {h' : List aC} (hs : a_s3 df sc ins cst aux i L st h = some (true, i', L', st', h'))
    (hR : cells + (h'.length - h.length) ≤ R.cells ∧ slots + (a_hz h' - a_hz h) ≤ R.slots)
    (kk : ∀ (H' : Heap) (locs' : List Loc), i' = i + 1 → L' = L → h.length ≤ h'.length → a_hz h ≤ a_hz h' → a_hp B ad D dA cl h' H' → va_S (fun q => B ≤ q) s.heap H' locs' → W p l e R s m args below meth c H' locs' (cells + (h'.length - h.length)) (slots + (a_hz h' - a_hz h)) Q (F0 m (pc + len) ls (st'.map (a_cv B ad)))) :
    W p l e R s m args below meth c H locs cells slots Q (F0 m pc ls (st.map (a_cv B ad))) := by
  have same : ∀ (H' : Heap) (locs' : List Loc), i' = i + 1 → L' = L → h'.length = h.length → a_hz h' = a_hz h → a_hp B ad D dA cl h' H' → va_S (fun q => B ≤ q) s.heap H' locs' → W p l e R s m args below meth c H' locs' cells slots Q (F0 m (pc + len) ls (st'.map (a_cv B ad))) := by
    intro H' locs' e1 e2 e3 e4 e5 e6
    have := kk H' locs' e1 e2 (by omega) (by omega) e5 e6
    rwa [show cells + (h'.length - h.length) = cells by omega, show slots + (a_hz h' - a_hz h) = slots by omega] at this
  unfold a_s3 at hs
  split at hs
  case h_1 ix =>
    simp only [a_k3, Bool.and_eq_true, beq_iff_eq] at hk
    obtain ⟨rfl, hk⟩ := hk
    split at hs
    · rename_i a r f cs r2
      split at hs
      · rename_i ci fs ha
        split at hs
        · rename_i v hv
          simp only [Option.some.injEq, Prod.mk.injEq] at hs
          obtain ⟨hg, rfl, rfl, rfl, rfl⟩ := hs
          split at hk
          · rename_i f' t' cs' pl ps r3 heq
            cases heq
            obtain ⟨C, T, N, ref, h1, h2, h3, h4⟩ := a_kf_ok hk hg
            exact a_getf hx hb hcl hts hown hK hh ha h1 h2 h3 h4 hv hdg (same H locs rfl rfl rfl rfl hh hS)
          · cases hk
        · cases hs
      · cases hs
    · cases hs
  case h_2 ix =>
    simp only [a_k3, Bool.and_eq_true, beq_iff_eq] at hk
    obtain ⟨rfl, hk⟩ := hk
    split at hs
    · rename_i v a r f t cs r2
      split at hs
      · rename_i ci fs ha
        simp only [Option.some.injEq, Prod.mk.injEq, Bool.and_eq_true, decide_eq_true_eq] at hs
        obtain ⟨⟨⟨hg, hfl⟩, hfk⟩, rfl, rfl, rfl, rfl⟩ := hs
        split at hk
        · rename_i f' t' cs' pl ps r3 heq
          cases heq
          simp only [Bool.and_eq_true] at hk
          obtain ⟨C, T, N, ref, h1, h2, h3, h4⟩ := a_kf_ok hk.1 hg
          have h5 := hk.2
          unfold a_kp at h5
          simp only [List.all_eq_true] at h5
          have h6 := h5 ci (by simpa using hg)
          rw [h1] at h6
          simp only [Bool.and_eq_true, Bool.or_eq_true, beq_iff_eq] at h6
          have h7 : parseFieldDescriptor (T f).2.2.1 = some (ty ci f) := (hcl ci C T N h1).2.1 f h2
          rw [h7] at h6
          have h8 : (T f).2.2.2 = false ∨ ((T f).2.2.2 = true ∧ meth.name = "<init>" ∧ (T f).1 = own) := by
            rcases h6.2 with q | q
            · exact Or.inl q
            · cases h9 : (T f).2.2.2 with
              | false => exact Or.inl rfl
              | true => exact Or.inr ⟨rfl, hI q.1, q.2⟩
          refine a_putf hx hb hcl hts hown hK hh hS ha h1 h2 h3 h4 h8 (a_fk_ok hfk (a_kt_ok h6.1)) hfl hdg (fun H1 locs1 hh1 hS1 => ?_)
          exact same H1 locs1 rfl rfl (List.length_set ..) (a_hz_set ha (by simp [a_sz])) hh1 hS1
        · cases hk
      · cases hs
    · cases hs
  case h_3 =>
    simp only [a_k3, beq_iff_eq] at hk
    subst hk
    split at hs
    · rename_i j a r
      split at hs
      · rename_i n f ha
        simp only [Option.some.injEq, Prod.mk.injEq] at hs
        obtain ⟨hg, rfl, rfl, rfl, rfl⟩ := hs
        exact a_iald hx hb hK hh ha (a_in_ok hg) hdg (same H locs rfl rfl rfl rfl hh hS)
      · cases hs
    · rename_i j r
      simp only [Option.some.injEq, Prod.mk.injEq] at hs
      obtain ⟨hg, rfl, rfl, rfl, rfl⟩ := hs
      exact va_sld hx hb hX hbl.1 (fun q : B ≤ ad 50 => by omega) hS (a_in_ok hg) hdg (same H locs rfl rfl rfl rfl hh hS)
    · cases hs
  case h_4 =>
    simp only [a_k3, beq_iff_eq] at hk
    subst hk
    split at hs
    · rename_i x j a r
      split at hs
      · rename_i n f ha
        simp only [Option.some.injEq, Prod.mk.injEq] at hs
        obtain ⟨hg, rfl, rfl, rfl, rfl⟩ := hs
        refine a_iast hx hb hK hh hS ha (a_in_ok hg) hdg (fun H1 locs1 hh1 hS1 => ?_)
        exact same H1 locs1 rfl rfl (List.length_set ..) (a_hz_set ha rfl) hh1 hS1
      · cases hs
    · cases hs
  case h_5 =>
    simp only [a_k3, beq_iff_eq] at hk
    subst hk
    split at hs
    · rename_i j a r
      split at hs
      · rename_i n f ha
        simp only [Option.some.injEq, Prod.mk.injEq] at hs
        obtain ⟨hg, rfl, rfl, rfl, rfl⟩ := hs
        exact a_zald hx hb hK hh ha (a_in_ok hg) hdg (same H locs rfl rfl rfl rfl hh hS)
      · cases hs
    · cases hs
  case h_6 =>
    simp only [a_k3, beq_iff_eq] at hk
    subst hk
    split at hs
    · rename_i x j a r
      split at hs
      · rename_i n f ha
        simp only [Option.some.injEq, Prod.mk.injEq, Bool.and_eq_true, Bool.or_eq_true, decide_eq_true_eq] at hs
        obtain ⟨⟨hg, h01⟩, rfl, rfl, rfl, rfl⟩ := hs
        refine a_zast hx hb hK hh hS ha (a_in_ok hg) h01 hdg (fun H1 locs1 hh1 hS1 => ?_)
        exact same H1 locs1 rfl rfl (List.length_set ..) (a_hz_set ha rfl) hh1 hS1
      · cases hs
    · cases hs
  case h_7 =>
    simp only [a_k3, beq_iff_eq] at hk
    subst hk
    split at hs
    · rename_i j a r
      split at hs
      · rename_i n f ha
        simp only [Option.some.injEq, Prod.mk.injEq] at hs
        obtain ⟨hg, rfl, rfl, rfl, rfl⟩ := hs
        exact a_aald hx hb hK hh ha (a_in_ok hg) hdg (same H locs rfl rfl rfl rfl hh hS)
      · cases hs
    · cases hs
  case h_8 =>
    simp only [a_k3, Bool.and_eq_true, beq_iff_eq] at hk
    obtain ⟨rfl, hk⟩ := hk
    split at hs
    · rename_i v j a r cs r2
      split at hs
      · rename_i n f ci vs ha hv
        simp only [Option.some.injEq, Prod.mk.injEq, Bool.and_eq_true] at hs
        obtain ⟨⟨hg, hcs⟩, rfl, rfl, rfl, rfl⟩ := hs
        split at hk
        · rename_i cs' ps r3 heq
          cases heq
          simp only [List.all_eq_true] at hk
          obtain ⟨q, hq, hca⟩ := a_kc_ok (hk ci (by simpa using hcs))
          refine a_aast hx hb hts hK hh hS ha hv hq hca (a_in_ok hg) hdg (fun H1 locs1 hh1 hS1 => ?_)
          exact same H1 locs1 rfl rfl (List.length_set ..) (a_hz_set ha rfl) hh1 hS1
        · cases hk
      · cases hs
    · rename_i j a r
      split at hs
      · rename_i n f ha
        simp only [Option.some.injEq, Prod.mk.injEq] at hs
        obtain ⟨hg, rfl, rfl, rfl, rfl⟩ := hs
        refine a_aastN hx hb hK hh hS ha (a_in_ok hg) hdg (fun H1 locs1 hh1 hS1 => ?_)
        exact same H1 locs1 rfl rfl (List.length_set ..) (a_hz_set ha rfl) hh1 hS1
      · cases hs
    · cases hs
  case h_9 =>
    simp only [a_k3, beq_iff_eq] at hk
    subst hk
    split at hs
    · rename_i a r
      split at hs
      · rename_i k x ha
        simp only [Option.some.injEq, Prod.mk.injEq, decide_eq_true_eq] at hs
        obtain ⟨hg, rfl, rfl, rfl, rfl⟩ := hs
        exact a_alen hx hb hK hh ha hg hdg (same H locs rfl rfl rfl rfl hh hS)
      · cases hs
    · rename_i r
      cases hs
      exact va_slen hx hb hX hbl.1 (fun q : B ≤ ad 50 => by omega) hS hdg (same H locs rfl rfl rfl rfl hh hS)
    · cases hs
  case h_10 ix =>
    simp only [a_k3, Bool.and_eq_true, beq_iff_eq] at hk
    obtain ⟨rfl, hk⟩ := hk
    split at hs
    · rename_i ci r2
      split at hs
      · rename_i fs hd
        cases hs
        split at hk
        · rename_i ci' p1 p2 p3 r3 heq
          cases heq
          split at hk
          · rename_i C T N hc
            simp only [Bool.and_eq_true, decide_eq_true_eq] at hk
            have hz : a_hz (h ++ [.inr (ci, fs)]) - a_hz h = N := by
              rw [a_hz_app]; show _ + fs.length - _ = _; rw [((hcl ci C T N hc).2.2.2 fs hd).1]; omega
            have hz1 : (h ++ [(.inr (ci, fs) : aC)]).length - h.length = 1 := by simp
            rw [hz, hz1] at hR
            refine a_new hx hb hcl hts hown hK hh hS hc hd (List.mem_of_getElem? hk.1.1) (List.mem_of_getElem? hk.1.2) (List.mem_of_getElem? hk.2) hR.1 hR.2 hdg (fun H1 hh1 hS1 => ?_)
            have := kk H1 locs rfl rfl (by simp) (by rw [a_hz_app]; omega) hh1 hS1
            rw [hz, hz1] at this
            exact this
          · cases hk
        · cases hk
      · cases hs
    · cases hs
  case h_11 t =>
    simp only [a_k3, Bool.and_eq_true, beq_iff_eq] at hk
    obtain ⟨rfl, hk⟩ := hk
    split at hk
    · rename_i p1 r3
      simp only [decide_eq_true_eq] at hk
      split at hs
      · rename_i n r
        simp only [Option.some.injEq, Prod.mk.injEq, Bool.and_eq_true, decide_eq_true_eq] at hs
        obtain ⟨hg, rfl, rfl, rfl, rfl⟩ := hs
        have hz : a_hz (h ++ [.inl (0, n.toNatClampNeg, .inl (fun _ => 0))]) - a_hz h = n.toNatClampNeg := by rw [a_hz_app]; show _ + n.toNatClampNeg - _ = _; omega
        have hz1 : (h ++ [(.inl (0, n.toNatClampNeg, .inl (fun _ => 0)) : aC)]).length - h.length = 1 := by simp
        rw [hz, hz1] at hR
        refine a_newi hx hb hts hK hh hS (List.mem_of_getElem? hk) hg.1 hg.2 hR.1 hR.2 hdg (fun H1 hh1 hS1 => ?_)
        have := kk H1 locs rfl rfl (by simp) (by rw [a_hz_app]; omega) hh1 hS1
        rw [hz, hz1] at this
        exact this
      · rename_i n r
        simp only [Option.some.injEq, Prod.mk.injEq, Bool.and_eq_true, decide_eq_true_eq] at hs
        obtain ⟨hg, rfl, rfl, rfl, rfl⟩ := hs
        have hz : a_hz (h ++ [.inl (1, n.toNatClampNeg, .inl (fun _ => 0))]) - a_hz h = n.toNatClampNeg := by rw [a_hz_app]; show _ + n.toNatClampNeg - _ = _; omega
        have hz1 : (h ++ [(.inl (1, n.toNatClampNeg, .inl (fun _ => 0)) : aC)]).length - h.length = 1 := by simp
        rw [hz, hz1] at hR
        refine a_newz hx hb hts hK hh hS (List.mem_of_getElem? hk) hg.1 hg.2 hR.1 hR.2 hdg (fun H1 hh1 hS1 => ?_)
        have := kk H1 locs rfl rfl (by simp) (by rw [a_hz_app]; omega) hh1 hS1
        rw [hz, hz1] at this
        exact this
      · cases hs
    · cases hk
  case h_12 ix =>
    simp only [a_k3, Bool.and_eq_true, beq_iff_eq] at hk
    obtain ⟨rfl, hk⟩ := hk
    split at hk
    · rename_i p1 p2 r3
      simp only [Bool.and_eq_true, decide_eq_true_eq] at hk
      split at hs
      · rename_i n r
        simp only [Option.some.injEq, Prod.mk.injEq, Bool.and_eq_true, decide_eq_true_eq] at hs
        obtain ⟨hg, rfl, rfl, rfl, rfl⟩ := hs
        have hz : a_hz (h ++ [.inl (2, n.toNatClampNeg, .inr (.inr (.inr (.inr (fun _ => none)))))]) - a_hz h = n.toNatClampNeg := by rw [a_hz_app]; show _ + n.toNatClampNeg - _ = _; omega
        have hz1 : (h ++ [(.inl (2, n.toNatClampNeg, .inr (.inr (.inr (.inr (fun _ => none))))) : aC)]).length - h.length = 1 := by simp
        rw [hz, hz1] at hR
        refine a_newq hx hb hts hown hK hh hS (List.mem_of_getElem? hk.1) (List.mem_of_getElem? hk.2) hg.1 hg.2 hR.1 hR.2 hdg (fun H1 hh1 hS1 => ?_)
        have := kk H1 locs rfl rfl (by simp) (by rw [a_hz_app]; omega) hh1 hS1
        rw [hz, hz1] at this
        exact this
      · cases hs
    · cases hk
  case h_13 ix =>
    simp only [a_k3, Bool.and_eq_true, beq_iff_eq] at hk
    obtain ⟨rfl, hk⟩ := hk
    split at hs
    · cases hs
      exact lv_instN hx hb hdg (same H locs rfl rfl rfl rfl hh hS)
    · rename_i a r ys ns r2
      split at hs
      · rename_i ci fs ha
        simp only [Option.some.injEq, Prod.mk.injEq, Bool.or_eq_true] at hs
        obtain ⟨hg, rfl, rfl, rfl, rfl⟩ := hs
        split at hk
        · rename_i ys' ns' pl ps r3 heq
          cases heq
          split at hk
          · rename_i o i3 nm hpl
            simp only [Bool.and_eq_true, beq_iff_eq, List.all_eq_true] at hk
            obtain ⟨⟨⟨rfl, rfl⟩, hys⟩, hns⟩ := hk
            have hlk := hts _ (List.mem_of_getElem? hpl)
            have same1 := same H locs rfl rfl rfl rfl hh hS
            by_cases hy : ys.contains ci = true
            · obtain ⟨q, hq, hca⟩ := a_kc_ok (hys ci (by simpa using hy))
              rw [hy] at same1
              rcases hca with hca | hca
              · subst hca
                exact va_instS hx hb hown hlk (hK.1 ci q hq).2 (a_recv hK hh ha hq) hdg same1
              · exact va_instY hx hb hown hlk (va_Nw.of rfl (hts _ hca)) (a_recv hK hh ha hq) hdg same1
            · have hn : ns.contains ci = true := hg.resolve_left hy
              have h1 := hns ci (by simpa using hn)
              rw [Bool.not_eq_true] at hy
              rw [hy] at same1
              unfold a_kn at h1
              split at h1
              · rename_i C T N hc
                exact va_instNo hx hb hown hlk (hnc (C, nm) (by simpa using h1)) (a_recv hK hh ha hc) hdg same1
              · cases h1
          · cases hk
        · cases hk
      · cases hs
    · cases hs
  case h_14 ix =>
    simp only [a_k3, Bool.and_eq_true, beq_iff_eq] at hk
    obtain ⟨rfl, hk⟩ := hk
    split at hs
    · rename_i k r2
      cases hs
      split at hk
      · rename_i k' q r3 heq
        cases heq
        split at hk
        · rename_i o i3 tx k2 hq
          simp only [Bool.and_eq_true, beq_iff_eq] at hk
          obtain ⟨⟨rfl, rfl⟩, rfl⟩ := hk
          exact va_ldcS hx hb hown (hsr _ (List.mem_of_getElem? hq)) hdg (same H locs rfl rfl rfl rfl hh hS)
        · cases hk
      · cases hk
    · cases hs
  case h_15 ix =>
    simp only [a_k3, Bool.and_eq_true, beq_iff_eq] at hk
    obtain ⟨rfl, hk⟩ := hk
    cases hs
    split at hk
    · rename_i q r3
      simp only [decide_eq_true_eq] at hk
      exact lv_ldc2 hx hb hown (hts _ (List.mem_of_getElem? hk)) hdg (same H locs rfl rfl rfl rfl hh hS)
    · cases hk
  case h_16 => cases hs
end AH
end
section
/-! 07.step4: Math.max and min, arraycopy, Object(); String constants and statics -/
def a_k4 (own : String) (TB : List Jvm.Cond) (ins : Instr) (len : Nat) (aux : aX) : Bool := match ins with
  | .invokestatic ix => len == 3 && match aux with
    | [1] :: [p1, p2, p3, p4] :: _ => decide (TB[p1]? = some (Jvm.Cond.methodLink own ix Lib.Math.max.name)) && decide (TB[p2]? = some (Jvm.Cond.static Lib.Math.max.name)) && decide (TB[p3]? = some (Jvm.Cond.initialized "java/lang/Math")) && decide (TB[p4]? = some (Jvm.Cond.code Lib.Math.max.name Lib.Math.max.code 2 (some .int)))
    | [2] :: [p1, p2, p3, p4] :: _ => decide (TB[p1]? = some (Jvm.Cond.methodLink own ix Lib.Math.min.name)) && decide (TB[p2]? = some (Jvm.Cond.static Lib.Math.min.name)) && decide (TB[p3]? = some (Jvm.Cond.initialized "java/lang/Math")) && decide (TB[p4]? = some (Jvm.Cond.code Lib.Math.min.name Lib.Math.min.code 2 (some .int)))
    | [3] :: [p1, p2, p3, p4] :: _ => decide (TB[p1]? = some (Jvm.Cond.methodLink own ix arraycopyName)) && decide (TB[p2]? = some (Jvm.Cond.native arraycopyName)) && decide (TB[p3]? = some (Jvm.Cond.static arraycopyName)) && decide (TB[p4]? = some (Jvm.Cond.initialized "java/lang/System"))
    | _ => false
  | .invokespecial ix => len == 3 && match aux with
    | [1] :: [p1, p2, p3] :: _ => decide (TB[p1]? = some (Jvm.Cond.methodLink own ix objectInit)) && decide (TB[p2]? = some (Jvm.Cond.instanceMethod objectInit)) && decide (TB[p3]? = some (Jvm.Cond.code objectInit ⟨#[0xb1]⟩ 1 none))
    | _ => false
  | _ => false
def a_k5 (own : String) (TB : List Jvm.Cond) (sv : List (String × String × String × Value)) (ins : Instr) (len : Nat) (aux : aX) : Bool := match ins with
  | .getfield ix => len == 3 && match aux with
    | [0, 9] :: [p1] :: _ => decide (TB[p1]? = some (Jvm.Cond.fieldLink own ix "java/lang/String" "value" "[B"))
    | [1, 9] :: [p1] :: _ => decide (TB[p1]? = some (Jvm.Cond.fieldLink own ix "java/lang/String" "coder" "B"))
    | _ => false
  | .arraylength => len == 1
  | .baload => len == 1
  | .getstatic ix => len == 3 && match aux with
    | [j] :: [p1] :: _ => match sv[j]? with
      | some (C, n, d, _) => decide (TB[p1]? = some (Jvm.Cond.fieldLink own ix C n d))
      | none => false
    | _ => false
  | .i2c => len == 1
  | _ => false
theorem a_catmap (B : Nat) (ad : Nat → Nat) (r : List Value) : ((r.map (a_cv B ad)).map fun v => v.category).sum = (r.map fun v => v.category).sum := by
  rw [List.map_map]
  congr 1
  exact List.map_congr_left (fun v _ => a_cv_cat B ad v)
section AH
variable {p : Program} {l : Launch} {e : Env} {R : Room} {s : State} {m : MethodId} {args : Array Value} {below : List Frame} {meth : Method} {c : Code} {H : Heap} {locs : List Loc} {cells slots : Nat} {Q : State → Prop}
variable {cc : ByteArray} {pc : Nat} {ls : Array Slot} {B : Nat} {ad : Nat → Nat} {D : va_G} {dA : Nat → ClassId} {cl : List vw_C} {TB : List Jvm.Cond} {E : String} {h : List aC} {H0 : Heap}
theorem a_copy (hx : p.tables.exec = Jvm.exec) (hb : c.code = cc) (hml : c.maxLocals = ls.size) {own : String} (hown : s.vm.findClass own = some m.cls) (hts : ∀ w ∈ TB, w.before args s = true) {ix : Nat} (h1 : Cond.methodLink own ix arraycopyName ∈ TB) (h2 : Cond.native arraycopyName ∈ TB) (h3 : Cond.static arraycopyName ∈ TB) (h4 : Cond.initialized "java/lang/System" ∈ TB)
    (hK : va_K D cl (a_tys dA E) s) (hh : a_hp B ad D dA cl h H) (hS : va_S (fun q => B ≤ q) H0 H locs) {a0 a n0 n1 : Nat} {f g : Nat → Int32} (ha0 : h[a0]? = some (.inl (0, n0, .inl f))) (ha : h[a]? = some (.inl (0, n1, .inl g)))
    {sp dp n : Int32} (q1 : ¬ sp < 0) (q2 : ¬ dp < 0) (q3 : ¬ n < 0) (q4 : sp.toNatClampNeg + n.toNatClampNeg ≤ n0) (q5 : dp.toNatClampNeg + n.toNatClampNeg ≤ n1) {rest : List Value}
    (hframes : 1 ≤ R.frames) (hlocals : (rest.map fun v => v.category).sum + (nativeFrameWords "java/lang/System" "arraycopy" 5 + 11) ≤ R.locals) (hdg : decode cc pc = .ok (.invokestatic ix, 3))
    (kk : ∀ (H1 : Heap) (locs1 : List Loc), a_hp B ad D dA cl (h.set a (.inl (0, n1, .inl (va_cpy f g sp.toNatClampNeg dp.toNatClampNeg n.toNatClampNeg)))) H1 → va_S (fun q => B ≤ q) H0 H1 locs1 → W p l e R s m args below meth c H1 locs1 cells slots Q (F0 m (pc + 3) ls rest)) : W p l e R s m args below meth c H locs cells slots Q (F0 m pc ls (.int n :: .int dp :: .ref (B + a) :: .int sp :: .ref (B + a0) :: rest)) := by
  have nn : ∀ z : Int32, ¬ z < 0 → z.toInt = (z.toNatClampNeg : Int) := by
    intro z hz
    have hz0 : (0 : Int) ≤ z.toInt := by simpa using Int32.le_iff_toInt_le.mp (Int32.not_lt.mp hz)
    show z.toInt = ((z.toInt.toNat : Nat) : Int)
    omega
  have hc0 : H[B + a0]? = some (vp_cell (dA 0) (n0, .inl f)) := hh.2 a0 _ ha0
  have hc1 : H[B + a]? = some (vp_cell (dA 0) (n1, .inl g)) := hh.2 a _ ha
  obtain ⟨-, k0, hk0, cm0, hkk0⟩ := (hK.2 0 (dA 0, .int) rfl).1 n0 (fun j => .int (f j))
  obtain ⟨-, k1, hk1, cm1, hkk1⟩ := (hK.2 0 (dA 0, .int) rfl).1 n1 (fun j => .int (g j))
  intro T hT X
  obtain ⟨vm', X', step⟩ := X.arraycopy hx hown (hts _ h1) (hts _ h2) (hts _ h3) (hts _ h4) (src := B + a0) (dst := B + a) (cs := vp_cell (dA 0) (n0, .inl f)) (cd := vp_cell (dA 0) (n1, .inl g)) (srcPos := sp) (destPos := dp) (n := n) (by rw [hT]; exact hc0) (by rw [hT]; exact hc1)
    (fun _ h => by cases h) (fun _ h => by cases h) (fun h => by cases h) (fun h => by cases h) hk0 hk1 hkk0 hkk1 (by simp [refKind]) q1 q2 q3
    (by rw [nn sp q1, nn n q3]; show ¬ _ > ((arrV (dA 0) n0 (fun j => .int (f j))).slots.size : Int); rw [arrV_size]; omega)
    (by rw [nn dp q2, nn n q3]; show ¬ _ > ((arrV (dA 0) n1 (fun j => .int (g j))).slots.size : Int); rw [arrV_size]; omega)
    (fun vm₁ _ i hi => by
      have e : (vp_cell (dA 0) (n0, .inl f)).slots.getD (sp.toNatClampNeg + i) .null = .int (f (sp.toNatClampNeg + i)) := by
        show (arrV (dA 0) n0 (fun j => .int (f j))).slots.getD _ _ = _
        rw [Array.getD_eq_getD_getElem?, arrV_read _ _ (by omega)]
        rfl
      refine ⟨?_, ?_⟩
      · rw [e]
        rfl
      · rw [e]
        exact trivial)
    (g := F0 m pc ls (.int n :: .int dp :: .ref (B + a) :: .int sp :: .ref (B + a0) :: rest)) rfl (by rw [hml]) (rest := rest) rfl (by rw [hb]; exact hdg) hframes (by show 2 * 0 + _ + _ ≤ _; omega)
  have e1 : copied (vp_cell (dA 0) (n0, .inl f)) (vp_cell (dA 0) (n1, .inl g)) sp dp n = vp_cell (dA 0) (n1, .inl (va_cpy f g sp.toNatClampNeg dp.toNatClampNeg n.toNatClampNeg)) := va_copied (fun z => .int z) (dA 0) (dA 0) f g q4
  rw [e1] at X' step
  have hl : B + a < H.size := (Array.getElem?_eq_some_iff.mp hc1).1
  have hheap : ((T.setVm vm').setCell (B + a) (vp_cell (dA 0) (n1, .inl (va_cpy f g sp.toNatClampNeg dp.toNatClampNeg n.toNatClampNeg)))).heap = H.setIfInBounds (B + a) (vp_cell (dA 0) (n1, .inl (va_cpy f g sp.toNatClampNeg dp.toNatClampNeg n.toNatClampNeg))) := by rw [← hT]; rfl
  have oq : ∀ q : Nat, q ≠ B + a → (H.setIfInBounds (B + a) (vp_cell (dA 0) (n1, .inl (va_cpy f g sp.toNatClampNeg dp.toNatClampNeg n.toNatClampNeg))))[q]? = H[q]? := fun q hq => by simp [Array.getElem?_setIfInBounds, Ne.symm hq]
  have hz : (H.setIfInBounds (B + a) (vp_cell (dA 0) (n1, .inl (va_cpy f g sp.toNatClampNeg dp.toNatClampNeg n.toNatClampNeg)))).size = H.size := by simp
  obtain ⟨t, a1, b1⟩ := kk _ _ (a_hp_set hh ha hz oq (show (H.setIfInBounds (B + a) _)[B + a]? = some _ by simp [Array.getElem?_setIfInBounds, hl]; rfl)) ⟨by rw [hz]; exact hS.1, fun q g1 g2 => by
      rw [oq q (fun e => g2 (by show B ≤ q; omega))]
      exact hS.2.1 q g1 g2, fun q hq => by
      rcases List.mem_append.mp hq with h | h
      · exact hS.2.2 q h
      · obtain ⟨z, -, hz⟩ := List.mem_map.mp h
        rw [← hz]
        exact Nat.le_add_right B a⟩ _ hheap X'
  exact ⟨t, step t a1, b1⟩
theorem a_s4_ok (hx : p.tables.exec = Jvm.exec) (hb : c.code = cc) (hml : c.maxLocals = ls.size) (hts : ∀ w ∈ TB, w.before args s = true) {own : String} (hown : s.vm.findClass own = some m.cls) (hK : va_K D cl (a_tys dA E) s)
    {ins : Instr} {len : Nat} {aux : aX} (hdg : decode cc pc = .ok (ins, len)) (hk : a_k4 own TB ins len aux = true)
    (hh : a_hp B ad D dA cl h H) (hS : va_S (fun q => B ≤ q) s.heap H locs) (hfr : 1 ≤ R.frames) (hloc : 40 ≤ R.locals) (hce : cells ≤ R.cells) (hsl : slots ≤ R.slots)
    {i i' : Nat} {L L' : aL} {st st' : List Value} {h' : List aC} (hs : a_s4 ins aux i L st h = some (true, i', L', st', h'))
    (kk : ∀ (H' : Heap) (locs' : List Loc), i' = i + 1 → L' = L → h'.length = h.length → a_hz h' = a_hz h → a_hp B ad D dA cl h' H' → va_S (fun q => B ≤ q) s.heap H' locs' → W p l e R s m args below meth c H' locs' cells slots Q (F0 m (pc + len) ls (st'.map (a_cv B ad)))) :
    W p l e R s m args below meth c H locs cells slots Q (F0 m pc ls (st.map (a_cv B ad))) := by
  have hcp : nativeFrameWords "java/lang/System" "arraycopy" 5 + 11 ≤ 32 := by decide +kernel
  unfold a_s4 at hs
  split at hs
  case h_1 ix =>
    simp only [a_k4, Bool.and_eq_true, beq_iff_eq] at hk
    obtain ⟨rfl, hk⟩ := hk
    split at hs
    · split at hk
      · rename_i p1 p2 p3 p4 r4 heq
        simp only [Bool.and_eq_true, decide_eq_true_eq] at hk
        split at hs
        · simp only [Option.some.injEq, Prod.mk.injEq, decide_eq_true_eq] at hs
          obtain ⟨hg, rfl, rfl, rfl, rfl⟩ := hs
          exact va_mmax hx hb hml hown (hts _ (List.mem_of_getElem? hk.1.1.1)) (hts _ (List.mem_of_getElem? hk.1.1.2)) (hts _ (List.mem_of_getElem? hk.1.2)) (hts _ (List.mem_of_getElem? hk.2)) hfr (by rw [a_catmap]; omega) hce hsl hdg (kk H locs rfl rfl rfl rfl hh hS)
        · cases hs
      · rename_i heq; cases heq
      · rename_i heq; cases heq
      · cases hk
    · split at hk
      · rename_i heq; cases heq
      · rename_i p1 p2 p3 p4 r4 heq
        simp only [Bool.and_eq_true, decide_eq_true_eq] at hk
        split at hs
        · simp only [Option.some.injEq, Prod.mk.injEq, decide_eq_true_eq] at hs
          obtain ⟨hg, rfl, rfl, rfl, rfl⟩ := hs
          exact va_mmin hx hb hml hown (hts _ (List.mem_of_getElem? hk.1.1.1)) (hts _ (List.mem_of_getElem? hk.1.1.2)) (hts _ (List.mem_of_getElem? hk.1.2)) (hts _ (List.mem_of_getElem? hk.2)) hfr (by rw [a_catmap]; omega) hce hsl hdg (kk H locs rfl rfl rfl rfl hh hS)
        · cases hs
      · rename_i heq; cases heq
      · cases hk
    · split at hk
      · rename_i heq; cases heq
      · rename_i heq; cases heq
      · rename_i p1 p2 p3 p4 r4 heq
        simp only [Bool.and_eq_true, decide_eq_true_eq] at hk
        split at hs
        · split at hs
          · rename_i n0 f n1 g hb0 ha0
            simp only [Option.some.injEq, Prod.mk.injEq, Bool.and_eq_true, decide_eq_true_eq] at hs
            obtain ⟨hg, rfl, rfl, rfl, rfl⟩ := hs
            refine a_copy hx hb hml hown hts (List.mem_of_getElem? hk.1.1.1) (List.mem_of_getElem? hk.1.1.2) (List.mem_of_getElem? hk.1.2) (List.mem_of_getElem? hk.2) hK hh hS hb0 ha0 hg.1.1.1.1.2 hg.1.1.1.2 hg.1.1.2 hg.1.2 hg.2 hfr (by rw [a_catmap]; omega) hdg (fun H1 locs1 hh1 hS1 => ?_)
            exact kk H1 locs1 rfl rfl (List.length_set ..) (a_hz_set ha0 rfl) hh1 hS1
          · cases hs
        · cases hs
      · cases hk
    · cases hs
  case h_2 ix =>
    simp only [a_k4, Bool.and_eq_true, beq_iff_eq] at hk
    obtain ⟨rfl, hk⟩ := hk
    split at hs
    · split at hk
      · rename_i p1 p2 p3 r4 heq
        simp only [Bool.and_eq_true, decide_eq_true_eq] at hk
        split at hs
        · simp only [Option.some.injEq, Prod.mk.injEq, decide_eq_true_eq] at hs
          obtain ⟨hg, rfl, rfl, rfl, rfl⟩ := hs
          rename_i a r
          refine W.objInit hx hb hown (hts _ (List.mem_of_getElem? hk.1.1)) (hts _ (List.mem_of_getElem? hk.1.2)) (hts _ (List.mem_of_getElem? hk.2)) rfl hml.symm rfl hdg hfr ?_ ?_
          · show 2 * 0 + ((r.map (a_cv B ad)).map fun v => v.category).sum + 12 ≤ _
            rw [a_catmap]; omega
          · exact kk H locs rfl rfl rfl rfl hh hS
        · cases hs
      · cases hk
    · cases hs
  case h_3 => cases hs
end AH
end
section
/-! 08.step5: String constants and statics; returns -/
/-- what is known of a state at a method's entry, apart from the words -/
def a_wor (B : Nat) (ad : Nat → Nat) (D : va_G) (dA : Nat → ClassId) (cl : List vw_C) (E : String) (NC : List (String × String)) (SR : List (String × Nat × String × Nat)) (tx : List (List Int32)) (sv : List (String × String × String × Value)) (sc : Nat × (Nat → Int32)) (s : State) : Prop :=
  va_K D cl (a_tys dA E) s ∧ (∀ q ∈ NC, va_Nc q.1 q.2 s) ∧ (∀ q ∈ SR, vk_R q.1 q.2.1 q.2.2.1 (ad q.2.2.2) s) ∧ (va_X (ad 50) sc.1 sc.2 s s.heap ∧ ad 50 < s.heap.size ∧ ad 50 < B) ∧
  vk_S tx.length (tx.map List.length) tx ad (fun k => ad (100 + k)) (fun q => B ≤ q) s s.heap ∧ (∀ q ∈ sv, va_Z q.1 q.2.1 q.2.2.1 (a_cv B ad q.2.2.2) (fun q => B ≤ q) s s.heap) ∧ ∀ q ∈ sv, ∀ k, q.2.2.2 = .retAddr k → k = 60
theorem a_wor_to {B : Nat} {ad : Nat → Nat} {D : va_G} {dA : Nat → ClassId} {cl : List vw_C} {E : String} {NC : List (String × String)} {SR : List (String × Nat × String × Nat)} {tx : List (List Int32)} {sv : List (String × String × String × Value)} {sc : Nat × (Nat → Int32)} {s U : State} {H : Heap} {locs : List Loc}
    (h : a_wor B ad D dA cl E NC SR tx sv sc s) (hW : s.WarmedH U.vm) (hU : U.heap = H) (hS : va_S (fun q => B ≤ q) s.heap H locs) : a_wor B ad D dA cl E NC SR tx sv sc U := by
  obtain ⟨h1, h2, h3, ⟨⟨scr, x1, x2, x3, x4, x5⟩, h4b, h4c⟩, h5, h6, h7⟩ := h
  subst hU
  have hq : ∀ a : Nat, a < s.heap.size → ¬ B ≤ a → U.heap[a]? = s.heap[a]? := hS.2.1
  refine ⟨va_K.moved hW.alike h1, fun q hq => (h2 q hq).moved hW.alike, fun q hq => (h3 q hq).warm hW, ⟨⟨scr, by rw [hq _ h4b (by omega)]; exact x1, State.isArrayOf_alike hW.alike x2, x3, x4, x5⟩, Nat.lt_of_lt_of_le h4b hS.1, h4c⟩, (h5.kept hq).moved hW.alike, fun q hq2 => ((h6 q hq2).kept hq).moved hW.alike, h7⟩
theorem a_wor_same {B : Nat} {ad : Nat → Nat} {D : va_G} {dA : Nat → ClassId} {cl : List vw_C} {E : String} {NC : List (String × String)} {SR : List (String × Nat × String × Nat)} {tx : List (List Int32)} {sv : List (String × String × String × Value)} {sc : Nat × (Nat → Int32)} {s U : State}
    (h : a_wor B ad D dA cl E NC SR tx sv sc s) (hv : U.vm = s.vm) (hU : U.heap = s.heap) : a_wor B ad D dA cl E NC SR tx sv sc U := by
  obtain ⟨h1, h2, h3, ⟨⟨scr, x1, x2, x3, x4, x5⟩, h4b, h4c⟩, h5, h6, h7⟩ := h
  have ha : s.vm.Alike U.vm := by rw [hv]; exact Vm.Alike.refl s.vm
  refine ⟨va_K.moved ha h1, fun q hq => (h2 q hq).moved ha, fun q hq => (h3 q hq).same hv, ⟨⟨scr, by rw [hU]; exact x1, State.isArrayOf_alike ha x2, x3, x4, x5⟩, by rw [hU]; exact h4b, h4c⟩, by rw [hU]; exact h5.moved ha, fun q hq => by rw [hU]; exact (h6 q hq).moved ha, h7⟩
section AH
variable {p : Program} {l : Launch} {e : Env} {R : Room} {s : State} {m : MethodId} {args : Array Value} {below : List Frame} {meth : Method} {c : Code} {H : Heap} {locs : List Loc} {cells slots : Nat} {Q : State → Prop}
variable {cc : ByteArray} {pc : Nat} {ls : Array Slot} {B : Nat} {ad : Nat → Nat} {TB : List Jvm.Cond} {h : List aC} {tx : List (List Int32)} {sv : List (String × String × String × Value)}
theorem a_lenD (tx : List (List Int32)) (k : Nat) : (tx.map List.length).getD k 0 = (tx.getD k []).length := by
  rw [List.getD_eq_getElem?_getD, List.getD_eq_getElem?_getD, List.getElem?_map]
  cases tx[k]? <;> rfl
theorem a_s5_ok (hx : p.tables.exec = Jvm.exec) (hb : c.code = cc) (hts : ∀ w ∈ TB, w.before args s = true) {own : String} (hown : s.vm.findClass own = some m.cls)
    (hE : vk_S tx.length (tx.map List.length) tx ad (fun k => ad (100 + k)) (fun q => B ≤ q) s s.heap) (hsv : ∀ q ∈ sv, va_Z q.1 q.2.1 q.2.2.1 (a_cv B ad q.2.2.2) (fun q => B ≤ q) s s.heap)
    {ins : Instr} {len : Nat} {aux : aX} (hdg : decode cc pc = .ok (ins, len)) (hk : a_k5 own TB sv ins len aux = true) (hS : va_S (fun q => B ≤ q) s.heap H locs)
    {i i' : Nat} {L L' : aL} {st st' : List Value} {h' : List aC} (hs : a_s5 tx sv ins aux i L st h = some (true, i', L', st', h'))
    (kk : i' = i + 1 → L' = L → h' = h → W p l e R s m args below meth c H locs cells slots Q (F0 m (pc + len) ls (st'.map (a_cv B ad)))) :
    W p l e R s m args below meth c H locs cells slots Q (F0 m pc ls (st.map (a_cv B ad))) := by
  unfold a_s5 at hs
  split at hs
  case h_1 ix =>
    simp only [a_k5, Bool.and_eq_true, beq_iff_eq] at hk
    obtain ⟨rfl, hk⟩ := hk
    split at hs
    · rename_i k r r2
      simp only [Option.some.injEq, Prod.mk.injEq, decide_eq_true_eq] at hs
      obtain ⟨hg, rfl, rfl, rfl, rfl⟩ := hs
      split at hk
      · rename_i p1 r3 heq
        simp only [decide_eq_true_eq] at hk
        exact vk_getf hx hb (hE.1 k hg).2.2.1 hS hown (hts _ (List.mem_of_getElem? hk)) (fun _ h9 => h9) hdg (kk rfl rfl rfl)
      · rename_i heq; cases heq
      · cases hk
    · rename_i k r r2
      simp only [Option.some.injEq, Prod.mk.injEq, decide_eq_true_eq] at hs
      obtain ⟨hg, rfl, rfl, rfl, rfl⟩ := hs
      split at hk
      · rename_i heq; cases heq
      · rename_i p1 r3 heq
        simp only [decide_eq_true_eq] at hk
        exact vk_getf hx hb (hE.1 k hg).2.1 hS hown (hts _ (List.mem_of_getElem? hk)) (fun _ h9 => h9) hdg (kk rfl rfl rfl)
      · cases hk
    · cases hs
  case h_2 =>
    simp only [a_k5, beq_iff_eq] at hk
    subst hk
    split at hs
    · rename_i q r
      simp only [Option.some.injEq, Prod.mk.injEq, Bool.and_eq_true, decide_eq_true_eq] at hs
      obtain ⟨hg, rfl, rfl, rfl, rfl⟩ := hs
      have h9 := (hE.1 (q - 100) hg.2).2.2.2
      simp only [show 100 + (q - 100) = q by omega] at h9
      exact va_tlen hx hb h9 hS (by rw [a_lenD]) hdg (kk rfl rfl rfl)
    · cases hs
  case h_3 =>
    simp only [a_k5, beq_iff_eq] at hk
    subst hk
    split at hs
    · rename_i j q r
      simp only [Option.some.injEq, Prod.mk.injEq, Bool.and_eq_true, decide_eq_true_eq] at hs
      obtain ⟨⟨hg, hin⟩, rfl, rfl, rfl, rfl⟩ := hs
      have h9 := (hE.1 (q - 100) hg.2).2.2.2
      simp only [show 100 + (q - 100) = q by omega] at h9
      exact va_tb hx hb h9 hS (by rw [a_lenD]; exact a_in_ok hin) rfl hdg (kk rfl rfl rfl)
    · cases hs
  case h_4 ix =>
    simp only [a_k5, Bool.and_eq_true, beq_iff_eq] at hk
    obtain ⟨rfl, hk⟩ := hk
    split at hs
    · rename_i j r2
      split at hs
      · rename_i C n d v hv
        cases hs
        split at hk
        · rename_i j' p1 r3 heq
          cases heq
          rw [hv] at hk
          simp only [decide_eq_true_eq] at hk
          exact va_gets hx hb (hsv _ (List.mem_of_getElem? hv)) hS hown (hts _ (List.mem_of_getElem? hk)) (fun _ h9 => h9) hdg (kk rfl rfl rfl)
        · cases hk
      · cases hs
    · cases hs
  case h_5 =>
    simp only [a_k5, beq_iff_eq] at hk
    subst hk
    split at hs
    · cases hs
      exact lv_i2c hx hb hdg rfl (kk rfl rfl rfl)
    · cases hs
  case h_6 => cases hs
/-- a return row: its length and the method's return type -/
def a_k6 (rt : Option FieldType) (ins : Instr) (len : Nat) (aux : aX) : Bool := len == 1 && match ins with
  | .ireturn => match aux with
    | [0] :: _ => decide (rt = some .int)
    | [1] :: _ => decide (rt = some .boolean)
    | [2] :: _ => decide (rt = some .byte)
    | [3] :: _ => decide (rt = some .char)
    | _ => false
  | .lreturn => decide (rt = some .long)
  | .areturn => match rt with
    | some (.object _) => true
    | some (.array _) => true
    | _ => false
  | .return_ => decide (rt = none)
  | _ => false
theorem a_fin_ok (hx : p.tables.exec = Jvm.exec) (hb : c.code = cc) {rt : Option FieldType} (hr : meth.sig.returnType = rt) (hlocks : meth.locks = false) {Qc : Array Value → State → Outcome → State → Prop} {free : Addr → Prop}
    {ins : Instr} {len : Nat} {aux : aX} (hdg : decode cc pc = .ok (ins, len)) (hk : a_k6 rt ins len aux = true) {st : List Value} {r : Option Value} (hs : a_fin ins aux st = some (true, r))
    (hq : ∀ t : State, t.heap = H → s.WarmedH t.vm → Qc args s (.returned (r.map (a_cv B ad))) t) (hf : ∀ q ∈ locs, free q.base) : W p l e R s m args below meth c H locs cells slots (MQ below Qc args s cells slots free) (F0 m pc ls (st.map (a_cv B ad))) := by
  subst hr
  simp only [a_k6, Bool.and_eq_true, beq_iff_eq] at hk
  obtain ⟨rfl, hk⟩ := hk
  unfold a_fin at hs
  split at hs
  · split at hs
    · rename_i x r2
      cases hs
      simp only [decide_eq_true_eq] at hk
      exact W.iret hx hb hk hq hf hdg hlocks
    · rename_i x r2
      simp only [Option.some.injEq, Prod.mk.injEq, Bool.or_eq_true, decide_eq_true_eq] at hs
      obtain ⟨h01, rfl⟩ := hs
      simp only [decide_eq_true_eq] at hk
      exact W.zret hx hb hk (by rcases h01 with rfl | rfl <;> decide) hq hf hdg hlocks
    · rename_i x r2
      simp only [Option.some.injEq, Prod.mk.injEq, decide_eq_true_eq] at hs
      obtain ⟨h01, rfl⟩ := hs
      simp only [decide_eq_true_eq] at hk
      exact W.zret hx hb hk (by show Value.int _ = _; rw [h01]) hq hf hdg hlocks
    · rename_i x r2
      simp only [Option.some.injEq, Prod.mk.injEq, decide_eq_true_eq] at hs
      obtain ⟨h01, rfl⟩ := hs
      simp only [decide_eq_true_eq] at hk
      exact W.zret hx hb hk (by show Value.int _ = _; rw [h01]) hq hf hdg hlocks
    · cases hs
  · split at hs
    · cases hs
      simp only [decide_eq_true_eq] at hk
      exact W.lret hx hb hk hq hf hdg hlocks
    · cases hs
  · have hrt : ∃ rt, meth.sig.returnType = some rt ∧ ((∃ n, rt = .object n) ∨ ∃ t, rt = .array t) := by
      cases h9 : meth.sig.returnType with
      | none => rw [h9] at hk; simp at hk
      | some t =>
        rw [h9] at hk
        cases t with
        | object n => exact ⟨_, rfl, Or.inl ⟨n, rfl⟩⟩
        | array n => exact ⟨_, rfl, Or.inr ⟨n, rfl⟩⟩
        | _ => simp at hk
    obtain ⟨t, h1, h2⟩ := hrt
    split at hs
    · cases hs
      exact W.aret hx hb h1 h2 (Or.inr ⟨_, rfl⟩) hq hf hdg hlocks
    · cases hs
      exact W.aret hx hb h1 h2 (Or.inr ⟨_, rfl⟩) hq hf hdg hlocks
    · cases hs
      exact W.aret hx hb h1 h2 (Or.inl rfl) hq hf hdg hlocks
    · cases hs
  · split at hs
    · cases hs
      simp only [decide_eq_true_eq] at hk
      exact W.vret hx hb hk hq hf hdg hlocks
    · cases hs
  · cases hs
end AH
end
section
/-! 08b.up: a static method that is named by a subclass of the class that declares it; a super call whose method stands further up -/
section AU
variable {p : Program} {l : Launch} {e : Env} {R : Room} {s : State} {m : MethodId} {args : Array Value} {below : List Frame} {meth : Method} {c : Code} {T : State} {locs : List Loc} {cells slots : Nat}
/-- what the machine asks at such a call, asked cold, is what it asks once class and method are noted -/
theorem a_upCold {Q : Unit → Pre} {X : CtlPost} {dd : Bool} {acts : List Action} {f : JFrame} {index ci n c0 : Nat} {mm : MethodId} {dk ck : Class} {cf : ClassFile} {name desc : String} (ht : T.topJava?.isSome) (hp : e.platform.polymorphicOnlyByInvokevirtual = true)
    (hW : s.WarmedH T.vm) (hE : s.MethodEntryUp e T.vm f.method.cls index c0 mm ci) (g1 : s.vm.classes[f.method.cls]? = some dk) (g2 : dk.cf = some cf) (g3 : cf.constantPool[index]? = some (.methodref ci n)) (g4 : cf.constantPool.nameAndType? n = some (name, desc))
    (g5 : s.vm.classes[c0]? = some ck) (g6 : (ck.methods.any fun z => z.name == name && !z.isStatic && signaturePolymorphic ck z) = false) :
    wp (invokestatic.sem index) Q X e dd acts (T.setTop f) ↔ wp (invokestatic.sem index) Q X e dd acts ((T.setVm (T.vm.calledUp f.method.cls ci index c0 mm)).setTop f) := by
  have hA := hE.warmed.alike
  have hcf := hE.classFirst
  obtain ⟨d0, i1, i2⟩ := hW.alike.2.2 _ _ g1
  obtain ⟨d2, i3, i4⟩ := hA.2.2 _ _ g1
  obtain ⟨c1, i5, i6⟩ := hcf.2.2.1.alike.2.2 _ _ g5
  obtain ⟨c2, i7, i8⟩ := hA.2.2 _ _ g5
  have g3' : cf.constantPool[index]? = some (if false then .interfaceMethodref ci n else .methodref ci n) := g3
  have m0 := memberRef_ask_via (e := e) i1 (by rw [i2]; exact g2) g3' g4
  have m2 := memberRef_ask_via (e := e) i3 (by rw [i4]; exact g2) g3' g4
  have n1 : (c1.methods.any fun z => z.name == name && !z.isStatic && signaturePolymorphic c1 z) = false := by rw [i6]; exact g6
  have n2 : (c2.methods.any fun z => z.name == name && !z.isStatic && signaturePolymorphic c2 z) = false := by rw [i8]; exact g6
  have t1 : (T.setVm (T.vm.noted f.method.cls ci (.cls c0))).topJava?.isSome := ht
  have t2 : (T.setVm (T.vm.calledUp f.method.cls ci index c0 mm)).topJava?.isSome := ht
  have r1 : ∀ {Q' : ClassId → Pre} {d' : Bool} {a' : List Action}, wp (Jvm.resolveClassAt ci) Q' X e d' a' (T.setTop f) ↔ Q' c0 d' a' ((T.setVm (T.vm.noted f.method.cls ci (.cls c0))).setTop f) :=
    W.resolveClassAt_links (t := T.setTop f) (State.method?_setTop f ht) hcf.1
  have r2 : ∀ {Q' : MethodId → Pre} {d' : Bool} {a' : List Action}, wp (Jvm.resolveMethodAt index) Q' X e d' a' ((T.setVm (T.vm.noted f.method.cls ci (.cls c0))).setTop f) ↔ Q' mm d' a' ((T.setVm (T.vm.calledUp f.method.cls ci index c0 mm)).setTop f) :=
    W.resolveMethodAt_links (t := (T.setVm (T.vm.noted f.method.cls ci (.cls c0))).setTop f) (State.method?_setTop f t1) hcf.2.2.2
  simp [invokestatic.sem, hp, Seam.memberRefOf, State.method?_setTop f ht, State.method?_setTop f t2, m0, m2, r1, W.resolveClassAt_ready (s := (T.setVm (T.vm.calledUp f.method.cls ci index c0 mm)).setTop f) (State.method?_setTop f t2) hE.classReady, i5, i7, n1, n2, r2, W.resolveMethodAt_ready (s := (T.setVm (T.vm.calledUp f.method.cls ci index c0 mm)).setTop f) (State.method?_setTop f t2) hE.ready, -Array.any_eq_true]
theorem a_upStatic (X : Stand p l e R s m args below meth c T locs cells slots) (hexec : p.tables.exec = Jvm.exec) {own owner : String} {index : Nat} {x : MethodName} (hown : s.vm.findClass own = some m.cls) (hlink : (Cond.methodLink own index x).before args s = true) (hsame : (Cond.sameMethod x.cls owner x.name x.desc).before args s = true)
    {m' : MethodId} {meth' : Method} {k' : Class} (hn : s.methodNamed? ⟨owner, x.name, x.desc⟩ = some m') (hm' : s.vm.method? m' = some meth') (hst : meth'.isStatic = true) (hk' : s.vm.classes[m'.cls]? = some k') (hkn : k'.name ≠ "java/lang/invoke/MethodHandle" ∧ k'.name ≠ "java/lang/invoke/VarHandle") (hini : k'.init = .initialized)
    {g : JFrame} (hg : g.method = m) {argsL rest : List Value} (hlen : argsL.length = meth'.sig.parameters.length) (hstack : g.stack = argsL.reverse ++ rest) (hdg : decode c.code g.pc = .ok (.invokestatic index, 3)) :
    ∃ vm', Stand p l e R s m args below meth c (T.setVm vm') locs cells slots ∧ ∀ target, (∀ acts, Steps p.tables e below (doInvoke e ((T.setVm vm').setTop { g with stack := rest }) acts m' argsL.toArray).1 target) → Steps p.tables e below (T.setTop g) target := by
  have hpl : e.platform.magicAccessors = ({} : Platform).magicAccessors := by rw [X.admits.platform]
  have hpv : e.platform.polymorphicOnlyByInvokevirtual = true := by rw [X.admits.platform]
  obtain ⟨c0, ck, r1, hc0, hck, hni, hfo, hn1⟩ := Cond.sameMethod_found hsame
  cases hn.symm.trans hn1
  obtain ⟨ci, hl, hri⟩ := Cond.methodLink_specUp hown hc0 hck hni hfo hlink e.platform hpl (by rw [X.admits.platform])
  have hE : s.MethodEntryUp e T.vm m.cls index c0 m' ci := State.methodEntryUp X.warmed hl hri
  obtain ⟨dk, cf, nt, nm, ds, ck', _, _, g1, g2, g3, g4, -, -, g5, -, g6, -⟩ := hl.here
  cases hck.symm.trans g5
  have hA := hE.warmed.alike
  obtain ⟨d2, i1, i2⟩ := hA.2.2 _ _ g1
  obtain ⟨k2, i3, i4⟩ := hA.2.2 _ _ hk'
  obtain ⟨c2, i5, i6⟩ := hA.2.2 _ _ hck
  have n0 : (ck.methods.any fun z => z.name == nm && !z.isStatic && signaturePolymorphic ck z) = false := by simp [g6]
  have n2 : (c2.methods.any fun z => z.name == nm && !z.isStatic && signaturePolymorphic c2 z) = false := by rw [i6]; exact n0
  have g3' : cf.constantPool[index]? = some (if false then .interfaceMethodref ci nt else .methodref ci nt) := g3
  refine ⟨T.vm.calledUp m.cls ci index c0 m', X.noted hE.warmed, fun target hrest => ?_⟩
  subst hg
  jvm_step X.here [hexec, hdg, a_upCold (e := e) (T := T) (s := s) (f := g) X.here.top hpv X.warmed hE g1 g2 g3 g4 hck n0,
    invokestatic.wp_ready (e := e) (s := T.setVm (T.vm.calledUp g.method.cls ci index c0 m')) (k := k2) (meth := meth') (m := m') (args := argsL) (rest := rest) (f := g)
      X.here.top ⟨ci, nm, ds, false, c0, c2, memberRef_ask_via (e := e) i1 (by rw [i2]; exact g2) g3' g4, hE.classReady, i5, n2⟩ hE.ready i3
      (by show (T.vm.calledUp g.method.cls ci index c0 m').method? m' = some meth'; rw [hA.method?]; exact hm') (by rw [i4]; exact signaturePolymorphic_of_name hkn meth') hst (by rw [i4]; exact hini) hlen hstack]
  exact fun acts => hrest _
theorem a_sub1 {vm : Vm} {a b : ClassId} {k : Class} (h1 : vm.classes[a]? = some k) (h2 : k.super = some b) : vm.isSubclass a b = true := by
  have hz : 0 < vm.classes.size := Nat.lt_of_le_of_lt (Nat.zero_le _) (Array.getElem?_eq_some_iff.mp h1).1
  obtain ⟨q, hq⟩ : ∃ q, vm.classes.size = q + 1 := ⟨vm.classes.size - 1, by omega⟩
  unfold Vm.isSubclass
  rw [hq]
  simp [Vm.isSubclassAux, h1, h2]
variable {H : Heap} {Ts ws : List Jvm.Cond} {cc bytes : ByteArray} {nL maxL index n mc ms : Nat} {own owner : String} {x y : MethodName} {ret : Option FieldType} {rm : Room} {Pc : Array Value → State → Prop} {Qc : Array Value → State → Outcome → State → Prop} {free : Addr → Prop} {b : Addr} {As rest : List Value} {g : JFrame}
/-- what both calls ask of the callee -/
def a_cb (R : Room) (s : State) (args : Array Value) (y : MethodName) (bytes : ByteArray) (maxL : Nat) (ret : Option FieldType) (ws : List Jvm.Cond) (rm : Room) (mc ms : Nat) : Prop :=
  rm.cells = mc ∧ rm.slots = ms ∧ rm.frames + 1 ≤ R.frames ∧ 8 + (maxL + 11) + rm.locals ≤ R.locals ∧ (∀ w ∈ ws, ∀ (a' : Array Value) (U : State), s.WarmedH U.vm → w.before a' U = true) ∧ Cond.code y bytes maxL ret ∈ ws ∧ (Cond.code y bytes maxL ret).before args s = true ∧ (Cond.initialized y.cls).before args s = true
theorem a_cb_back (h : a_cb R s args y bytes maxL ret ws rm mc ms) (hM : Met l y ws rm Pc Qc mc ms free) (hbl : FrameBlind Pc) : Back l R p e below s args y 3 8 (PreOf R mc ms Pc) (PostOf Qc mc ms free) := by
  obtain ⟨h1, h2, h3, h4, h5, h6, h7, h8⟩ := h
  exact back_of (bytes := bytes) (maxL := maxL) (ret := ret) hM hbl h1 h2 h3 h4 h5 h6 (fun a' U hW => word_at hW (Or.inl (by first | rfl | simp [Cond.onTables, Cond.keeps, Cond.steady])) h8)
theorem a_runSt (S : CallFix p m c cc nL s args Ts own) (hM : Met l y ws rm Pc Qc mc ms free) (hcb : a_cb R s args y bytes maxL ret ws rm mc ms) (hy : y = ⟨owner, x.name, x.desc⟩) (hmh : owner ≠ "java/lang/invoke/MethodHandle" ∧ owner ≠ "java/lang/invoke/VarHandle") (hlink : (Cond.methodLink own index x).before args s = true) (hsame : (Cond.sameMethod x.cls owner x.name x.desc).before args s = true) (hstat : (Cond.static y).before args s = true) (hnp : ∀ sig, parseMethodDescriptor y.desc = some sig → n = sig.parameters.length) (hp : PreS s H Pc As)
    (hg : g.method = m) (hn : As.length = n) (hsize : g.locals.size = nL) (hstack : g.stack = As.reverse ++ rest) (hW : 2 * g.monitorRoom + (rest.map fun v => v.category).sum ≤ 8) (hdg : decode cc g.pc = .ok (.invokestatic index, 3)) (hf : cells + mc ≤ R.cells ∧ slots + ms ≤ R.slots) :
    va_Run p l e R s m args below meth c H locs cells slots mc ms g rest (Qc As.toArray) free := by
  have hK : Back l R p e below s args y 3 8 (PreOf R mc ms Pc) (PostOf Qc mc ms free) := a_cb_back hcb hM hp.1
  obtain ⟨-, -, -, -, -, -, hcode, hini⟩ := hcb
  obtain ⟨hx, hb, hml, ho, -⟩ := S
  obtain ⟨mk, hnamed⟩ := Cond.code_named hcode
  obtain ⟨methM, cM, hmethM, -, -, -, -, -, -, hsigM⟩ := Cond.code_spec hnamed hcode
  have hst : methM.isStatic = true := Cond.static_spec hnamed hmethM hstat
  obtain ⟨kP, hkP, hkPn⟩ := className_of_methodNamed hnamed
  have hinitP : kP.init = .initialized := Cond.initialized_spec (findClass_of_methodNamed hnamed) hkP hini
  intro T hT X
  obtain ⟨vm₁, X₁, hstep⟩ := a_upStatic X hx ho hlink hsame (by rw [← hy]; exact hnamed) hmethM hst hkP (by rw [hkPn, hy]; exact hmh) hinitP hg (argsL := As) (rest := rest) (hn.trans (hnp _ hsigM)) hstack (by rw [hb]; exact hdg)
  obtain ⟨v, ⟨U', l2, c2, s2⟩, X', ⟨g', mk', t, L, e1, e2, hq, h1, hL, h2, h3⟩, hsteps⟩ := hK m meth c ⟨T.setVm vm₁, locs, cells, slots⟩ { g with stack := rest } (.invokestatic index) mk As.toArray X₁ hg (hsize.trans hml.symm) (by rw [hb]; exact hdg) hW (X₁.named hnamed) ⟨hf.1, hf.2, hp.2 (T.setVm vm₁) hT X₁.warmed⟩
  dsimp only [Pt.U, Pt.locs, Pt.cells, Pt.slots] at X' e1 e2 h1 h2 h3 hsteps
  subst h1; subst h2; subst h3
  exact ⟨v, (T.setVm vm₁).calling g' mk' As.toArray, t, U', L, hT, X', hL, e1, e2, hq, fun target h => hstep _ fun acts => by rw [doInvoke_state]; exact hsteps.trans h⟩
theorem a_runSp (S : CallFix p m c cc nL s args Ts own) (hM : Met l y ws rm Pc Qc mc ms free) (hcb : a_cb R s args y bytes maxL ret ws rm mc ms) (hy : y = ⟨owner, x.name, x.desc⟩) (hlink : (Cond.methodLink own index x).before args s = true) (hsame : (Cond.sameMethod x.cls owner x.name x.desc).before args s = true) (hs1 : (Cond.superclass own x.cls).before args s = true) (hs2 : (Cond.superclass x.cls owner).before args s = true) (hinst : (Cond.instanceMethod y).before args s = true) (hno : x.name ≠ "<init>") (hnp : ∀ sig, parseMethodDescriptor y.desc = some sig → n = sig.parameters.length)
    {C : String} {cC : ClassId} (hat : ClassAt s C cC) (hp : PreV s H C b Pc As)
    (hg : g.method = m) (hn : As.length = n) (hsize : g.locals.size = nL) (hstack : g.stack = As.reverse ++ .ref b :: rest) (hW : 2 * g.monitorRoom + (rest.map fun v => v.category).sum ≤ 8) (hdg : decode cc g.pc = .ok (.invokespecial index, 3)) (hf : cells + mc ≤ R.cells ∧ slots + ms ≤ R.slots) :
    va_Run p l e R s m args below meth c H locs cells slots mc ms g rest (Qc (Value.ref b :: As).toArray) free := by
  have hK : Back l R p e below s args y 3 8 (PreOf R mc ms Pc) (PostOf Qc mc ms free) := a_cb_back hcb hM hp.1
  obtain ⟨-, -, -, -, -, -, hcode, hini⟩ := hcb
  obtain ⟨hx, hb, hml, ho, -⟩ := S
  obtain ⟨mk, methM, hnamed, hmethM, hstM, habM⟩ := Cond.instanceMethod_spec hinst
  obtain ⟨methM', cM, hmethM', -, -, -, -, -, -, hsigM⟩ := Cond.code_spec hnamed hcode
  cases hmethM.symm.trans hmethM'
  obtain ⟨ps, dk, kp, hps, hdk, hkp, hsuper, -, -, hnid⟩ := Cond.superclass_spec ho hs1
  obtain ⟨po, dk2, ko, hpo, hdk2, hko, hsuper2, -, -, -⟩ := Cond.superclass_spec hps hs2
  have hpm : po = mk.cls := Option.some.inj (hpo.symm.trans (by have := findClass_of_methodNamed hnamed; rw [hy] at this; exact this))
  subst hpm
  obtain ⟨-, ⟨cellB, hcB, hoB, hclB⟩, hPc⟩ := hp
  obtain ⟨hfc, kB, hkB, -⟩ := hat
  cases hfc.symm.trans hclB
  intro T hT X
  obtain ⟨vm₁, X₁, hstep⟩ := X.invokespecialUp hx ho hlink hsame (by rw [← hy]; exact hnamed) hmethM hstM habM hno hdk hnid hps hsuper (a_sub1 hdk2 hsuper2) (a := b) (cell := cellB) (by rw [hT]; exact hcB) (fun z h => by rw [h] at hoB; cases hoB) hkB hg (argsL := As) (rest := rest) (hn.trans (hnp _ hsigM)) hstack (by rw [hb]; exact hdg)
  obtain ⟨v, ⟨U', l2, c2, s2⟩, X', ⟨g', mk', t, L, e1, e2, hq, h1, hL, h2, h3⟩, hsteps⟩ := hK m meth c ⟨T.setVm vm₁, locs, cells, slots⟩ { g with stack := rest } (.invokespecial index) mk (Value.ref b :: As).toArray X₁ hg (hsize.trans hml.symm) (by rw [hb]; exact hdg) hW (X₁.named hnamed) ⟨hf.1, hf.2, hPc (T.setVm vm₁) hT X₁.warmed⟩
  dsimp only [Pt.U, Pt.locs, Pt.cells, Pt.slots] at X' e1 e2 h1 h2 h3 hsteps
  subst h1; subst h2; subst h3
  exact ⟨v, (T.setVm vm₁).calling g' mk' (Value.ref b :: As).toArray, t, U', L, hT, X', hL, e1, e2, hq, fun target h => hstep _ (by rw [doInvoke_state]; exact hsteps.trans h)⟩
end AU
end
section
/-! 09.call: calls of methods that are walked -/
def a_mh (o : String) : Bool := decide (o ≠ "java/lang/invoke/MethodHandle") && decide (o ≠ "java/lang/invoke/VarHandle")
def a_np (y : MethodName) (n : Nat) : Bool := decide ((parseMethodDescriptor y.desc).map (fun d => d.parameters.length) = some n)
/-- an entry of a virtual call: class, method, form, places -/
def a_ke (own : String) (TB : List Jvm.Cond) (cl : List vw_C) (P : List aM) (ix n : Nat) (ent : List Nat) : Bool := match ent with
  | [ci, k, 0, p1, p2, p3, p4] => match cl[ci]?, P[k]? with
    | some (C, _, _), some (y, _, _, _, _) => decide (TB[p1]? = some (Jvm.Cond.methodLink own ix y)) && decide (TB[p2]? = some (Jvm.Cond.instanceMethod y)) && decide (TB[p3]? = some (Jvm.Cond.selects C y y)) && decide (TB[p4]? = some (Jvm.Cond.initialized C)) && decide (y.cls = C) && a_mh y.cls && a_np y n
    | _, _ => false
  | [ci, k, 1, p1, p2, p3, p4, p5] => match cl[ci]?, P[k]?, TB[p1]?, TB[p2]? with
    | some (C, _, _), some (y, _, _, _, _), some (.methodLink o i x), some (.sameMethod xc ow xn xd) => decide (o = own) && decide (i = ix) && decide (xc = x.cls) && decide (xn = x.name) && decide (xd = x.desc) && decide (TB[p3]? = some (Jvm.Cond.selects C x y)) && decide (TB[p4]? = some (Jvm.Cond.instanceMethod y)) && decide (TB[p5]? = some (Jvm.Cond.initialized y.cls)) && decide (y = ⟨ow, x.name, x.desc⟩) && a_mh ow && a_np x n
    | _, _, _, _ => false
  | [ci, k, 2, p1, p2, p3, p4, p5, p6, p7] => match cl[ci]?, P[k]?, TB[p1]?, TB[p2]?, TB[p7]? with
    | some (C, _, _), some (y, _, _, _, _), some (.methodLink o i x), some (.sameMethod xc ow xn xd), some (.code z _ _ _) => decide (o = own) && decide (i = ix) && decide (xc = x.cls) && decide (xn = x.name) && decide (xd = x.desc) && decide (TB[p3]? = some (Jvm.Cond.selects C x y)) && decide (TB[p4]? = some (Jvm.Cond.instanceMethod y)) && decide (TB[p5]? = some (Jvm.Cond.initialized y.cls)) && decide (TB[p6]? = some (Jvm.Cond.instanceMethod ⟨ow, x.name, x.desc⟩)) && decide (z = ⟨ow, x.name, x.desc⟩) && a_mh ow && a_np x n
    | _, _, _, _, _ => false
  | _ => false
def a_kq (own : String) (TB : List Jvm.Cond) (cl : List vw_C) (P : List aM) (ins : Instr) (len : Nat) (aux : aX) : Bool := len == 3 && match ins with
  | .invokestatic ix => match aux with
    | [0, k, n] :: [p1, p2, p3] :: _ => match P[k]? with
      | some (y, _, _, _, _) => decide (TB[p1]? = some (Jvm.Cond.methodLink own ix y)) && decide (TB[p2]? = some (Jvm.Cond.static y)) && decide (TB[p3]? = some (Jvm.Cond.initialized y.cls)) && a_mh y.cls && a_np y n
      | none => false
    | [6, k, n] :: [p1, p2, p3, p4] :: _ => match P[k]?, TB[p1]?, TB[p2]? with
      | some (y, _, _, _, _), some (.methodLink o i x), some (.sameMethod xc ow xn xd) => decide (o = own) && decide (i = ix) && decide (xc = x.cls) && decide (xn = x.name) && decide (xd = x.desc) && decide (TB[p3]? = some (Jvm.Cond.static y)) && decide (TB[p4]? = some (Jvm.Cond.initialized y.cls)) && decide (y = ⟨ow, x.name, x.desc⟩) && a_mh ow && a_np y n
      | _, _, _ => false
    | _ => false
  | .invokespecial ix => match aux with
    | [0, k, n] :: [p1, p2, p3] :: _ => match P[k]? with
      | some (y, _, _, rt, _) => decide (TB[p1]? = some (Jvm.Cond.methodLink own ix y)) && decide (TB[p2]? = some (Jvm.Cond.instanceMethod y)) && decide (TB[p3]? = some (Jvm.Cond.initialized y.cls)) && decide (y.name = "<init>") && decide (rt = none) && a_mh y.cls && a_np y n
      | none => false
    | [2, k, n] :: [p1, p2, p3, p4, p5] :: _ => match P[k]? with
      | some (y, _, _, _, _) => decide (TB[p1]? = some (Jvm.Cond.methodLink own ix y)) && decide (TB[p2]? = some (Jvm.Cond.sameMethod y.cls y.cls y.name y.desc)) && decide (TB[p3]? = some (Jvm.Cond.superclass own y.cls)) && decide (TB[p4]? = some (Jvm.Cond.instanceMethod y)) && decide (TB[p5]? = some (Jvm.Cond.initialized y.cls)) && decide (y.name ≠ "<init>") && a_np y n
      | none => false
    | [7, k, n] :: [p1, p2, p3, p4, p5, p6] :: _ => match P[k]?, TB[p1]?, TB[p2]? with
      | some (y, _, _, _, _), some (.methodLink o i x), some (.sameMethod xc ow xn xd) => decide (o = own) && decide (i = ix) && decide (xc = x.cls) && decide (xn = x.name) && decide (xd = x.desc) && decide (TB[p3]? = some (Jvm.Cond.superclass own x.cls)) && decide (TB[p4]? = some (Jvm.Cond.superclass x.cls ow)) && decide (TB[p5]? = some (Jvm.Cond.instanceMethod y)) && decide (TB[p6]? = some (Jvm.Cond.initialized y.cls)) && decide (y = ⟨ow, x.name, x.desc⟩) && decide (x.name ≠ "<init>") && a_np y n
      | _, _, _ => false
    | _ => false
  | .invokevirtual ix => match aux with
    | [0, n] :: vt => vt.all (a_ke own TB cl P ix n)
    | [5, k, n] :: [p1, p2, p3, p4] :: _ => match P[k]? with
      | some (y, _, _, _, _) => decide (TB[p1]? = some (Jvm.Cond.methodLink own ix y)) && decide (TB[p2]? = some (Jvm.Cond.instanceMethod y)) && decide (TB[p3]? = some (Jvm.Cond.selects "java/lang/String" y y)) && decide (TB[p4]? = some (Jvm.Cond.initialized "java/lang/String")) && decide (y.cls = "java/lang/String") && a_mh y.cls && a_np y n
      | none => false
    | _ => false
  | _ => false
theorem a_vt_mem {ci k : Nat} : ∀ {vt : aX}, a_vt ci vt = some k → ∃ tl, (ci :: k :: tl) ∈ vt := by
  intro vt
  induction vt with
  | nil => intro h; simp [a_vt] at h
  | cons x vt ih =>
    intro h
    match x, h with
    | [], h => simp [a_vt] at h
    | [_], h => simp [a_vt] at h
    | c :: k' :: tl, h =>
      simp only [a_vt] at h
      split at h
      · rename_i hc
        cases h
        subst hc
        exact ⟨tl, List.mem_cons_self⟩
      · obtain ⟨tl', h'⟩ := ih h
        exact ⟨tl', List.mem_cons_of_mem _ h'⟩
theorem a_good {TB : List Jvm.Cond} (hg : TB.all goodWord = true) : GoodIn TB TB := fun w h => ⟨h, good_of_word (List.all_eq_true.mp hg w h)⟩
theorem a_goodc {TB : List Jvm.Cond} (hg : TB.all goodWord = true) {w : Jvm.Cond} (hw : w ∈ TB) : GoodIn TB (w :: TB) := fun v h => by
  rcases List.mem_cons.mp h with rfl | h
  · exact a_good hg _ hw
  · exact a_good hg _ h
theorem a_goodl {TB ws : List Jvm.Cond} (hg : TB.all goodWord = true) (hw : ∀ w ∈ ws, w ∈ TB) : GoodIn TB ws := fun v h => a_good hg _ (hw v h)
def a_Pc (B : Nat) (ad : Nat → Nat) (D : va_G) (dA : Nat → ClassId) (cl : List vw_C) (E : String) (NC : List (String × String)) (SR : List (String × Nat × String × Nat)) (tx : List (List Int32)) (sv : List (String × String × String × Value)) (sc : Nat × (Nat → Int32)) (As : List Value) (h : List aC) : Array Value → State → Prop :=
  fun v U => v = (As.map (a_cv B ad)).toArray ∧ a_hp B ad D dA cl h U.heap ∧ a_wor B ad D dA cl E NC SR tx sv sc U
def a_Qc (B : Nat) (ad : Nat → Nat) (D : va_G) (dA : Nat → ClassId) (cl : List vw_C) (r : Option Value) (h : List aC) : Array Value → State → Outcome → State → Prop :=
  fun _ st o t => o = .returned (r.map (a_cv B ad)) ∧ a_hp B ad D dA cl h t.heap ∧ va_F (fun q => B ≤ q) st t
theorem a_blind {B : Nat} {ad : Nat → Nat} {D : va_G} {dA : Nat → ClassId} {cl : List vw_C} {E : String} {NC : List (String × String)} {SR : List (String × Nat × String × Nat)} {tx : List (List Int32)} {sv : List (String × String × String × Value)} {sc : Nat × (Nat → Int32)} {As : List Value} {h : List aC} : FrameBlind (a_Pc B ad D dA cl E NC SR tx sv sc As h) :=
  fun _ _ _ _ q => ⟨q.1, q.2.1, a_wor_same q.2.2 rfl rfl⟩
section AQ
variable {p : Program} {l : Launch} {e : Env} {R : Room} {s : State} {m : MethodId} {args : Array Value} {below : List Frame} {meth : Method} {c : Code} {H : Heap} {locs : List Loc} {cells slots : Nat} {Q : State → Prop}
variable {cc : ByteArray} {pc nL : Nat} {ls : Array Slot} {B : Nat} {ad : Nat → Nat} {D : va_G} {dA : Nat → ClassId} {cl : List vw_C} {E : String} {NC : List (String × String)} {SR : List (String × Nat × String × Nat)} {tx : List (List Int32)} {sv : List (String × String × String × Value)} {sc : Nat × (Nat → Int32)} {TB : List Jvm.Cond} {h : List aC} {P : List aM}
theorem a_stk {st : List Value} {n : Nat} : st.map (a_cv B ad) = (((st.take n).reverse).map (a_cv B ad)).reverse ++ (st.drop n).map (a_cv B ad) := by
  rw [List.map_reverse, List.reverse_reverse, ← List.map_append, List.take_append_drop]
theorem a_cal_ok (hx : p.tables.exec = Jvm.exec) (hb : c.code = cc) (hml : c.maxLocals = nL) (hsz : ls.size = nL) (hts : ∀ w ∈ TB, w.before args s = true) {own : String} (hown : s.vm.findClass own = some m.cls) (hw : a_wor B ad D dA cl E NC SR tx sv sc s) (hgd : TB.all goodWord = true)
    {ins : Instr} {len : Nat} {aux : aX} (hdg : decode cc pc = .ok (ins, len)) (hk : a_kq own TB cl P ins len aux = true) (hh : a_hp B ad D dA cl h H) (hS : va_S (fun q => B ≤ q) s.heap H locs)
    {st As rest : List Value} {k : Nat} (hc : a_cal tx.length ins aux st h = some (k, As, rest)) {y : MethodName} {bs : ByteArray} {ml : Nat} {rt : Option FieldType} {rows : List aI} (hP : P[k]? = some (y, bs, ml, rt, rows)) (hcode : Cond.code y bs ml rt ∈ TB) (hml2 : ml ≤ 20)
    {d mc ms : Nat} {h' : List aC} {r : Option Value} (hM : Met l y (Cond.code y bs ml rt :: TB) ({ frames := d, cells := mc, slots := ms, locals := 40 * d } : Room) (a_Pc B ad D dA cl E NC SR tx sv sc As h) (a_Qc B ad D dA cl r h') mc ms (fun q => B ≤ q))
    (hrest : (rest.map fun v => v.category).sum ≤ 8) (hfr : d + 1 ≤ R.frames) (hlo : 40 * (d + 1) ≤ R.locals) (hf : cells + mc ≤ R.cells ∧ slots + ms ≤ R.slots) :
    len = 3 ∧ va_Run p l e R s m args below meth c H locs cells slots mc ms (F0 m pc ls (st.map (a_cv B ad))) (rest.map (a_cv B ad)) (a_Qc B ad D dA cl r h' (As.map (a_cv B ad)).toArray) (fun q => B ≤ q) := by
  have hpre : ∀ U : State, U.heap = H → s.WarmedH U.vm → a_Pc B ad D dA cl E NC SR tx sv sc As h (As.map (a_cv B ad)).toArray U := fun U hU hW => ⟨rfl, by rw [hU]; exact hh, a_wor_to hw hW hU hS⟩
  have hR : d + 1 ≤ R.frames ∧ 8 + (ml + 11) + 40 * d ≤ R.locals := ⟨hfr, by omega⟩
  have hcb : (Cond.initialized y.cls).before args s = true → a_cb R s args y bs ml rt (Cond.code y bs ml rt :: TB) ({ frames := d, cells := mc, slots := ms, locals := 40 * d } : Room) mc ms := fun hi => ⟨rfl, rfl, hfr, hR.2, pay_in hts (a_goodc hgd hcode), List.mem_cons_self, hts _ hcode, hi⟩
  have hnp : ∀ {n : Nat}, (parseMethodDescriptor y.desc).map (fun d => d.parameters.length) = some n → ∀ sig, parseMethodDescriptor y.desc = some sig → n = sig.parameters.length := fun h2 sig h => by
    rw [h] at h2
    exact (Option.some.inj h2).symm
  have hroom : 2 * (F0 m pc ls (st.map (a_cv B ad))).monitorRoom + ((rest.map (a_cv B ad)).map fun v => v.category).sum ≤ 8 := lv_room (by rw [a_catmap]; exact hrest)
  simp only [a_kq, Bool.and_eq_true, beq_iff_eq] at hk
  obtain ⟨rfl, hk⟩ := hk
  refine ⟨rfl, ?_⟩
  unfold a_cal at hc
  split at hc
  · rename_i ix
    split at hc
    · rename_i k' n r2
      split at hc
      · rename_i hn
        cases hc
        simp only at hk
        split at hk
        · rename_i k2 n2 p1 p2 p3 r3 heq
          cases heq
          rw [hP] at hk
          simp only [Bool.and_eq_true, decide_eq_true_eq, a_mh, a_np] at hk
          obtain ⟨⟨⟨⟨k1, k2⟩, k3⟩, k4⟩, k5⟩ := hk
          refine va_runS (Ts := TB) ⟨hx, hb, hml, hown, hts⟩ hM ⟨callB_of n hts (a_goodc hgd hcode) rfl rfl rfl (hts _ (List.mem_of_getElem? k3)) (hts _ (List.mem_of_getElem? k1)) ⟨k4.1, k4.2, k5⟩ hR, hts _ (List.mem_of_getElem? k2)⟩ ⟨a_blind, hpre⟩ rfl (by simp; omega) hsz a_stk hroom hdg hf
        · rename_i heq; cases heq
        · cases hk
      · cases hc
    · rename_i k' n r2
      split at hc
      · rename_i hn
        cases hc
        simp only at hk
        split at hk
        · rename_i heq; cases heq
        · rename_i k2 n2 p1 p2 p3 p4 r3 heq
          cases heq
          split at hk
          · rename_i y' bs' ml' rt' rows' o i x xc ow xn xd hP' hp1 hp2
            cases hP.symm.trans hP'
            simp only [Bool.and_eq_true, decide_eq_true_eq, a_mh, a_np] at hk
            obtain ⟨⟨⟨⟨⟨⟨⟨⟨⟨rfl, rfl⟩, rfl⟩, rfl⟩, rfl⟩, k3⟩, k4⟩, k5⟩, k6⟩, k7⟩ := hk
            exact a_runSt (Ts := TB) ⟨hx, hb, hml, hown, hts⟩ hM (hcb (hts _ (List.mem_of_getElem? k4))) k5 k6 (hts _ (List.mem_of_getElem? hp1)) (hts _ (List.mem_of_getElem? hp2)) (hts _ (List.mem_of_getElem? k3)) (hnp k7) ⟨a_blind, hpre⟩ rfl (by simp; omega) hsz a_stk hroom hdg hf
          · cases hk
        · cases hk
      · cases hc
    · cases hc
  · rename_i ix
    split at hc
    · rename_i k' n r2
      split at hc
      · rename_i a r3 hd
        cases hc
        have hlen : n < st.length := by
          have := congrArg List.length hd
          rw [List.length_drop] at this
          simp at this
          omega
        simp only at hk
        split at hk
        · rename_i k2 n2 p1 p2 p3 r3 heq
          cases heq
          rw [hP] at hk
          simp only [Bool.and_eq_true, decide_eq_true_eq, a_mh, a_np] at hk
          obtain ⟨⟨⟨⟨⟨⟨k1, k2⟩, k3⟩, k4⟩, k5⟩, k6⟩, k7⟩ := hk
          subst k5
          refine va_runI (Ts := TB) (b := B + a) (As := ((st.take n).reverse).map (a_cv B ad)) ⟨hx, hb, hml, hown, hts⟩ hM (cwI n hts (a_goodc hgd hcode) rfl rfl rfl (hts _ (List.mem_of_getElem? k3)) (hts _ (List.mem_of_getElem? k1)) (hts _ (List.mem_of_getElem? k2)) k4 ⟨k6.1, k6.2, k7⟩ hR) ⟨a_blind, hpre⟩ rfl (by simp; omega) hsz ?_ hroom hdg hf
          show st.map (a_cv B ad) = _
          rw [a_stk (n := n), hd]; rfl
        · rename_i heq; cases heq
        · rename_i heq; cases heq
        · cases hk
      · cases hc
    · rename_i k' n r2
      split at hc
      · rename_i a r3 hd
        split at hc
        · rename_i cx ha
          obtain ⟨ci, fs⟩ := cx
          cases hc
          have hlen : n < st.length := by
            have := congrArg List.length hd
            rw [List.length_drop] at this
            simp at this
            omega
          obtain ⟨rr, hrr, -⟩ := hh.2 a _ ha
          simp only at hk
          split at hk
          · rename_i heq; cases heq
          · rename_i k2 n2 p1 p2 p3 p4 p5 r3 heq
            cases heq
            rw [hP] at hk
            simp only [Bool.and_eq_true, decide_eq_true_eq, a_np] at hk
            obtain ⟨⟨⟨⟨⟨⟨k1, k2⟩, k3⟩, k4⟩, k5⟩, k6⟩, k7⟩ := hk
            have hT : GoodIn TB (va_wsSU own ix y (Cond.code y bs ml rt :: TB)) := by
              refine a_goodl hgd (fun w hw => ?_)
              simp only [va_wsSU, List.mem_append, List.mem_cons, List.not_mem_nil, or_false] at hw
              rcases hw with (rfl | rfl | rfl | rfl | rfl) | rfl | hw
              · exact List.mem_of_getElem? k1
              · exact List.mem_of_getElem? k2
              · exact List.mem_of_getElem? k3
              · exact List.mem_of_getElem? k4
              · exact List.mem_of_getElem? k5
              · exact hcode
              · exact hw
            refine va_runSU (Ts := TB) (b := B + a) (C := rr.1) (As := ((st.take n).reverse).map (a_cv B ad)) (hw.1.1 ci rr hrr).2 ⟨hx, hb, hml, hown, hts⟩ hM (va_cwSU n hts hT rfl rfl rfl ⟨k6, k7⟩ hR) ⟨a_blind, a_recv hw.1 hh ha hrr, hpre⟩ rfl (by simp; omega) hsz ?_ hroom hdg hf
            show st.map (a_cv B ad) = _
            rw [a_stk (n := n), hd]; rfl
          · rename_i heq; cases heq
          · cases hk
        · cases hc
      · cases hc
    · rename_i k' n r2
      split at hc
      · rename_i a r3 hd
        split at hc
        · rename_i cx ha
          obtain ⟨ci, fs⟩ := cx
          cases hc
          have hlen : n < st.length := by
            have := congrArg List.length hd
            rw [List.length_drop] at this
            simp at this
            omega
          obtain ⟨rr, hrr, -⟩ := hh.2 a _ ha
          simp only at hk
          split at hk
          · rename_i heq; cases heq
          · rename_i heq; cases heq
          · rename_i k2 n2 p1 p2 p3 p4 p5 p6 r3 heq
            cases heq
            split at hk
            · rename_i y' bs' ml' rt' rows' o i x xc ow xn xd hP' hp1 hp2
              cases hP.symm.trans hP'
              simp only [Bool.and_eq_true, decide_eq_true_eq, a_np] at hk
              obtain ⟨⟨⟨⟨⟨⟨⟨⟨⟨⟨⟨rfl, rfl⟩, rfl⟩, rfl⟩, rfl⟩, k3⟩, k4⟩, k5⟩, k6⟩, k7⟩, k8⟩, k9⟩ := hk
              refine a_runSp (Ts := TB) (b := B + a) (C := rr.1) (As := ((st.take n).reverse).map (a_cv B ad)) ⟨hx, hb, hml, hown, hts⟩ hM (hcb (hts _ (List.mem_of_getElem? k6))) k7 (hts _ (List.mem_of_getElem? hp1)) (hts _ (List.mem_of_getElem? hp2)) (hts _ (List.mem_of_getElem? k3)) (hts _ (List.mem_of_getElem? k4)) (hts _ (List.mem_of_getElem? k5)) k8 (hnp k9) (hw.1.1 ci rr hrr).2 ⟨a_blind, a_recv hw.1 hh ha hrr, hpre⟩ rfl (by simp; omega) hsz ?_ hroom hdg hf
              show st.map (a_cv B ad) = _
              rw [a_stk (n := n), hd]; rfl
            · cases hk
          · cases hk
        · cases hc
      · cases hc
    · cases hc
  · rename_i ix
    split at hc
    · rename_i n vt
      split at hc
      · rename_i a r3 hd
        split at hc
        · rename_i ci fs ha
          split at hc
          · rename_i k' hvt
            cases hc
            have hlen : n < st.length := by
              have := congrArg List.length hd
              rw [List.length_drop] at this
              simp at this
              omega
            obtain ⟨tl, hmem⟩ := a_vt_mem hvt
            simp only [List.all_eq_true] at hk
            have hke := hk _ hmem
            have hstk : st.map (a_cv B ad) = (((st.take n).reverse).map (a_cv B ad)).reverse ++ (Value.ref (B + a) :: rest.map (a_cv B ad)) := by
              rw [a_stk (n := n), hd]; rfl
            unfold a_ke at hke
            split at hke
            · rename_i ci' k2 p1 p2 p3 p4 heq
              cases heq
              split at hke
              · rename_i C T N y' bs' ml' rt' rows' hcl hP'
                cases hP.symm.trans hP'
                simp only [Bool.and_eq_true, decide_eq_true_eq, a_mh, a_np] at hke
                obtain ⟨⟨⟨⟨⟨⟨k1, k2⟩, k3⟩, k4⟩, k5⟩, k6⟩, k7⟩ := hke
                have hT : GoodIn TB (wsV own ix C y (Cond.code y bs ml rt :: TB)) := by
                  refine a_goodl hgd (fun w hw => ?_)
                  simp only [wsV, List.mem_append, List.mem_cons, List.not_mem_nil, or_false] at hw
                  rcases hw with (rfl | rfl | rfl | rfl) | rfl | hw
                  · exact List.mem_of_getElem? k1
                  · exact List.mem_of_getElem? k2
                  · exact List.mem_of_getElem? k3
                  · exact List.mem_of_getElem? k4
                  · exact hcode
                  · exact hw
                exact va_runV (Ts := TB) (b := B + a) (C := C) (As := ((st.take n).reverse).map (a_cv B ad)) ⟨hx, hb, hml, hown, hts⟩ hM (cwV n hts hT rfl rfl rfl ⟨k5, k6.1, k6.2, k7⟩ hR) ⟨a_blind, a_recv hw.1 hh ha hcl, hpre⟩ rfl (by simp; omega) hsz hstk hroom hdg hf
              · cases hke
            · rename_i ci' k2 p1 p2 p3 p4 p5 heq
              cases heq
              split at hke
              · rename_i C T N y' bs' ml' rt' rows' o i x xc ow xn xd hcl hP' hp1 hp2
                cases hP.symm.trans hP'
                simp only [Bool.and_eq_true, decide_eq_true_eq, a_mh, a_np] at hke
                obtain ⟨⟨⟨⟨⟨⟨⟨⟨⟨⟨rfl, rfl⟩, rfl⟩, rfl⟩, rfl⟩, k3⟩, k4⟩, k5⟩, k6⟩, k7⟩, k8⟩ := hke
                have hT : GoodIn TB (va_wsU o i C ow x y (Cond.code y bs ml rt :: TB)) := by
                  refine a_goodl hgd (fun w hw => ?_)
                  simp only [va_wsU, List.mem_append, List.mem_cons, List.not_mem_nil, or_false] at hw
                  rcases hw with (rfl | rfl | rfl | rfl | rfl) | rfl | hw
                  · exact List.mem_of_getElem? hp1
                  · exact List.mem_of_getElem? hp2
                  · exact List.mem_of_getElem? k3
                  · exact List.mem_of_getElem? k4
                  · exact List.mem_of_getElem? k5
                  · exact hcode
                  · exact hw
                exact va_runU (Ts := TB) (b := B + a) (C := C) (As := ((st.take n).reverse).map (a_cv B ad)) ⟨hx, hb, hml, hown, hts⟩ hM (va_cwU n hts hT rfl rfl rfl k6 ⟨k7.1, k7.2, k8⟩ hR) ⟨a_blind, a_recv hw.1 hh ha hcl, hpre⟩ rfl (by simp; omega) hsz hstk hroom hdg hf
              · cases hke
            · rename_i ci' k2 p1 p2 p3 p4 p5 p6 p7 heq
              cases heq
              split at hke
              · rename_i C T N y' bs' ml' rt' rows' o i x xc ow xn xd z b0 m0 r0 hcl hP' hp1 hp2 hp7
                cases hP.symm.trans hP'
                simp only [Bool.and_eq_true, decide_eq_true_eq, a_mh, a_np] at hke
                obtain ⟨⟨⟨⟨⟨⟨⟨⟨⟨⟨⟨rfl, rfl⟩, rfl⟩, rfl⟩, rfl⟩, k3⟩, k4⟩, k5⟩, k6⟩, rfl⟩, k7⟩, k8⟩ := hke
                have hT : GoodIn TB (va_wsO o i C ow x y (Cond.code y bs ml rt :: TB)) := by
                  refine a_goodl hgd (fun w hw => ?_)
                  simp only [va_wsO, List.mem_append, List.mem_cons, List.not_mem_nil, or_false] at hw
                  rcases hw with (rfl | rfl | rfl | rfl | rfl | rfl) | rfl | hw
                  · exact List.mem_of_getElem? hp1
                  · exact List.mem_of_getElem? hp2
                  · exact List.mem_of_getElem? k6
                  · exact List.mem_of_getElem? k3
                  · exact List.mem_of_getElem? k4
                  · exact List.mem_of_getElem? k5
                  · exact hcode
                  · exact hw
                exact va_runU (Ts := TB) (b := B + a) (C := C) (As := ((st.take n).reverse).map (a_cv B ad)) ⟨hx, hb, hml, hown, hts⟩ hM (va_cwO n hts hT rfl rfl rfl (List.mem_of_getElem? hp7) ⟨k7.1, k7.2, k8⟩ hR) ⟨a_blind, a_recv hw.1 hh ha hcl, hpre⟩ rfl (by simp; omega) hsz hstk hroom hdg hf
              · cases hke
            · cases hke
          · cases hc
        · cases hc
      · cases hc
    · rename_i k' n r2
      split at hc
      · rename_i a r3 hd
        split at hc
        · rename_i hat
          cases hc
          have hlen : n < st.length := by
            have := congrArg List.length hd
            rw [List.length_drop] at this
            simp at this
            omega
          have hstk : st.map (a_cv B ad) = (((st.take n).reverse).map (a_cv B ad)).reverse ++ (Value.ref (ad a) :: rest.map (a_cv B ad)) := by
            rw [a_stk (n := n), hd]; rfl
          simp only at hk
          split at hk
          · rename_i heq; cases heq
          · rename_i k2 n2 p1 p2 p3 p4 r3 heq
            cases heq
            rw [hP] at hk
            simp only [Bool.and_eq_true, decide_eq_true_eq, a_mh, a_np] at hk
            obtain ⟨⟨⟨⟨⟨⟨k1, k2⟩, k3⟩, k4⟩, k5⟩, k6⟩, k7⟩ := hk
            have hT : GoodIn TB (wsV own ix "java/lang/String" y (Cond.code y bs ml rt :: TB)) := by
              refine a_goodl hgd (fun w hw => ?_)
              simp only [wsV, List.mem_append, List.mem_cons, List.not_mem_nil, or_false] at hw
              rcases hw with (rfl | rfl | rfl | rfl) | rfl | hw
              · exact List.mem_of_getElem? k1
              · exact List.mem_of_getElem? k2
              · exact List.mem_of_getElem? k3
              · exact List.mem_of_getElem? k4
              · exact hcode
              · exact hw
            exact va_runV (Ts := TB) (b := ad a) (C := "java/lang/String") (As := ((st.take n).reverse).map (a_cv B ad)) ⟨hx, hb, hml, hown, hts⟩ hM (cwV n hts hT rfl rfl rfl ⟨k5, k6.1, k6.2, k7⟩ hR) ⟨a_blind, vk_recv hw.2.2.2.2.1 hat hS, hpre⟩ rfl (by simp; omega) hsz hstk hroom hdg hf
          · cases hk
        · cases hc
      · cases hc
    · cases hc
  · cases hc
/-- behind the call -/
theorem a_behind {A : Array Value} {mc ms : Nat} {g : JFrame} {rest : List Value} {r : Option Value} {h' : List aC} (hr : va_Run p l e R s m args below meth c H locs cells slots mc ms g rest (a_Qc B ad D dA cl r h' A) (fun q => B ≤ q)) (hS : va_S (fun q => B ≤ q) s.heap H locs)
    (kk : ∀ (H1 : Heap) (locs1 : List Loc), a_hp B ad D dA cl h' H1 → va_S (fun q => B ≤ q) s.heap H1 locs1 → W p l e R s m args below meth c H1 locs1 (cells + mc) (slots + ms) Q { g with pc := g.pc + 3, stack := (r.map (a_cv B ad)).toList ++ rest }) : W p l e R s m args below meth c H locs cells slots Q g := by
  intro T hT X
  obtain ⟨v, st₀, t, T', L, h0, X', hL, e1, e2, ⟨ho, hh, hz, hk⟩, st⟩ := hr T hT X
  cases ho
  rw [h0] at hz hk
  obtain ⟨t2, a1, b1⟩ := kk T'.heap (locs ++ L) (by rw [e1]; exact hh)
    ⟨Nat.le_trans hS.1 (by rw [e1]; exact hz), fun q h1 h2 => by rw [e1, hk q (Nat.lt_of_lt_of_le h1 hS.1) h2]; exact hS.2.1 q h1 h2, fun q hq => by
      rcases List.mem_append.mp hq with h | h
      · exact hS.2.2 q h
      · exact hL q h⟩ T' rfl X'
  exact ⟨t2, st t2 a1, b1⟩
end AQ
end
section
/-! 10.sound: what our machine computes, the machine does -/
def a_ct (ins : Instr) : Nat := match ins with
  | .iconst _ | .bipush _ | .sipush _ | .lconst _ | .aconst_null | .iload_n _ | .iload _ | .lload_n _ | .aload_n _ | .aload _ | .istore_n _ | .istore _ | .lstore_n _ | .astore_n _ | .astore _ | .iinc _ _ | .iadd | .isub | .imul | .iand | .ior | .ixor | .ishl | .ishr | .idiv | .irem | .ineg | .lor | .lshl | .lcmp | .dup | .dup2 | .pop => 1
  | .goto _ | .if_icmp _ _ | .ifCond _ _ | .ifnull _ | .ifnonnull _ | .tableswitch _ _ _ _ | .lookupswitch _ _ => 2
  | .getfield _ | .putfield _ | .iaload | .iastore | .baload | .bastore | .aaload | .aastore | .arraylength | .new _ | .newarray _ | .anewarray _ | .instanceof _ | .ldc _ | .ldc2_w _ => 3
  | .invokestatic _ | .invokespecial _ | .invokevirtual _ => 4
  | .getstatic _ | .i2c => 5
  | .ireturn | .lreturn | .areturn | .return_ => 6
  | _ => 0
def a_is9 (ins : Instr) (aux : aX) : Bool := match ins, aux with
  | .getfield _, [_, 9] :: _ => true
  | _, _ => false
def a_isc (aux : aX) : Bool := match aux with
  | (_ :: _ :: _) :: _ => true
  | _ => false
/-- a row that is never come to: an instruction that our machine doesn't have, or a call without a link -/
def a_dead (ins : Instr) (aux : aX) : Bool := a_ct ins == 0 || (a_ct ins == 4 && aux.isEmpty)
def a_pf (rows : List aI) (i : Nat) : Nat := match rows[i]? with
  | some r => r.1
  | none => 0
/-- a row of the table is what the bytes and the words say -/
def a_rowok (own : String) (isI : Bool) (P : List aM) (cl : List vw_C) (TB : List Jvm.Cond) (E : String) (NC : List (String × String)) (SR : List (String × Nat × String × Nat)) (sv : List (String × String × String × Value)) (bs : ByteArray) (rt : Option FieldType) (rows : List aI) (i : Nat) (row : aI) : Bool := match row with
  | (pc, ins, len, cst, aux) => decide (decode bs pc = .ok (ins, len)) && (a_dead ins aux || match a_ct ins with
    | 1 => a_k1 ins len cst && a_pf rows (i + 1) == pc + len
    | 2 => a_k2 ins len aux (a_pf rows) i
    | 3 => (bif a_is9 ins aux then a_k5 own TB sv ins len aux else a_k3 own isI cl TB E NC SR ins len cst aux) && a_pf rows (i + 1) == pc + len
    | 4 => (bif a_isc aux then a_kq own TB cl P ins len aux else a_k4 own TB ins len aux) && a_pf rows (i + 1) == pc + len
    | 5 => a_k5 own TB sv ins len aux && a_pf rows (i + 1) == pc + len
    | 6 => a_k6 rt ins len aux
    | _ => false)
theorem a_isc_ne {aux : aX} (h : a_isc aux = true) : aux.isEmpty = false := by
  unfold a_isc at h
  split at h
  · rfl
  · cases h
theorem a_s1_ct {ins : Instr} {cst : Int32} {aux : aX} {i : Nat} {L : aL} {st : List Value} {h : List aC} {q : aN} (hs : a_s1 ins cst aux i L st h = some q) : a_ct ins = 1 := by
  unfold a_s1 at hs
  split at hs <;> first | rfl | cases hs
theorem a_s2_ct {ins : Instr} {aux : aX} {i : Nat} {L : aL} {st : List Value} {h : List aC} {q : aN} (hs : a_s2 ins aux i L st h = some q) : a_ct ins = 2 := by
  unfold a_s2 at hs
  split at hs <;> first | rfl | cases hs
theorem a_s3_ct {df : List (List Value)} {sc : Nat × (Nat → Int32)} {ins : Instr} {cst : Int32} {aux : aX} {i : Nat} {L : aL} {st : List Value} {h : List aC} {q : aN} (hs : a_s3 df sc ins cst aux i L st h = some q) : a_ct ins = 3 ∧ a_is9 ins aux = false := by
  unfold a_s3 at hs
  split at hs
  · split at hs
    · exact ⟨rfl, rfl⟩
    · cases hs
  all_goals first | exact ⟨rfl, rfl⟩ | cases hs
theorem a_s4_ct {ins : Instr} {aux : aX} {i : Nat} {L : aL} {st : List Value} {h : List aC} {q : aN} (hs : a_s4 ins aux i L st h = some q) : a_ct ins = 4 ∧ a_isc aux = false ∧ aux.isEmpty = false := by
  unfold a_s4 at hs
  split at hs
  · split at hs <;> first | exact ⟨rfl, rfl, rfl⟩ | cases hs
  · split at hs <;> first | exact ⟨rfl, rfl, rfl⟩ | cases hs
  · cases hs
theorem a_s5_ct {tx : List (List Int32)} {sv : List (String × String × String × Value)} {ins : Instr} {aux : aX} {i : Nat} {L : aL} {st : List Value} {h : List aC} {q : aN} (hs : a_s5 tx sv ins aux i L st h = some q) : a_ct ins = 5 ∨ (a_ct ins = 3 ∧ (a_is9 ins aux = true ∨ ins = .arraylength ∨ ins = .baload)) := by
  unfold a_s5 at hs
  split at hs
  · split at hs
    · exact Or.inr ⟨rfl, Or.inl rfl⟩
    · exact Or.inr ⟨rfl, Or.inl rfl⟩
    · cases hs
  · exact Or.inr ⟨rfl, Or.inr (Or.inl rfl)⟩
  · exact Or.inr ⟨rfl, Or.inr (Or.inr rfl)⟩
  · exact Or.inl rfl
  · exact Or.inl rfl
  · cases hs
theorem a_fin_ct {ins : Instr} {aux : aX} {st : List Value} {q : Bool × Option Value} (hs : a_fin ins aux st = some q) : a_ct ins = 6 := by
  unfold a_fin at hs
  split at hs <;> first | rfl | cases hs
theorem a_cal_ct {nt : Nat} {ins : Instr} {aux : aX} {st : List Value} {h : List aC} {q : Nat × List Value × List Value} (hs : a_cal nt ins aux st h = some q) : a_ct ins = 4 ∧ a_isc aux = true := by
  unfold a_cal at hs
  split at hs
  · split at hs <;> first | exact ⟨rfl, rfl⟩ | cases hs
  · split at hs <;> first | exact ⟨rfl, rfl⟩ | cases hs
  · split at hs <;> first | exact ⟨rfl, rfl⟩ | cases hs
  · cases hs
/-- a heap does not become smaller -/
def a_le (h h' : List aC) : Prop := h.length ≤ h'.length ∧ a_hz h ≤ a_hz h'
theorem a_le_rf (h : List aC) : a_le h h := ⟨Nat.le_refl _, Nat.le_refl _⟩
theorem a_le_tr {a b c : List aC} (h1 : a_le a b) (h2 : a_le b c) : a_le a c := ⟨Nat.le_trans h1.1 h2.1, Nat.le_trans h1.2 h2.2⟩
theorem a_le_set {h : List aC} {j : Nat} {x y : aC} (hj : h[j]? = some x) (hxy : a_sz y = a_sz x) : a_le h (h.set j y) := ⟨by rw [List.length_set]; exact Nat.le_refl _, by rw [a_hz_set hj hxy]; exact Nat.le_refl _⟩
theorem a_le_app (h : List aC) (x : aC) : a_le h (h ++ [x]) := ⟨by simp, by rw [a_hz_app]; omega⟩
theorem a_s1_gr {ins : Instr} {cst : Int32} {aux : aX} {i i' : Nat} {L L' : aL} {st st' : List Value} {h h' : List aC} {g : Bool} (hs : a_s1 ins cst aux i L st h = some (g, i', L', st', h')) : h' = h := by
  unfold a_s1 a_li a_ll a_la a_si a_sl a_sa at hs
  split at hs <;> (repeat' (split at hs)) <;> first | (cases hs; done) | (cases hs; rfl) | (simp only [Option.some.injEq, Prod.mk.injEq] at hs; exact hs.2.2.2.2.symm)
theorem a_s2_gr {ins : Instr} {aux : aX} {i i' : Nat} {L L' : aL} {st st' : List Value} {h h' : List aC} {g : Bool} (hs : a_s2 ins aux i L st h = some (g, i', L', st', h')) : h' = h ∧ L' = L := by
  unfold a_s2 at hs
  split at hs <;> (repeat' (split at hs)) <;> first | (cases hs; done) | (cases hs; exact ⟨rfl, rfl⟩)
theorem a_s3_gr {df : List (List Value)} {sc : Nat × (Nat → Int32)} {ins : Instr} {cst : Int32} {aux : aX} {i i' : Nat} {L L' : aL} {st st' : List Value} {h h' : List aC} {g : Bool} (hs : a_s3 df sc ins cst aux i L st h = some (g, i', L', st', h')) : a_le h h' := by
  unfold a_s3 at hs
  split at hs <;> (repeat' (split at hs)) <;> first
    | (cases hs; done)
    | (simp only [Option.some.injEq, Prod.mk.injEq] at hs
       obtain ⟨-, -, -, -, rfl⟩ := hs
       first | exact a_le_rf _ | exact a_le_app _ _ | (exact a_le_set (by assumption) rfl) | (exact a_le_set (by assumption) (by simp [a_sz])))
theorem a_s4_gr {ins : Instr} {aux : aX} {i i' : Nat} {L L' : aL} {st st' : List Value} {h h' : List aC} {g : Bool} (hs : a_s4 ins aux i L st h = some (g, i', L', st', h')) : a_le h h' := by
  unfold a_s4 at hs
  split at hs <;> (repeat' (split at hs)) <;> first
    | (cases hs; done)
    | (simp only [Option.some.injEq, Prod.mk.injEq] at hs
       obtain ⟨-, -, -, -, rfl⟩ := hs
       first | exact a_le_rf _ | (rename_i h1; exact a_le_set h1 rfl))
theorem a_s5_gr {tx : List (List Int32)} {sv : List (String × String × String × Value)} {ins : Instr} {aux : aX} {i i' : Nat} {L L' : aL} {st st' : List Value} {h h' : List aC} {g : Bool} (hs : a_s5 tx sv ins aux i L st h = some (g, i', L', st', h')) : h' = h := by
  unfold a_s5 at hs
  split at hs <;> (repeat' (split at hs)) <;> first | (cases hs; done) | (cases hs; rfl) | (simp only [Option.some.injEq, Prod.mk.injEq] at hs; exact hs.2.2.2.2.symm)
theorem a_bif {α : Type} {g : Bool} {x : Option α} {y : α} (h : (bif g then x else none) = some y) : g = true ∧ x = some y := by
  cases g
  · cases h
  · exact ⟨rfl, h⟩
theorem a_go_gr (P : List aM) (df : List (List Value)) (tx : List (List Int32)) (sv : List (String × String × String × Value)) (sc : Nat × (Nat → Int32)) : ∀ (n d k i : Nat) (L : aL) (st : List Value) (h hf : List aC) (r : Option Value), a_go P df tx sv sc n d k i L st h = some (r, hf) → a_le h hf := by
  intro n
  induction n with
  | zero => intro d k i L st h hf r hg; simp [a_go] at hg
  | succ n ih =>
    intro d k i L st h hf r hg
    simp only [a_go] at hg
    split at hg
    · cases hg
    · split at hg
      · cases hg
      · split at hg
        · obtain ⟨-, hg⟩ := a_bif hg
          cases hg
          exact a_le_rf _
        · split at hg
          · split at hg
            · cases hg
            · split at hg
              · cases hg
              · obtain ⟨-, hg⟩ := a_bif hg
                split at hg
                · rename_i hg1
                  exact a_le_tr (ih _ _ _ _ _ _ _ _ hg1) (ih _ _ _ _ _ _ _ _ hg)
                · cases hg
          · split at hg
            · rename_i hs
              obtain ⟨-, hg⟩ := a_bif hg
              have := a_s1_gr hs
              subst this
              exact ih _ _ _ _ _ _ _ _ hg
            · split at hg
              · rename_i hs
                obtain ⟨-, hg⟩ := a_bif hg
                have := (a_s2_gr hs).1
                subst this
                exact ih _ _ _ _ _ _ _ _ hg
              · split at hg
                · rename_i hs
                  obtain ⟨-, hg⟩ := a_bif hg
                  exact a_le_tr (a_s3_gr hs) (ih _ _ _ _ _ _ _ _ hg)
                · split at hg
                  · rename_i hs
                    obtain ⟨-, hg⟩ := a_bif hg
                    exact a_le_tr (a_s4_gr hs) (ih _ _ _ _ _ _ _ _ hg)
                  · split at hg
                    · rename_i hs
                      obtain ⟨-, hg⟩ := a_bif hg
                      have := a_s5_gr hs
                      subst this
                      exact ih _ _ _ _ _ _ _ _ hg
                    · cases hg
theorem a_args_mem : ∀ (vs : List Value) (i j : Nat) (v : Value), (∀ w ∈ vs, w.category = 1) → vs[j]? = some v → (i + j, v) ∈ lv_args i vs := by
  intro vs
  induction vs with
  | nil => intro i j v _ h; simp at h
  | cons x vs ih =>
    intro i j v hc h
    have hx := hc x List.mem_cons_self
    simp only [lv_args, hx]
    cases j with
    | zero =>
      simp at h
      subst h
      exact List.mem_cons_self
    | succ j =>
      simp at h
      have := ih (i + 1) j v (fun w hw => hc w (List.mem_cons_of_mem _ hw)) h
      rw [show i + (j + 1) = i + 1 + j by omega]
      exact List.mem_cons_of_mem _ this
theorem a_sl_len : ∀ (vs : List Value), (∀ w ∈ vs, w.category = 1) → (lg_sl vs).length = vs.length := by
  intro vs
  induction vs with
  | nil => intro _; rfl
  | cons x vs ih =>
    intro hc
    have hx := hc x List.mem_cons_self
    have := ih (fun w hw => hc w (List.mem_cons_of_mem _ hw))
    unfold lg_sl at this ⊢
    rw [List.flatMap_cons, List.length_append, this]
    simp [hx]
    omega
theorem a_entry {B : Nat} {ad : Nat → Nat} {As : List Value} {ml : Nat} (hl : As.length ≤ ml) (hc : As.all (fun v => v.category == 1) = true) : a_lo B ad ((lg_sl (As.map (a_cv B ad)) ++ List.replicate (ml - (lg_sl (As.map (a_cv B ad))).length) Slot.unset).toArray) (a_ent ml As) ∧ (a_ent ml As).length = ml := by
  have hc1 : ∀ w ∈ As.map (a_cv B ad), w.category = 1 := by
    intro w hw
    obtain ⟨v, hv, rfl⟩ := List.mem_map.mp hw
    rw [a_cv_cat]
    simpa using List.all_eq_true.mp hc v hv
  have hlen := a_sl_len _ hc1
  rw [List.length_map] at hlen
  have hL : (a_ent ml As).length = ml := by simp [a_ent]; omega
  have h0 := lv_entry (As.map (a_cv B ad)) (n := ml) (by rw [hlen]; exact hl)
  refine ⟨⟨?_, fun j v hj => ?_⟩, hL⟩
  · rw [hL]
    exact ⟨h0.1, h0.2.1, fun q hq => by cases hq⟩
  · have hjA : As[j]? = some v := by
      unfold a_ent at hj
      by_cases hjl : j < As.length
      · rw [List.getElem?_append_left (by simpa using hjl), List.getElem?_map] at hj
        cases h9 : As[j]? with
        | none => rw [h9] at hj; cases hj
        | some w => rw [h9] at hj; cases hj; rfl
      · rw [List.getElem?_append_right (by simpa using Nat.le_of_not_lt hjl)] at hj
        rw [List.getElem?_replicate] at hj
        split at hj <;> cases hj
    have := a_args_mem (As.map (a_cv B ad)) 0 j (a_cv B ad v) hc1 (by rw [List.getElem?_map, hjA]; rfl)
    rw [Nat.zero_add] at this
    exact h0.2.2 _ this
end
section
/-! 11.main: soundness -/
section AM
variable {P : List aM} {df : List (List Value)} {tx : List (List Int32)} {sv : List (String × String × String × Value)} {sc : Nat × (Nat → Int32)} {B : Nat} {ad : Nat → Nat} {D : va_G} {dA : Nat → ClassId} {cl : List vw_C} {ty : Nat → Nat → FieldType} {E : String} {NC : List (String × String)} {SR : List (String × Nat × String × Nat)} {TB : List Jvm.Cond} {l : Launch}
/-- the table of methods is as the bytes and the words say -/
def a_prog (P : List aM) (cl : List vw_C) (TB : List Jvm.Cond) (E : String) (NC : List (String × String)) (SR : List (String × Nat × String × Nat)) (sv : List (String × String × String × Value)) : Prop :=
  ∀ (k : Nat) (y : MethodName) (bs : ByteArray) (ml : Nat) (rt : Option FieldType) (rows : List aI), P[k]? = some (y, bs, ml, rt, rows) → Cond.code y bs ml rt ∈ TB ∧ plainName y.cls = true ∧ ml ≤ 20 ∧ a_pf rows 0 = 0 ∧ ∀ (i : Nat) (row : aI), rows[i]? = some row → a_rowok y.cls (y.name == "<init>") P cl TB E NC SR sv bs rt rows i row = true
/-- our machine's run from a frame is the machine's -/
def a_snd (P : List aM) (df : List (List Value)) (tx : List (List Int32)) (sv : List (String × String × String × Value)) (sc : Nat × (Nat → Int32)) (B : Nat) (ad : Nat → Nat) (D : va_G) (dA : Nat → ClassId) (cl : List vw_C) (E : String) (NC : List (String × String)) (SR : List (String × Nat × String × Nat)) (TB : List Jvm.Cond) (l : Launch) (n : Nat) : Prop :=
  ∀ (d k i : Nat) (L : aL) (st : List Value) (h : List aC) (r : Option Value) (hf : List aC), a_go P df tx sv sc n d k i L st h = some (r, hf) →
  ∀ (y : MethodName) (bs : ByteArray) (ml : Nat) (rt : Option FieldType) (rows : List aI), P[k]? = some (y, bs, ml, rt, rows) →
  ∀ (p : Program) (e : Env) (R : Room) (s : State) (m : MethodId) (args : Array Value) (below : List Frame) (meth : Method) (c : Code) (H : Heap) (locs : List Loc) (ls : Array Slot) (nb zb : Nat),
  p.tables.exec = Jvm.exec → c.code = bs → c.maxLocals = ml → L.length = ml → s.vm.findClass y.cls = some m.cls → (∀ w ∈ TB, w.before args s = true) → a_wor B ad D dA cl E NC SR tx sv sc s → meth.sig.returnType = rt → meth.locks = false → meth.name = y.name →
  a_lo B ad ls L → a_hp B ad D dA cl h H → va_S (fun q => B ≤ q) s.heap H locs → d + 1 ≤ R.frames → 40 * (d + 1) ≤ R.locals → nb ≤ h.length → zb ≤ a_hz h → hf.length - nb ≤ R.cells → a_hz hf - zb ≤ R.slots →
  W p l e R s m args below meth c H locs (h.length - nb) (a_hz h - zb) (MQ below (a_Qc B ad D dA cl r hf) args s (hf.length - nb) (a_hz hf - zb) (fun q => B ≤ q)) (F0 m (a_pf rows i) ls (st.map (a_cv B ad)))
/-- a contract out of a run -/
theorem a_met {n : Nat} (hsnd : a_snd P df tx sv sc B ad D dA cl E NC SR TB l n) (hpr : a_prog P cl TB E NC SR sv) {d k : Nat} {As : List Value} {h hf : List aC} {r : Option Value} {y : MethodName} {bs : ByteArray} {ml : Nat} {rt : Option FieldType} {rows : List aI} (hP : P[k]? = some (y, bs, ml, rt, rows))
    (hl : As.length ≤ ml) (hc : As.all (fun v => v.category == 1) = true) (hg : a_go P df tx sv sc n d k 0 (a_ent ml As) [] h = some (r, hf)) :
    Met l y (Cond.code y bs ml rt :: TB) ({ frames := d + 1, cells := hf.length - h.length, slots := a_hz hf - a_hz h, locals := 40 * (d + 1) } : Room) (a_Pc B ad D dA cl E NC SR tx sv sc As h) (a_Qc B ad D dA cl r hf) (hf.length - h.length) (a_hz hf - a_hz h) (fun q => B ≤ q) := by
  obtain ⟨hcode, hpl, hml20, hpf, hrows⟩ := hpr k y bs ml rt rows hP
  refine Met.ofW (cc := bs) (maxL := ml) (ret := rt) hpl rfl ?_
  intro p e s m args below meth c s₁ Bd hml hv
  obtain ⟨rfl, hhp, hwor⟩ := hv
  have hts := atoms_spec (ws := Cond.code y bs ml rt :: TB) Bd.pre
  obtain ⟨hent, hentl⟩ := a_entry (B := B) (ad := ad) hl hc
  have hnm : meth.name = y.name := (name_of_methodNamed Bd.named Bd.method).1
  have := hsnd d k 0 (a_ent ml As) [] h r hf hg y bs ml rt rows hP p e (headSpec (Cond.code y bs ml rt :: TB) ({ frames := d + 1, cells := hf.length - h.length, slots := a_hz hf - a_hz h, locals := 40 * (d + 1) } : Room)).room s m (As.map (a_cv B ad)).toArray below meth c s.heap [] _ h.length (a_hz h) Bd.exec Bd.bytes hml hentl (findClass_of_methodNamed Bd.named) (fun w hw => hts w (List.mem_cons_of_mem _ hw)) hwor Bd.returns Bd.notSynchronized hnm hent hhp va_S.rf (Nat.le_refl _) (Nat.le_refl _) (Nat.le_refl _) (Nat.le_refl _) (Nat.le_refl _) (Nat.le_refl _)
  rw [Nat.sub_self, Nat.sub_self, hpf] at this
  rw [lg_entry_eq]
  exact this
theorem a_sound (hpr : a_prog P cl TB E NC SR sv) (hcl : a_cls cl ty df TB) (hgd : TB.all goodWord = true) : ∀ n, a_snd P df tx sv sc B ad D dA cl E NC SR TB l n := by
  intro n
  induction n with
  | zero => intro d k i L st h r hf hg; simp [a_go] at hg
  | succ n ih =>
    intro d k i L st h r hf hg y bs ml rt rows hP p e R s m args below meth c H locs ls nb zb hx hb hml hLl hown hts hw hr hlk hnm hlo hh hS hfr hloc hnb hzb hRc hRs
    obtain ⟨hcode, hpl, hml20, hpf, hrows⟩ := hpr k y bs ml rt rows hP
    have hgr := a_go_gr P df tx sv sc _ _ _ _ _ _ _ _ _ hg
    have hsz : ls.size = ml := by rw [← hLl]; exact hlo.1.1
    simp only [a_go] at hg
    rw [hP] at hg
    simp only at hg
    split at hg
    · cases hg
    · rename_i pc ins len cst aux hrow
      have hok := hrows i _ hrow
      have hpc : a_pf rows i = pc := by unfold a_pf; rw [hrow]
      simp only [a_rowok, Bool.and_eq_true, Bool.or_eq_true, decide_eq_true_eq] at hok
      obtain ⟨hdg, hok⟩ := hok
      have hdg2 : decode bs (a_pf rows i) = .ok (ins, len) := by rw [hpc]; exact hdg
      split at hg
      · rename_i g q hs
        obtain ⟨rfl, hg⟩ := a_bif hg
        cases hg
        have hok := hok.resolve_left (by simp [a_dead, a_fin_ct hs])
        rw [a_fin_ct hs] at hok
        simp only at hok
        exact a_fin_ok hx hb hr hlk hdg2 hok hs (fun t ht hW => ⟨rfl, by rw [ht]; exact hh, hS.F ht⟩) hS.2.2
      · split at hg
        · rename_i k' As rest hs
          split at hg
          · cases hg
          · rename_i d'
            split at hg
            · cases hg
            · rename_i y' bs' ml' rt' rows' hP'
              obtain ⟨hgd2, hg⟩ := a_bif hg
              simp only [Bool.and_eq_true, decide_eq_true_eq] at hgd2
              obtain ⟨⟨hrest, hAl⟩, hcat⟩ := hgd2
              split at hg
              · rename_i rv h1 hg1
                have hct := a_cal_ct hs
                have hok := hok.resolve_left (by simp [a_dead, hct.1, a_isc_ne hct.2])
                rw [hct.1] at hok
                simp only [hct.2, cond_true, Bool.and_eq_true, beq_iff_eq] at hok
                obtain ⟨hcode', -, hml20', -, -⟩ := hpr k' y' bs' ml' rt' rows' hP'
                have hgr1 := a_go_gr P df tx sv sc _ _ _ _ _ _ _ _ _ hg1
                have hgr2 := a_go_gr P df tx sv sc _ _ _ _ _ _ _ _ _ hg
                have hM := a_met (l := l) ih hpr hP' hAl hcat hg1
                have hfit : h.length - nb + (h1.length - h.length) ≤ R.cells ∧ a_hz h - zb + (a_hz h1 - a_hz h) ≤ R.slots := by
                  have := hgr1.1; have := hgr1.2; have := hgr2.1; have := hgr2.2
                  exact ⟨by omega, by omega⟩
                obtain ⟨hlen, hrun⟩ := a_cal_ok (p := p) (l := l) (e := e) (below := below) (meth := meth) (pc := a_pf rows i) hx hb hml hsz hts hown hw hgd hdg2 hok.1 hh hS hs hP' hcode' hml20' hM hrest (by omega) (by omega) hfit
                subst hlen
                refine a_behind hrun hS (fun H1 locs1 hh1 hS1 => ?_)
                have := ih (d' + 1) k (i + 1) L (rv.toList ++ rest) h1 r hf hg y bs ml rt rows hP p e R s m args below meth c H1 locs1 ls nb zb hx hb hml hLl hown hts hw hr hlk hnm hlo hh1 hS1 hfr hloc (Nat.le_trans hnb hgr1.1) (Nat.le_trans hzb hgr1.2) hRc hRs
                rw [show h1.length - nb = h.length - nb + (h1.length - h.length) by have := hgr1.1; omega, show a_hz h1 - zb = a_hz h - zb + (a_hz h1 - a_hz h) by have := hgr1.2; omega, hok.2, ← hpc, List.map_append] at this
                have hopt : (rv.toList).map (a_cv B ad) = (rv.map (a_cv B ad)).toList := by cases rv <;> rfl
                rw [hopt] at this
                exact this
              · cases hg
        · split at hg
          · rename_i g i' L' st' h' hs
            obtain ⟨rfl, hg⟩ := a_bif hg
            have hok := hok.resolve_left (by simp [a_dead, a_s1_ct hs])
            rw [a_s1_ct hs] at hok
            simp only [Bool.and_eq_true, beq_iff_eq] at hok
            refine a_s1_ok hx hb hdg2 hok.1 hlo hs (fun ls' e1 e2 e3 hlo' => ?_)
            subst e1; subst e2
            have := ih d k (i + 1) L' st' h' r hf hg y bs ml rt rows hP p e R s m args below meth c H locs ls' nb zb hx hb hml (e3.trans hLl) hown hts hw hr hlk hnm hlo' hh hS hfr hloc hnb hzb hRc hRs
            rw [hok.2, ← hpc] at this
            exact this
          · split at hg
            · rename_i g i' L' st' h' hs
              obtain ⟨rfl, hg⟩ := a_bif hg
              have hok := hok.resolve_left (by simp [a_dead, a_s2_ct hs])
              rw [a_s2_ct hs] at hok
              simp only at hok
              refine a_s2_ok hx hb hdg2 hok hs (fun e1 e2 => ?_)
              subst e1; subst e2
              exact ih d k i' L' st' h' r hf hg y bs ml rt rows hP p e R s m args below meth c H locs ls nb zb hx hb hml hLl hown hts hw hr hlk hnm hlo hh hS hfr hloc hnb hzb hRc hRs
            · split at hg
              · rename_i g i' L' st' h' hs
                obtain ⟨rfl, hg⟩ := a_bif hg
                have hct := a_s3_ct hs
                have hok := hok.resolve_left (by simp [a_dead, hct.1])
                rw [hct.1] at hok
                simp only [hct.2, cond_false, Bool.and_eq_true, beq_iff_eq] at hok
                have hgr1 := a_s3_gr hs
                have hgr2 := a_go_gr P df tx sv sc _ _ _ _ _ _ _ _ _ hg
                have hfit : h.length - nb + (h'.length - h.length) ≤ R.cells ∧ a_hz h - zb + (a_hz h' - a_hz h) ≤ R.slots := by
                  have := hgr1.1; have := hgr1.2; have := hgr2.1; have := hgr2.2
                  exact ⟨by omega, by omega⟩
                refine a_s3_ok hx hb hcl hts hown hw.1 hw.2.1 hw.2.2.1 hw.2.2.2.1.1 hw.2.2.2.1.2 (fun q => by rw [hnm]; simpa using q) hdg2 hok.1 hh hS hs hfit (fun H' locs' e1 e2 _ _ hh' hS' => ?_)
                subst e1; subst e2
                have := ih d k (i + 1) L' st' h' r hf hg y bs ml rt rows hP p e R s m args below meth c H' locs' ls nb zb hx hb hml hLl hown hts hw hr hlk hnm hlo hh' hS' hfr hloc (Nat.le_trans hnb hgr1.1) (Nat.le_trans hzb hgr1.2) hRc hRs
                rw [show h'.length - nb = h.length - nb + (h'.length - h.length) by have := hgr1.1; omega, show a_hz h' - zb = a_hz h - zb + (a_hz h' - a_hz h) by have := hgr1.2; omega, hok.2, ← hpc] at this
                exact this
              · split at hg
                · rename_i g i' L' st' h' hs
                  obtain ⟨rfl, hg⟩ := a_bif hg
                  have hct := a_s4_ct hs
                  have hok := hok.resolve_left (by simp [a_dead, hct.1, hct.2.2])
                  rw [hct.1] at hok
                  simp only [hct.2.1, cond_false, Bool.and_eq_true, beq_iff_eq] at hok
                  have hgr2 := hgr
                  refine a_s4_ok hx hb (hml.trans hsz.symm) hts hown hw.1 hdg2 hok.1 hh hS (by omega) (by omega) (by have := hgr.1; omega) (by have := hgr.2; omega) hs (fun H' locs' e1 e2 e3 e4 hh' hS' => ?_)
                  subst e1; subst e2
                  have := ih d k (i + 1) L' st' h' r hf hg y bs ml rt rows hP p e R s m args below meth c H' locs' ls nb zb hx hb hml hLl hown hts hw hr hlk hnm hlo hh' hS' hfr hloc (by omega) (by omega) hRc hRs
                  rw [e3, e4, hok.2, ← hpc] at this
                  exact this
                · split at hg
                  · rename_i g i' L' st' h' hs
                    obtain ⟨rfl, hg⟩ := a_bif hg
                    have hk5 : a_k5 y.cls TB sv ins len aux = true ∧ a_pf rows (i + 1) = pc + len := by
                      have hok := hok.resolve_left (by rcases a_s5_ct hs with hct | ⟨hct, -⟩ <;> simp [a_dead, hct])
                      rcases a_s5_ct hs with hct | ⟨hct, h9 | h9 | h9⟩
                      · rw [hct] at hok
                        simpa only [Bool.and_eq_true, beq_iff_eq] using hok
                      · rw [hct] at hok
                        simpa only [h9, cond_true, Bool.and_eq_true, beq_iff_eq] using hok
                      · subst h9
                        simpa [a_ct, a_is9, a_k3, a_k5] using hok
                      · subst h9
                        simpa [a_ct, a_is9, a_k3, a_k5] using hok
                    refine a_s5_ok hx hb hts hown hw.2.2.2.2.1 hw.2.2.2.2.2.1 hdg2 hk5.1 hS hs (fun e1 e2 e3 => ?_)
                    subst e1; subst e2; subst e3
                    have := ih d k (i + 1) L' st' h' r hf hg y bs ml rt rows hP p e R s m args below meth c H locs ls nb zb hx hb hml hLl hown hts hw hr hlk hnm hlo hh hS hfr hloc hnb hzb hRc hRs
                    rw [hk5.2, ← hpc] at this
                    exact this
                  · cases hg
end AM
end
