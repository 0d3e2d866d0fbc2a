section
/-! 01.mach: a small machine of our own, by which the methods are computed; nothing here speaks of this claim's classes.
A cell is an array (number of its kind, length, contents) or an object (number of its class, fields). A reference '.ref j' is the j-th cell of our own heap; '.retAddr k' is the k-th thing that lies outside of it (a String constant; 50: the script). -/
abbrev aC : Type := (Nat × vp_A) ⊕ (Nat × List Value)
abbrev aL : Type := List (Option Value)
abbrev aX : Type := List (List Nat)
/-- a row of a method: its place in the bytes, the instruction, its length, a number, what it links -/
abbrev aI : Type := Nat × Instr × Nat × Int32 × aX
abbrev aM : Type := MethodName × ByteArray × Nat × Option FieldType × List aI
abbrev aN : Type := Bool × Nat × aL × List Value × List aC
def a_ld (L : aL) (j : Nat) : Value := ((L[j]?).getD none).getD (.float 0)
def a_pg (L : aL) (j : Nat) : Bool := decide (j < L.length) && (j == 0 || (a_ld L (j - 1)).category == 1)
def a_pg2 (L : aL) (j : Nat) : Bool := decide (j + 1 < L.length) && (j == 0 || (a_ld L (j - 1)).category == 1)
def a_in (j : Int32) (n : Nat) : Bool := decide (¬ j < 0) && decide (j.toNatClampNeg < n)
def a_ic (c : ClassFile.Cond) (x y : Int32) : Bool := match c with
  | .eq => decide (x = y)
  | .ne => decide (¬ x = y)
  | .lt => decide (x < y)
  | .ge => decide (y ≤ x)
  | .gt => decide (y < x)
  | .le => decide (x ≤ y)
def a_li (L : aL) (j i : Nat) (st : List Value) (h : List aC) : Option aN := match a_ld L j with
  | .int x => some (true, i + 1, L, .int x :: st, h)
  | _ => none
def a_ll (L : aL) (j i : Nat) (st : List Value) (h : List aC) : Option aN := match a_ld L j with
  | .long x => some (true, i + 1, L, .long x :: st, h)
  | _ => none
def a_la (L : aL) (j i : Nat) (st : List Value) (h : List aC) : Option aN := match a_ld L j with
  | .ref x => some (true, i + 1, L, .ref x :: st, h)
  | .retAddr x => some (true, i + 1, L, .retAddr x :: st, h)
  | .null => some (true, i + 1, L, .null :: st, h)
  | _ => none
def a_si (L : aL) (j i : Nat) (st : List Value) (h : List aC) : Option aN := match st with
  | .int x :: r => some (a_pg L j, i + 1, L.set j (some (.int x)), r, h)
  | _ => none
def a_sl (L : aL) (j i : Nat) (st : List Value) (h : List aC) : Option aN := match st with
  | .long x :: r => some (a_pg2 L j, i + 1, (L.set j (some (.long x))).set (j + 1) none, r, h)
  | _ => none
def a_sa (L : aL) (j i : Nat) (st : List Value) (h : List aC) : Option aN := match st with
  | .ref x :: r => some (a_pg L j, i + 1, L.set j (some (.ref x)), r, h)
  | .null :: r => some (a_pg L j, i + 1, L.set j (some .null), r, h)
  | _ => none
/-- locals, constants, the stack, numbers -/
def a_s1 (ins : Instr) (cst : Int32) (aux : aX) (i : Nat) (L : aL) (st : List Value) (h : List aC) : Option aN := match ins with
  | .iconst _ => some (true, i + 1, L, .int cst :: st, h)
  | .bipush _ => some (true, i + 1, L, .int cst :: st, h)
  | .sipush _ => some (true, i + 1, L, .int cst :: st, h)
  | .lconst n => some (true, i + 1, L, .long (Int64.ofNat (n : Nat)) :: st, h)
  | .aconst_null => some (true, i + 1, L, .null :: st, h)
  | .iload_n k => a_li L k i st h
  | .iload k => a_li L k i st h
  | .lload_n k => a_ll L k i st h
  | .aload_n k => a_la L k i st h
  | .aload k => a_la L k i st h
  | .istore_n k => a_si L k i st h
  | .istore k => a_si L k i st h
  | .lstore_n k => a_sl L k i st h
  | .astore_n k => a_sa L k i st h
  | .astore k => a_sa L k i st h
  | .iinc k _ => match a_ld L k with
    | .int x => some (a_pg L k, i + 1, L.set k (some (.int (x + cst))), st, h)
    | _ => none
  | .iadd => match st with
    | .int y :: .int x :: r => some (true, i + 1, L, .int (x + y) :: r, h)
    | _ => none
  | .isub => match st with
    | .int y :: .int x :: r => some (true, i + 1, L, .int (x - y) :: r, h)
    | _ => none
  | .imul => match st with
    | .int y :: .int x :: r => some (true, i + 1, L, .int (x * y) :: r, h)
    | _ => none
  | .iand => match st with
    | .int y :: .int x :: r => some (true, i + 1, L, .int (x &&& y) :: r, h)
    | _ => none
  | .ior => match st with
    | .int y :: .int x :: r => some (true, i + 1, L, .int (x ||| y) :: r, h)
    | _ => none
  | .ixor => match st with
    | .int y :: .int x :: r => some (true, i + 1, L, .int (x ^^^ y) :: r, h)
    | _ => none
  | .ishl => match st with
    | .int y :: .int x :: r => some (true, i + 1, L, .int (x <<< (y &&& 31)) :: r, h)
    | _ => none
  | .ishr => match st with
    | .int y :: .int x :: r => some (true, i + 1, L, .int (x >>> (y &&& 31)) :: r, h)
    | _ => none
  | .idiv => match st with
    | .int y :: .int x :: r => some (decide (¬ y = 0), i + 1, L, .int (x / y) :: r, h)
    | _ => none
  | .irem => match st with
    | .int y :: .int x :: r => some (decide (¬ y = 0), i + 1, L, .int (x - x / y * y) :: r, h)
    | _ => none
  | .ineg => match st with
    | .int x :: r => some (true, i + 1, L, .int (-x) :: r, h)
    | _ => none
  | .lor => match st with
    | .long y :: .long x :: r => some (true, i + 1, L, .long (x ||| y) :: r, h)
    | _ => none
  | .lshl => match st with
    | .int y :: .long x :: r => some (true, i + 1, L, .long (x <<< (y.toInt64 &&& 63)) :: r, h)
    | _ => none
  | .lcmp => match st with
    | .long y :: .long x :: r => some (true, i + 1, L, .int (lg_cmp x y) :: r, h)
    | _ => none
  | .dup => match st with
    | v :: r => some (v.category == 1, i + 1, L, v :: v :: r, h)
    | _ => none
  | .dup2 => match st with
    | v :: w :: r => some (v.category == 1 && w.category == 1, i + 1, L, v :: w :: v :: w :: r, h)
    | _ => none
  | .pop => match st with
    | v :: r => some (v.category == 1, i + 1, L, r, h)
    | _ => none
  | _ => none
/-- what decode must give beside the instruction -/
def a_k1 (ins : Instr) (len : Nat) (cst : Int32) : Bool := match ins with
  | .iconst n => len == 1 && decide (Int32.ofInt n = cst)
  | .bipush n => len == 2 && decide ((Int8.ofInt n).toInt32 = cst)
  | .sipush n => len == 3 && decide ((Int16.ofInt n).toInt32 = cst)
  | .iload _ => len == 2
  | .aload _ => len == 2
  | .istore _ => len == 2
  | .astore _ => len == 2
  | .iinc _ n => len == 3 && decide (Int32.ofInt n = cst)
  | _ => len == 1
def a_tsw (lo hi : Int) (dt : Nat) (ts : List Nat) (x : Int32) : Nat := if x.toInt < lo ∨ hi < x.toInt then dt else ts.getD (x.toInt - lo).toNat dt
def a_lsw (dt : Nat) : List (Int × Int) → List Nat → Int32 → Nat
  | (a, _) :: ps, t :: ts, x => if x.toInt = a then t else a_lsw dt ps ts x
  | _, _, _ => dt
/-- where it goes on -/
def a_s2 (ins : Instr) (aux : aX) (i : Nat) (L : aL) (st : List Value) (h : List aC) : Option aN := match ins with
  | .goto _ => match aux with
    | [t] :: _ => some (true, t, L, st, h)
    | _ => none
  | .if_icmp c _ => match st, aux with
    | .int y :: .int x :: r, [t] :: _ => some (true, (bif a_ic c x y then t else i + 1), L, r, h)
    | _, _ => none
  | .ifCond c _ => match st, aux with
    | .int x :: r, [t] :: _ => some (true, (bif a_ic c x 0 then t else i + 1), L, r, h)
    | _, _ => none
  | .ifnull _ => match st, aux with
    | .null :: r, [t] :: _ => some (true, t, L, r, h)
    | .ref _ :: r, [_] :: _ => some (true, i + 1, L, r, h)
    | _, _ => none
  | .ifnonnull _ => match st, aux with
    | .null :: r, [_] :: _ => some (true, i + 1, L, r, h)
    | .ref _ :: r, [t] :: _ => some (true, t, L, r, h)
    | _, _ => none
  | .tableswitch _ lo hi _ => match st, aux with
    | .int x :: r, [dt] :: ts :: _ => some (true, a_tsw lo hi dt ts x, L, r, h)
    | _, _ => none
  | .lookupswitch _ ps => match st, aux with
    | .int x :: r, [dt] :: ts :: _ => some (true, a_lsw dt ps.toList ts x, L, r, h)
    | _, _ => none
  | _ => none
/-- does the value fit a field of the kind tc: 0 an int, 1 a boolean, 2 a reference -/
def a_fk (tc : Nat) (v : Value) : Bool := match tc, v with
  | 0, .int _ => true
  | 1, .int x => decide (x = 0) || decide (x = 1)
  | 2, .ref _ => true
  | 2, .null => true
  | _, _ => false
/-- fields, arrays, what is made; df: the fields of a new object by its class -/
def a_s3 (df : List (List Value)) (sc : Nat × (Nat → Int32)) (ins : Instr) (cst : Int32) (aux : aX) (i : Nat) (L : aL) (st : List Value) (h : List aC) : Option aN := match ins with
  | .getfield _ => match st, aux with
    | .ref a :: r, [f, 0] :: cs :: _ => match h[a]? with
      | some (.inr (ci, fs)) => match fs[f]? with
        | some v => some (cs.contains ci, i + 1, L, v :: r, h)
        | none => none
      | _ => none
    | _, _ => none
  | .putfield _ => match st, aux with
    | v :: .ref a :: r, [f, tc] :: cs :: _ => match h[a]? with
      | some (.inr (ci, fs)) => some (cs.contains ci && decide (f < fs.length) && a_fk tc v, i + 1, L, r, h.set a (.inr (ci, fs.set f v)))
      | _ => none
    | _, _ => none
  | .iaload => match st with
    | .int j :: .ref a :: r => match h[a]? with
      | some (.inl (0, n, .inl f)) => some (a_in j n, i + 1, L, .int (f j.toNatClampNeg) :: r, h)
      | _ => none
    | .int j :: .retAddr 50 :: r => some (a_in j sc.1, i + 1, L, .int (sc.2 j.toNatClampNeg) :: r, h)
    | _ => none
  | .iastore => match st with
    | .int x :: .int j :: .ref a :: r => match h[a]? with
      | some (.inl (0, n, .inl f)) => some (a_in j n, i + 1, L, r, h.set a (.inl (0, n, .inl (upd f j.toNatClampNeg x))))
      | _ => none
    | _ => none
  | .baload => match st with
    | .int j :: .ref a :: r => match h[a]? with
      | some (.inl (1, n, .inl f)) => some (a_in j n, i + 1, L, .int (f j.toNatClampNeg) :: r, h)
      | _ => none
    | _ => none
  | .bastore => match st with
    | .int x :: .int j :: .ref a :: r => match h[a]? with
      | some (.inl (1, n, .inl f)) => some (a_in j n && (decide (x = 0) || decide (x = 1)), i + 1, L, r, h.set a (.inl (1, n, .inl (upd f j.toNatClampNeg x))))
      | _ => none
    | _ => none
  | .aaload => match st with
    | .int j :: .ref a :: r => match h[a]? with
      | some (.inl (2, n, .inr (.inr (.inr (.inr f))))) => some (a_in j n, i + 1, L, va_rf (f j.toNatClampNeg) :: r, h)
      | _ => none
    | _ => none
  | .aastore => match st, aux with
    | .ref v :: .int j :: .ref a :: r, cs :: _ => match h[a]?, h[v]? with
      | some (.inl (2, n, .inr (.inr (.inr (.inr f))))), some (.inr (ci, _)) => some (a_in j n && cs.contains ci, i + 1, L, r, h.set a (.inl (2, n, .inr (.inr (.inr (.inr (va_up f j.toNatClampNeg (some v))))))))
      | _, _ => none
    | .null :: .int j :: .ref a :: r, _ => match h[a]? with
      | some (.inl (2, n, .inr (.inr (.inr (.inr f))))) => some (a_in j n, i + 1, L, r, h.set a (.inl (2, n, .inr (.inr (.inr (.inr (va_up f j.toNatClampNeg none)))))))
      | _ => none
    | _, _ => none
  | .arraylength => match st with
    | .ref a :: r => match h[a]? with
      | some (.inl (k, x)) => some (decide (k < 3), i + 1, L, .int (Int32.ofNat x.1) :: r, h)
      | _ => none
    | .retAddr 50 :: r => some (true, i + 1, L, .int (Int32.ofNat sc.1) :: r, h)
    | _ => none
  | .new _ => match aux with
    | [ci] :: _ => match df[ci]? with
      | some fs => some (true, i + 1, L, .ref h.length :: st, h ++ [.inr (ci, fs)])
      | none => none
    | _ => none
  | .newarray t => match st, t with
    | .int n :: r, .int => some (decide (¬ n < 0) && decide (n.toNatClampNeg ≤ 1000), i + 1, L, .ref h.length :: r, h ++ [.inl (0, n.toNatClampNeg, .inl (fun _ => 0))])
    | .int n :: r, .boolean => some (decide (¬ n < 0) && decide (n.toNatClampNeg ≤ 1000), i + 1, L, .ref h.length :: r, h ++ [.inl (1, n.toNatClampNeg, .inl (fun _ => 0))])
    | _, _ => none
  | .anewarray _ => match st with
    | .int n :: r => some (decide (¬ n < 0) && decide (n.toNatClampNeg ≤ 1000), i + 1, L, .ref h.length :: r, h ++ [.inl (2, n.toNatClampNeg, .inr (.inr (.inr (.inr (fun _ => none)))))])
    | _ => none
  | .instanceof _ => match st, aux with
    | .null :: r, _ => some (true, i + 1, L, .int 0 :: r, h)
    | .ref a :: r, ys :: ns :: _ => match h[a]? with
      | some (.inr (ci, _)) => some (ys.contains ci || ns.contains ci, i + 1, L, .int (bif ys.contains ci then 1 else 0) :: r, h)
      | _ => none
    | _, _ => none
  | .ldc _ => match aux with
    | [k] :: _ => some (true, i + 1, L, .retAddr k :: st, h)
    | _ => none
  | .ldc2_w _ => some (true, i + 1, L, .long cst.toInt64 :: st, h)
  | _ => none
/-- methods that are not walked: Math.max, Math.min, System.arraycopy (ints), Object() -/
def a_s4 (ins : Instr) (aux : aX) (i : Nat) (L : aL) (st : List Value) (h : List aC) : Option aN := match ins with
  | .invokestatic _ => match aux with
    | [1] :: _ => match st with
      | .int y :: .int x :: r => some (decide ((r.map fun v => v.category).sum ≤ 8), i + 1, L, .int (if x < y then y else x) :: r, h)
      | _ => none
    | [2] :: _ => match st with
      | .int y :: .int x :: r => some (decide ((r.map fun v => v.category).sum ≤ 8), i + 1, L, .int (if y < x then y else x) :: r, h)
      | _ => none
    | [3] :: _ => match st with
      | .int n :: .int dp :: .ref a :: .int sp :: .ref b :: r => match h[b]?, h[a]? with
        | some (.inl (0, n0, .inl f)), some (.inl (0, n1, .inl g)) => some (decide ((r.map fun v => v.category).sum ≤ 8) && decide (¬ sp < 0) && decide (¬ dp < 0) && decide (¬ n < 0) && decide (sp.toNatClampNeg + n.toNatClampNeg ≤ n0) && decide (dp.toNatClampNeg + n.toNatClampNeg ≤ n1), i + 1, L, r, h.set a (.inl (0, n1, .inl (va_cpy f g sp.toNatClampNeg dp.toNatClampNeg n.toNatClampNeg))))
        | _, _ => none
      | _ => none
    | _ => none
  | .invokespecial _ => match aux with
    | [1] :: _ => match st with
      | .ref _ :: r => some (decide ((r.map fun v => v.category).sum ≤ 8), i + 1, L, r, h)
      | _ => none
    | _ => none
  | _ => none
/-- String constants: their bytes and coder, statics (sv), a char -/
def a_s5 (tx : List (List Int32)) (sv : List (String × String × String × Value)) (ins : Instr) (aux : aX) (i : Nat) (L : aL) (st : List Value) (h : List aC) : Option aN := match ins with
  | .getfield _ => match st, aux with
    | .retAddr k :: r, [0, 9] :: _ => some (decide (k < tx.length), i + 1, L, .retAddr (100 + k) :: r, h)
    | .retAddr k :: r, [1, 9] :: _ => some (decide (k < tx.length), i + 1, L, .int 0 :: r, h)
    | _, _ => none
  | .arraylength => match st with
    | .retAddr q :: r => some (decide (100 ≤ q) && decide (q - 100 < tx.length), i + 1, L, .int (Int32.ofNat (tx.getD (q - 100) []).length) :: r, h)
    | _ => none
  | .baload => match st with
    | .int j :: .retAddr q :: r => some (decide (100 ≤ q) && decide (q - 100 < tx.length) && a_in j (tx.getD (q - 100) []).length, i + 1, L, .int ((tx.getD (q - 100) []).getD j.toNatClampNeg 0) :: r, h)
    | _ => none
  | .getstatic _ => match aux with
    | [j] :: _ => match sv[j]? with
      | some (_, _, _, v) => some (true, i + 1, L, v :: st, h)
      | none => none
    | _ => none
  | .i2c => match st with
    | .int x :: r => some (true, i + 1, L, .int (x.toUInt32 % 65536).toInt32 :: r, h)
    | _ => none
  | _ => none
/-- a return: does the answer fit, the answer -/
def a_fin (ins : Instr) (aux : aX) (st : List Value) : Option (Bool × Option Value) := match ins with
  | .ireturn => match st, aux with
    | [.int x], [0] :: _ => some (true, some (.int x))
    | [.int x], [1] :: _ => some (decide (x = 0) || decide (x = 1), some (.int x))
    | [.int x], [2] :: _ => some (decide (x.toInt8.toInt32 = x), some (.int x))
    | [.int x], [3] :: _ => some (decide (x.toUInt32.toUInt16.toUInt32.toInt32 = x), some (.int x))
    | _, _ => some (false, none)
  | .lreturn => match st with
    | [.long x] => some (true, some (.long x))
    | _ => some (false, none)
  | .areturn => match st with
    | [.ref x] => some (true, some (.ref x))
    | [.retAddr x] => some (true, some (.retAddr x))
    | [.null] => some (true, some .null)
    | _ => some (false, none)
  | .return_ => match st with
    | [] => some (true, none)
    | _ => some (false, none)
  | _ => none
/-- which method an entry ci, method, .. names for the class ci -/
def a_vt (ci : Nat) : aX → Option Nat
  | (c :: k :: _) :: r => if c = ci then some k else a_vt ci r
  | _ => none
/-- a call of a method that is walked: its number, its arguments, what is left on the stack -/
def a_cal (nt : Nat) (ins : Instr) (aux : aX) (st : List Value) (h : List aC) : Option (Nat × List Value × List Value) := match ins with
  | .invokestatic _ => match aux with
    | [0, k, n] :: _ => if n ≤ st.length then some (k, (st.take n).reverse, st.drop n) else none
    | [6, k, n] :: _ => if n ≤ st.length then some (k, (st.take n).reverse, st.drop n) else none
    | _ => none
  | .invokespecial _ => match aux with
    | [0, k, n] :: _ => match st.drop n with
      | .ref a :: r => some (k, .ref a :: (st.take n).reverse, r)
      | _ => none
    | [2, k, n] :: _ => match st.drop n with
      | .ref a :: r => match h[a]? with
        | some (.inr _) => some (k, .ref a :: (st.take n).reverse, r)
        | _ => none
      | _ => none
    | [7, k, n] :: _ => match st.drop n with
      | .ref a :: r => match h[a]? with
        | some (.inr _) => some (k, .ref a :: (st.take n).reverse, r)
        | _ => none
      | _ => none
    | _ => none
  | .invokevirtual _ => match aux with
    | [0, n] :: vt => match st.drop n with
      | .ref a :: r => match h[a]? with
        | some (.inr (ci, _)) => match a_vt ci vt with
          | some k => some (k, .ref a :: (st.take n).reverse, r)
          | none => none
        | _ => none
      | _ => none
    | [5, k, n] :: _ => match st.drop n with
      | .retAddr a :: r => if a < nt then some (k, .retAddr a :: (st.take n).reverse, r) else none
      | _ => none
    | _ => none
  | _ => none
def a_ent (ml : Nat) (As : List Value) : aL := As.map some ++ List.replicate (ml - As.length) none
/-- the machine: at most n steps in each frame, at most d frames above this one -/
def a_go (P : List aM) (df : List (List Value)) (tx : List (List Int32)) (sv : List (String × String × String × Value)) (sc : Nat × (Nat → Int32)) : Nat → Nat → Nat → Nat → aL → List Value → List aC → Option (Option Value × List aC)
  | 0, _, _, _, _, _, _ => none
  | n + 1, d, k, i, L, st, h => match P[k]? with
    | none => none
    | some (_, _, _, _, rows) => match rows[i]? with
      | none => none
      | some (_, ins, _, cst, aux) => match a_fin ins aux st with
        | some (g, r) => bif g then some (r, h) else none
        | none => match a_cal tx.length ins aux st h with
          | some (k', As, rest) => match d with
            | 0 => none
            | d' + 1 => match P[k']? with
              | none => none
              | some (_, _, ml, _, _) => bif decide ((rest.map fun v => v.category).sum ≤ 8) && decide (As.length ≤ ml) && As.all (fun v => v.category == 1) then
                  match a_go P df tx sv sc n d' k' 0 (a_ent ml As) [] h with
                  | some (rv, h') => a_go P df tx sv sc n (d' + 1) k (i + 1) L (rv.toList ++ rest) h'
                  | none => none
                else none
          | none => match a_s1 ins cst aux i L st h with
            | some (g, i', L', st', h') => bif g then a_go P df tx sv sc n d k i' L' st' h' else none
            | none => match a_s2 ins aux i L st h with
              | some (g, i', L', st', h') => bif g then a_go P df tx sv sc n d k i' L' st' h' else none
              | none => match a_s3 df sc ins cst aux i L st h with
                | some (g, i', L', st', h') => bif g then a_go P df tx sv sc n d k i' L' st' h' else none
                | none => match a_s4 ins aux i L st h with
                  | some (g, i', L', st', h') => bif g then a_go P df tx sv sc n d k i' L' st' h' else none
                  | none => match a_s5 tx sv ins aux i L st h with
                    | some (g, i', L', st', h') => bif g then a_go P df tx sv sc n d k i' L' st' h' else none
                    | none => none
end
section
/-! 02.rel: how our machine's state lies in the machine's; rows of locals, constants, the stack, numbers -/
def a_cv (B : Nat) (ad : Nat → Nat) (v : Value) : Value := match v with
  | .ref a => .ref (B + a)
  | .retAddr k => .ref (ad k)
  | .int x => .int x
  | .long x => .long x
  | .float x => .float x
  | .double x => .double x
  | .null => .null
theorem a_cv_cat (B : Nat) (ad : Nat → Nat) (v : Value) : (a_cv B ad v).category = v.category := by cases v <;> rfl
/-- the locals -/
def a_lo (B : Nat) (ad : Nat → Nat) (ls : Array Slot) (L : aL) : Prop := lv_has ls L.length [] ∧ ∀ (j : Nat) (v : Value), L[j]? = some (some v) → ls[j]? = some (.val (a_cv B ad v))
def a_asl (B : Nat) (ad : Nat → Nat) (L : aL) : List (Nat × Value) := (List.range L.length).filterMap (fun j => match L[j]? with
  | some (some v) => some (j, a_cv B ad v)
  | _ => none)
theorem a_asl_mem {B : Nat} {ad : Nat → Nat} {L : aL} {q : Nat × Value} (h : q ∈ a_asl B ad L) : ∃ v, L[q.1]? = some (some v) ∧ q.2 = a_cv B ad v := by
  obtain ⟨j, -, hj⟩ := List.mem_filterMap.mp h
  split at hj
  · rename_i v hv
    cases hj
    exact ⟨v, hv, rfl⟩
  · cases hj
theorem a_asl_of {B : Nat} {ad : Nat → Nat} {L : aL} {j : Nat} {v : Value} (h : L[j]? = some (some v)) : (j, a_cv B ad v) ∈ a_asl B ad L := by
  refine List.mem_filterMap.mpr ⟨j, List.mem_range.mpr (List.getElem?_eq_some_iff.mp h).1, ?_⟩
  simp only [h]
theorem a_lo_has {B : Nat} {ad : Nat → Nat} {ls : Array Slot} {L : aL} (h : a_lo B ad ls L) : lv_has ls L.length (a_asl B ad L) := by
  refine ⟨h.1.1, h.1.2.1, fun q hq => ?_⟩
  obtain ⟨v, h1, h2⟩ := a_asl_mem hq
  rw [h2]
  exact h.2 _ _ h1
theorem a_ld_int {L : aL} {j : Nat} {x : Int32} (h : a_ld L j = .int x) : L[j]? = some (some (.int x)) := by
  unfold a_ld at h
  cases e : L[j]? with
  | none => simp [e] at h
  | some o => cases o with
    | none => simp [e] at h
    | some v => simp [e] at h; rw [h]
theorem a_ld_long {L : aL} {j : Nat} {x : Int64} (h : a_ld L j = .long x) : L[j]? = some (some (.long x)) := by
  unfold a_ld at h
  cases e : L[j]? with
  | none => simp [e] at h
  | some o => cases o with
    | none => simp [e] at h
    | some v => simp [e] at h; rw [h]
theorem a_ld_ref {L : aL} {j : Nat} {x : Nat} (h : a_ld L j = .ref x) : L[j]? = some (some (.ref x)) := by
  unfold a_ld at h
  cases e : L[j]? with
  | none => simp [e] at h
  | some o => cases o with
    | none => simp [e] at h
    | some v => simp [e] at h; rw [h]
theorem a_ld_ra {L : aL} {j : Nat} {x : Nat} (h : a_ld L j = .retAddr x) : L[j]? = some (some (.retAddr x)) := by
  unfold a_ld at h
  cases e : L[j]? with
  | none => simp [e] at h
  | some o => cases o with
    | none => simp [e] at h
    | some v => simp [e] at h; rw [h]
theorem a_ld_null {L : aL} {j : Nat} (h : a_ld L j = .null) : L[j]? = some (some .null) := by
  unfold a_ld at h
  cases e : L[j]? with
  | none => simp [e] at h
  | some o => cases o with
    | none => simp [e] at h
    | some v => simp [e] at h; rw [h]
/-- what a store leaves of the others -/
theorem a_lo_set {B : Nat} {ad : Nat → Nat} {ls : Array Slot} {L : aL} {j : Nat} {v : Value} (hg : a_pg L j = true)
    (h : lv_has ls L.length ((j, a_cv B ad v) :: (a_asl B ad L).filter (fun q => !(q.1 == j) && !(q.1 + 1 == j && q.2.category == 2)))) : a_lo B ad ls (L.set j (some v)) := by
  unfold a_pg at hg
  simp only [Bool.and_eq_true, decide_eq_true_eq, Bool.or_eq_true, beq_iff_eq] at hg
  refine ⟨by rw [List.length_set]; exact ⟨h.1, h.2.1, fun q hq => by cases hq⟩, fun i w hi => ?_⟩
  by_cases hij : j = i
  · subst hij
    rw [List.getElem?_set_self hg.1] at hi
    cases hi
    exact h.2.2 _ List.mem_cons_self
  · rw [List.getElem?_set_ne hij] at hi
    refine h.2.2 (i, a_cv B ad w) (List.mem_cons_of_mem _ (List.mem_filter.mpr ⟨a_asl_of hi, ?_⟩))
    have h1 : (i == j) = false := by simpa using fun e : i = j => hij e.symm
    simp only [h1, Bool.not_false, Bool.true_and, Bool.not_eq_true', Bool.and_eq_false_imp, beq_iff_eq]
    intro e
    have h2 : j ≠ 0 := by omega
    have h3 := hg.2.resolve_left h2
    have h4 : a_ld L (j - 1) = w := by unfold a_ld; rw [show j - 1 = i by omega, hi]; rfl
    rw [h4] at h3
    simp [a_cv_cat, h3]
theorem a_lo_set2 {B : Nat} {ad : Nat → Nat} {ls : Array Slot} {L : aL} {j : Nat} {v : Value} (hg : a_pg2 L j = true)
    (h : lv_has ls L.length ((j, a_cv B ad v) :: (a_asl B ad L).filter (fun q => !(q.1 == j) && (!(q.1 == j + 1) && !(q.1 + 1 == j && q.2.category == 2))))) : a_lo B ad ls ((L.set j (some v)).set (j + 1) none) := by
  unfold a_pg2 at hg
  simp only [Bool.and_eq_true, decide_eq_true_eq, Bool.or_eq_true, beq_iff_eq] at hg
  refine ⟨by rw [List.length_set, List.length_set]; exact ⟨h.1, h.2.1, fun q hq => by cases hq⟩, fun i w hi => ?_⟩
  by_cases hij1 : j + 1 = i
  · subst hij1
    rw [List.getElem?_set_self (by rw [List.length_set]; exact hg.1)] at hi
    cases hi
  rw [List.getElem?_set_ne hij1] at hi
  by_cases hij : j = i
  · subst hij
    rw [List.getElem?_set_self (by omega)] at hi
    cases hi
    exact h.2.2 _ List.mem_cons_self
  · rw [List.getElem?_set_ne hij] at hi
    refine h.2.2 (i, a_cv B ad w) (List.mem_cons_of_mem _ (List.mem_filter.mpr ⟨a_asl_of hi, ?_⟩))
    have h1 : (i == j) = false := by simpa using fun e : i = j => hij e.symm
    have h1b : (i == j + 1) = false := by simpa using fun e : i = j + 1 => hij1 e.symm
    simp only [h1, h1b, Bool.not_false, Bool.true_and, Bool.not_eq_true', Bool.and_eq_false_imp, beq_iff_eq]
    intro e
    have h2 : j ≠ 0 := by omega
    have h3 := hg.2.resolve_left h2
    have h4 : a_ld L (j - 1) = w := by unfold a_ld; rw [show j - 1 = i by omega, hi]; rfl
    rw [h4] at h3
    simp [a_cv_cat, h3]
theorem a_pg_lt {L : aL} {j : Nat} (h : a_pg L j = true) : j < L.length := by
  unfold a_pg at h
  simp only [Bool.and_eq_true, decide_eq_true_eq] at h
  exact h.1
theorem a_pg2_lt {L : aL} {j : Nat} (h : a_pg2 L j = true) : j + 1 < L.length := by
  unfold a_pg2 at h
  simp only [Bool.and_eq_true, decide_eq_true_eq] at h
  exact h.1
section AR
variable {p : Program} {l : Launch} {e : Env} {R : Room} {s : State} {m : MethodId} {args : Array Value} {below : List Frame} {meth : Method} {c : Code} {H : Heap} {locs : List Loc} {cells slots : Nat} {Q : State → Prop}
variable {cc : ByteArray} {pc : Nat} {ls : Array Slot} {B : Nat} {ad : Nat → Nat}
/-- locals, constants, the stack, numbers: a step of ours is a step of the machine -/
theorem a_s1_ok (hx : p.tables.exec = Jvm.exec) (hb : c.code = cc) {ins : Instr} {len : Nat} {cst : Int32} {aux : aX} (hdg : decode cc pc = .ok (ins, len)) (hk : a_k1 ins len cst = true)
    {i i' : Nat} {L L' : aL} {st st' : List Value} {h h' : List aC} (hlo : a_lo B ad ls L) (hs : a_s1 ins cst aux i L st h = some (true, i', L', st', h'))
    (kk : ∀ ls' : Array Slot, i' = i + 1 → h' = h → L'.length = L.length → a_lo B ad ls' L' → W p l e R s m args below meth c H locs cells slots Q (F0 m (pc + len) ls' (st'.map (a_cv B ad)))) :
    W p l e R s m args below meth c H locs cells slots Q (F0 m pc ls (st.map (a_cv B ad))) := by
  unfold a_s1 at hs
  split at hs
  case h_1 n =>
    simp only [a_k1, Bool.and_eq_true, beq_iff_eq, decide_eq_true_eq] at hk
    obtain ⟨rfl, hc⟩ := hk
    cases hs
    exact lv_iconst hx hb hdg hc (kk ls rfl rfl rfl hlo)
  case h_2 n =>
    simp only [a_k1, Bool.and_eq_true, beq_iff_eq, decide_eq_true_eq] at hk
    obtain ⟨rfl, hc⟩ := hk
    cases hs
    exact lv_bipush hx hb hdg hc (kk ls rfl rfl rfl hlo)
  case h_3 n =>
    simp only [a_k1, Bool.and_eq_true, beq_iff_eq, decide_eq_true_eq] at hk
    obtain ⟨rfl, hc⟩ := hk
    cases hs
    exact lv_sipush hx hb hdg hc (kk ls rfl rfl rfl hlo)
  case h_4 n =>
    simp only [a_k1, beq_iff_eq] at hk
    subst hk
    cases hs
    exact lv_lconst hx hb hdg rfl (kk ls rfl rfl rfl hlo)
  case h_5 =>
    simp only [a_k1, beq_iff_eq] at hk
    subst hk
    cases hs
    exact lv_null hx hb hdg (kk ls rfl rfl rfl hlo)
  case h_6 k =>
    simp only [a_k1, beq_iff_eq] at hk
    subst hk
    unfold a_li at hs
    split at hs
    · rename_i x hv
      cases hs
      exact lv_iload_n hx hb hdg rfl (hlo.2 _ _ (a_ld_int hv)) (kk ls rfl rfl rfl hlo)
    · cases hs
  case h_7 k =>
    simp only [a_k1, beq_iff_eq] at hk
    subst hk
    unfold a_li at hs
    split at hs
    · rename_i x hv
      cases hs
      exact lv_iload hx hb hdg (hlo.2 _ _ (a_ld_int hv)) (kk ls rfl rfl rfl hlo)
    · cases hs
  case h_8 k =>
    simp only [a_k1, beq_iff_eq] at hk
    subst hk
    unfold a_ll at hs
    split at hs
    · rename_i x hv
      cases hs
      exact lv_lload_n hx hb hdg rfl (hlo.2 _ _ (a_ld_long hv)) (kk ls rfl rfl rfl hlo)
    · cases hs
  case h_9 k =>
    simp only [a_k1, beq_iff_eq] at hk
    subst hk
    unfold a_la at hs
    split at hs
    · rename_i x hv
      cases hs
      exact lv_aload_n hx hb hdg rfl (hlo.2 _ _ (a_ld_ref hv)) (kk ls rfl rfl rfl hlo)
    · rename_i x hv
      cases hs
      exact lv_aload_n hx hb hdg rfl (hlo.2 _ _ (a_ld_ra hv)) (kk ls rfl rfl rfl hlo)
    · rename_i hv
      cases hs
      exact lv_aload_nN hx hb hdg rfl (hlo.2 _ _ (a_ld_null hv)) (kk ls rfl rfl rfl hlo)
    · cases hs
  case h_10 k =>
    simp only [a_k1, beq_iff_eq] at hk
    subst hk
    unfold a_la at hs
    split at hs
    · rename_i x hv
      cases hs
      exact lv_aload hx hb hdg (hlo.2 _ _ (a_ld_ref hv)) (kk ls rfl rfl rfl hlo)
    · rename_i x hv
      cases hs
      exact lv_aload hx hb hdg (hlo.2 _ _ (a_ld_ra hv)) (kk ls rfl rfl rfl hlo)
    · rename_i hv
      cases hs
      exact lv_aloadN hx hb hdg (hlo.2 _ _ (a_ld_null hv)) (kk ls rfl rfl rfl hlo)
    · cases hs
  case h_11 k =>
    simp only [a_k1, beq_iff_eq] at hk
    subst hk
    unfold a_si at hs
    split at hs
    · rename_i x r
      simp only [Option.some.injEq, Prod.mk.injEq] at hs
      obtain ⟨hg, rfl, rfl, rfl, rfl⟩ := hs
      exact lv_istore_n hx hb hdg rfl (a_lo_has hlo) (a_pg_lt hg) rfl (fun ls' hl => kk ls' rfl rfl (List.length_set ..) (a_lo_set hg hl))
    · cases hs
  case h_12 k =>
    simp only [a_k1, beq_iff_eq] at hk
    subst hk
    unfold a_si at hs
    split at hs
    · rename_i x r
      simp only [Option.some.injEq, Prod.mk.injEq] at hs
      obtain ⟨hg, rfl, rfl, rfl, rfl⟩ := hs
      exact lv_istore hx hb hdg (a_lo_has hlo) (a_pg_lt hg) rfl (fun ls' hl => kk ls' rfl rfl (List.length_set ..) (a_lo_set hg hl))
    · cases hs
  case h_13 k =>
    simp only [a_k1, beq_iff_eq] at hk
    subst hk
    unfold a_sl at hs
    split at hs
    · rename_i x r
      simp only [Option.some.injEq, Prod.mk.injEq] at hs
      obtain ⟨hg, rfl, rfl, rfl, rfl⟩ := hs
      exact lv_lstore_n hx hb hdg rfl (a_lo_has hlo) (a_pg2_lt hg) rfl (fun ls' hl => kk ls' rfl rfl (by rw [List.length_set, List.length_set]) (a_lo_set2 hg hl))
    · cases hs
  case h_14 k =>
    simp only [a_k1, beq_iff_eq] at hk
    subst hk
    unfold a_sa at hs
    split at hs
    · rename_i x r
      simp only [Option.some.injEq, Prod.mk.injEq] at hs
      obtain ⟨hg, rfl, rfl, rfl, rfl⟩ := hs
      exact lv_astore_n hx hb hdg rfl (a_lo_has hlo) (a_pg_lt hg) rfl (fun ls' hl => kk ls' rfl rfl (List.length_set ..) (a_lo_set hg hl))
    · rename_i r
      simp only [Option.some.injEq, Prod.mk.injEq] at hs
      obtain ⟨hg, rfl, rfl, rfl, rfl⟩ := hs
      exact lv_astore_nN hx hb hdg rfl (a_lo_has hlo) (a_pg_lt hg) rfl (fun ls' hl => kk ls' rfl rfl (List.length_set ..) (a_lo_set hg hl))
    · cases hs
  case h_15 k =>
    simp only [a_k1, beq_iff_eq] at hk
    subst hk
    unfold a_sa at hs
    split at hs
    · rename_i x r
      simp only [Option.some.injEq, Prod.mk.injEq] at hs
      obtain ⟨hg, rfl, rfl, rfl, rfl⟩ := hs
      exact lv_astore hx hb hdg (a_lo_has hlo) (a_pg_lt hg) rfl (fun ls' hl => kk ls' rfl rfl (List.length_set ..) (a_lo_set hg hl))
    · rename_i r
      simp only [Option.some.injEq, Prod.mk.injEq] at hs
      obtain ⟨hg, rfl, rfl, rfl, rfl⟩ := hs
      exact lv_astoreN hx hb hdg (a_lo_has hlo) (a_pg_lt hg) rfl (fun ls' hl => kk ls' rfl rfl (List.length_set ..) (a_lo_set hg hl))
    · cases hs
  case h_16 k n =>
    simp only [a_k1, Bool.and_eq_true, beq_iff_eq, decide_eq_true_eq] at hk
    obtain ⟨rfl, hc⟩ := hk
    split at hs
    · rename_i x hv
      simp only [Option.some.injEq, Prod.mk.injEq] at hs
      obtain ⟨hg, rfl, rfl, rfl, rfl⟩ := hs
      obtain ⟨q, hq⟩ := List.getElem?_of_mem (a_asl_of (B := B) (ad := ad) (a_ld_int hv))
      exact lv_iinc hx hb hdg (a_lo_has hlo) hq (by rw [hc]) (a_pg_lt hg) rfl (fun ls' hl => kk ls' rfl rfl (List.length_set ..) (a_lo_set hg hl))
    · cases hs
  case h_17 =>
    simp only [a_k1, beq_iff_eq] at hk
    subst hk
    split at hs
    · cases hs
      exact lv_iadd hx hb hdg (kk ls rfl rfl rfl hlo)
    · cases hs
  case h_18 =>
    simp only [a_k1, beq_iff_eq] at hk
    subst hk
    split at hs
    · cases hs
      exact lv_isub hx hb hdg (kk ls rfl rfl rfl hlo)
    · cases hs
  case h_19 =>
    simp only [a_k1, beq_iff_eq] at hk
    subst hk
    split at hs
    · cases hs
      exact lv_imul hx hb hdg (kk ls rfl rfl rfl hlo)
    · cases hs
  case h_20 =>
    simp only [a_k1, beq_iff_eq] at hk
    subst hk
    split at hs
    · cases hs
      exact lv_iand hx hb hdg (kk ls rfl rfl rfl hlo)
    · cases hs
  case h_21 =>
    simp only [a_k1, beq_iff_eq] at hk
    subst hk
    split at hs
    · cases hs
      exact lv_ior hx hb hdg (kk ls rfl rfl rfl hlo)
    · cases hs
  case h_22 =>
    simp only [a_k1, beq_iff_eq] at hk
    subst hk
    split at hs
    · cases hs
      exact lv_ixor hx hb hdg (kk ls rfl rfl rfl hlo)
    · cases hs
  case h_23 =>
    simp only [a_k1, beq_iff_eq] at hk
    subst hk
    split at hs
    · cases hs
      exact lv_ishl hx hb hdg (kk ls rfl rfl rfl hlo)
    · cases hs
  case h_24 =>
    simp only [a_k1, beq_iff_eq] at hk
    subst hk
    split at hs
    · cases hs
      exact lv_ishr hx hb hdg (kk ls rfl rfl rfl hlo)
    · cases hs
  case h_25 =>
    simp only [a_k1, beq_iff_eq] at hk
    subst hk
    split at hs
    · simp only [Option.some.injEq, Prod.mk.injEq, decide_eq_true_eq] at hs
      obtain ⟨hg, rfl, rfl, rfl, rfl⟩ := hs
      exact lv_idiv hx hb hdg hg (kk ls rfl rfl rfl hlo)
    · cases hs
  case h_26 =>
    simp only [a_k1, beq_iff_eq] at hk
    subst hk
    split at hs
    · simp only [Option.some.injEq, Prod.mk.injEq, decide_eq_true_eq] at hs
      obtain ⟨hg, rfl, rfl, rfl, rfl⟩ := hs
      exact lv_irem hx hb hdg hg (kk ls rfl rfl rfl hlo)
    · cases hs
  case h_27 =>
    simp only [a_k1, beq_iff_eq] at hk
    subst hk
    split at hs
    · cases hs
      exact lv_ineg hx hb hdg (kk ls rfl rfl rfl hlo)
    · cases hs
  case h_28 =>
    simp only [a_k1, beq_iff_eq] at hk
    subst hk
    split at hs
    · cases hs
      exact lv_lor hx hb hdg (kk ls rfl rfl rfl hlo)
    · cases hs
  case h_29 =>
    simp only [a_k1, beq_iff_eq] at hk
    subst hk
    split at hs
    · cases hs
      exact lv_lshl hx hb hdg rfl (kk ls rfl rfl rfl hlo)
    · cases hs
  case h_30 =>
    simp only [a_k1, beq_iff_eq] at hk
    subst hk
    split at hs
    · cases hs
      exact W.lcmp hx hb hdg (kk ls rfl rfl rfl hlo)
    · cases hs
  case h_31 =>
    simp only [a_k1, beq_iff_eq] at hk
    subst hk
    split at hs
    · simp only [Option.some.injEq, Prod.mk.injEq, beq_iff_eq] at hs
      obtain ⟨hg, rfl, rfl, rfl, rfl⟩ := hs
      exact lv_dup hx hb hdg (by rw [a_cv_cat]; exact hg) (kk ls rfl rfl rfl hlo)
    · cases hs
  case h_32 =>
    simp only [a_k1, beq_iff_eq] at hk
    subst hk
    split at hs
    · simp only [Option.some.injEq, Prod.mk.injEq, Bool.and_eq_true, beq_iff_eq] at hs
      obtain ⟨hg, rfl, rfl, rfl, rfl⟩ := hs
      exact lv_dup2_11 hx hb hdg (by rw [a_cv_cat]; exact hg.1) (by rw [a_cv_cat]; exact hg.2) (kk ls rfl rfl rfl hlo)
    · cases hs
  case h_33 =>
    simp only [a_k1, beq_iff_eq] at hk
    subst hk
    split at hs
    · simp only [Option.some.injEq, Prod.mk.injEq, beq_iff_eq] at hs
      obtain ⟨hg, rfl, rfl, rfl, rfl⟩ := hs
      exact lv_pop hx hb hdg (by rw [a_cv_cat]; exact hg) (kk ls rfl rfl rfl hlo)
    · cases hs
  case h_34 => cases hs
end AR
end
section
/-! 03.flow: branches and switches -/
/-- the targets of row i lie where the offsets say (pf: a row's place in the bytes) -/
def a_k2 (ins : Instr) (len : Nat) (aux : aX) (pf : Nat → Nat) (i : Nat) : Bool := match ins with
  | .goto off => len == 3 && match aux with
    | [t] :: _ => decide ((pf i : Int) + off = (pf t : Int))
    | _ => false
  | .if_icmp _ off => len == 3 && pf (i + 1) == pf i + 3 && match aux with
    | [t] :: _ => decide ((pf i : Int) + off = (pf t : Int))
    | _ => false
  | .ifCond _ off => len == 3 && pf (i + 1) == pf i + 3 && match aux with
    | [t] :: _ => decide ((pf i : Int) + off = (pf t : Int))
    | _ => false
  | .ifnull off => len == 3 && pf (i + 1) == pf i + 3 && match aux with
    | [t] :: _ => decide ((pf i : Int) + off = (pf t : Int))
    | _ => false
  | .ifnonnull off => len == 3 && pf (i + 1) == pf i + 3 && match aux with
    | [t] :: _ => decide ((pf i : Int) + off = (pf t : Int))
    | _ => false
  | .tableswitch d lo hi offs => match aux with
    | [dt] :: ts :: _ => decide ((pf i : Int) + d = (pf dt : Int)) && decide (lo + (offs.toList.length : Int) = hi + 1) && decide (offs.toList.length = ts.length) && (offs.toList.zip ts).all (fun q => decide ((pf i : Int) + q.1 = (pf q.2 : Int)))
    | _ => false
  | .lookupswitch d ps => match aux with
    | [dt] :: ts :: _ => decide ((pf i : Int) + d = (pf dt : Int)) && (ps.toList.zip (ps.toList.drop 1)).all (fun (a, next) => a.1 < next.1) && decide (ps.toList.length = ts.length) && (ps.toList.zip ts).all (fun q => decide ((pf i : Int) + q.1.2 = (pf q.2 : Int)))
    | _ => false
  | _ => false
theorem a_lsw_ok {d : Int} {dt P : Nat} {pf : Nat → Nat} (hd : (P : Int) + d = (pf dt : Int)) (x : Int32) : ∀ (ps : List (Int × Int)) (ts : List Nat), ps.length = ts.length → (∀ q ∈ ps.zip ts, (P : Int) + q.1.2 = (pf q.2 : Int)) → (P : Int) + Op.lookupswitch.offset ps d x.toInt = (pf (a_lsw dt ps ts x) : Int) := by
  intro ps
  induction ps with
  | nil =>
    intro ts _ _
    cases ts <;> exact hd
  | cons q ps ih =>
    intro ts hl ha
    cases ts with
    | nil => simp at hl
    | cons t ts =>
      obtain ⟨a, o⟩ := q
      rw [Op.lookupswitch.offset_cons]
      simp only [a_lsw]
      by_cases hx : x.toInt = a
      · rw [if_pos hx.symm, if_pos hx]
        exact ha ((a, o), t) (by simp)
      · rw [if_neg (fun q => hx q.symm), if_neg hx]
        exact ih ts (by simpa using hl) (fun q hq => ha q (by simp only [List.zip_cons_cons, List.mem_cons]; exact Or.inr hq))
section AR
variable {p : Program} {l : Launch} {e : Env} {R : Room} {s : State} {m : MethodId} {args : Array Value} {below : List Frame} {meth : Method} {c : Code} {H : Heap} {locs : List Loc} {cells slots : Nat} {Q : State → Prop}
variable {cc : ByteArray} {ls : Array Slot} {B : Nat} {ad : Nat → Nat} {pf : Nat → Nat}
theorem a_ic_ok (hx : p.tables.exec = Jvm.exec) (hb : c.code = cc) {cd : ClassFile.Cond} {off : Int} {P t n : Nat} {rest : List Value} {x y : Int32} (hdg : decode cc P = .ok (.if_icmp cd off, 3)) (ht : (P : Int) + off = (pf t : Int)) (hn : pf n = P + 3)
    (kk : W p l e R s m args below meth c H locs cells slots Q (F0 m (pf (bif a_ic cd x y then t else n)) ls rest)) : W p l e R s m args below meth c H locs cells slots Q (F0 m P ls (.int y :: .int x :: rest)) := by
  cases cd with
  | eq => exact lv_icmp_eq hx hb hdg ht (fun q => by simpa [a_ic, q] using kk) (fun q => by rw [← hn]; simpa [a_ic, q] using kk)
  | ne => exact lv_icmp_ne hx hb hdg ht (fun q => by simpa [a_ic, q] using kk) (fun q => by rw [← hn]; simpa [a_ic, q] using kk)
  | lt => exact lv_icmp_lt hx hb hdg ht (fun q => by simpa [a_ic, q] using kk) (fun q => by rw [← hn]; simpa [a_ic, q] using kk)
  | ge => exact lv_icmp_ge hx hb hdg ht (fun q => by simpa [a_ic, q] using kk) (fun q => by rw [← hn]; simpa [a_ic, q] using kk)
  | gt => exact lv_icmp_gt hx hb hdg ht (fun q => by simpa [a_ic, q] using kk) (fun q => by rw [← hn]; simpa [a_ic, q] using kk)
  | le => exact lv_icmp_le hx hb hdg ht (fun q => by simpa [a_ic, q] using kk) (fun q => by rw [← hn]; simpa [a_ic, q] using kk)
theorem a_if_ok (hx : p.tables.exec = Jvm.exec) (hb : c.code = cc) {cd : ClassFile.Cond} {off : Int} {P t n : Nat} {rest : List Value} {x : Int32} (hdg : decode cc P = .ok (.ifCond cd off, 3)) (ht : (P : Int) + off = (pf t : Int)) (hn : pf n = P + 3)
    (kk : W p l e R s m args below meth c H locs cells slots Q (F0 m (pf (bif a_ic cd x 0 then t else n)) ls rest)) : W p l e R s m args below meth c H locs cells slots Q (F0 m P ls (.int x :: rest)) := by
  cases cd with
  | eq => exact lv_if_eq hx hb hdg ht (fun q => by simpa [a_ic, q] using kk) (fun q => by rw [← hn]; simpa [a_ic, q] using kk)
  | ne => exact lv_if_ne hx hb hdg ht (fun q => by simpa [a_ic, q] using kk) (fun q => by rw [← hn]; simpa [a_ic, q] using kk)
  | lt => exact lv_if_lt hx hb hdg ht (fun q => by simpa [a_ic, q] using kk) (fun q => by rw [← hn]; simpa [a_ic, q] using kk)
  | ge => exact lv_if_ge hx hb hdg ht (fun q => by simpa [a_ic, q] using kk) (fun q => by rw [← hn]; simpa [a_ic, q] using kk)
  | gt => exact lv_if_gt hx hb hdg ht (fun q => by simpa [a_ic, q] using kk) (fun q => by rw [← hn]; simpa [a_ic, q] using kk)
  | le => exact lv_if_le hx hb hdg ht (fun q => by simpa [a_ic, q] using kk) (fun q => by rw [← hn]; simpa [a_ic, q] using kk)
theorem a_s2_ok (hx : p.tables.exec = Jvm.exec) (hb : c.code = cc) {ins : Instr} {len : Nat} {aux : aX} {i i' : Nat} (hdg : decode cc (pf i) = .ok (ins, len)) (hk : a_k2 ins len aux pf i = true)
    {L L' : aL} {st st' : List Value} {h h' : List aC} (hs : a_s2 ins aux i L st h = some (true, i', L', st', h'))
    (kk : L' = L → h' = h → W p l e R s m args below meth c H locs cells slots Q (F0 m (pf i') ls (st'.map (a_cv B ad)))) :
    W p l e R s m args below meth c H locs cells slots Q (F0 m (pf i) ls (st.map (a_cv B ad))) := by
  unfold a_s2 at hs
  split at hs
  case h_1 off =>
    simp only [a_k2, Bool.and_eq_true, beq_iff_eq] at hk
    obtain ⟨rfl, hk⟩ := hk
    split at hs
    · simp only [decide_eq_true_eq] at hk
      cases hs
      exact lv_goto hx hb hdg hk (kk rfl rfl)
    · cases hs
  case h_2 cd off =>
    simp only [a_k2, Bool.and_eq_true, beq_iff_eq] at hk
    obtain ⟨⟨rfl, hn⟩, hk⟩ := hk
    split at hs
    · simp only [decide_eq_true_eq] at hk
      cases hs
      exact a_ic_ok hx hb hdg hk hn (kk rfl rfl)
    · cases hs
  case h_3 cd off =>
    simp only [a_k2, Bool.and_eq_true, beq_iff_eq] at hk
    obtain ⟨⟨rfl, hn⟩, hk⟩ := hk
    split at hs
    · simp only [decide_eq_true_eq] at hk
      cases hs
      exact a_if_ok hx hb hdg hk hn (kk rfl rfl)
    · cases hs
  case h_4 off =>
    simp only [a_k2, Bool.and_eq_true, beq_iff_eq] at hk
    obtain ⟨⟨rfl, hn⟩, hk⟩ := hk
    split at hs
    · simp only [decide_eq_true_eq] at hk
      cases hs
      exact lv_ifnullN hx hb hdg hk (kk rfl rfl)
    · cases hs
      exact lv_ifnull hx hb hdg (by rw [← hn]; exact kk rfl rfl)
    · cases hs
  case h_5 off =>
    simp only [a_k2, Bool.and_eq_true, beq_iff_eq] at hk
    obtain ⟨⟨rfl, hn⟩, hk⟩ := hk
    split at hs
    · cases hs
      exact lv_ifnonnullN hx hb hdg (by rw [← hn]; exact kk rfl rfl)
    · simp only [decide_eq_true_eq] at hk
      cases hs
      exact lv_ifnonnull hx hb hdg hk (kk rfl rfl)
    · cases hs
  case h_6 d lo hi offs =>
    split at hs
    · rename_i x r dt ts _
      simp only [a_k2, Bool.and_eq_true, decide_eq_true_eq, List.all_eq_true] at hk
      obtain ⟨⟨⟨hd, hl⟩, hlen⟩, ha⟩ := hk
      cases hs
      by_cases hout : x.toInt < lo ∨ hi < x.toInt
      · refine lv_tableOut hx hb hdg hout hd ?_
        simpa [a_tsw, hout] using kk rfl rfl
      · have h1 : ¬ x.toInt < lo := fun q => hout (Or.inl q)
        have h2 : ¬ hi < x.toInt := fun q => hout (Or.inr q)
        have hlt : (x.toInt - lo).toNat < offs.toList.length := by omega
        have hlt2 : (x.toInt - lo).toNat < ts.length := by omega
        have ho : offs[(x.toInt - lo).toNat]? = some (offs.toList[(x.toInt - lo).toNat]) := by rw [← Array.getElem?_toList, List.getElem?_eq_getElem hlt]
        have hz : (offs.toList[(x.toInt - lo).toNat], ts[(x.toInt - lo).toNat]) ∈ offs.toList.zip ts := by
          refine List.mem_of_getElem? (i := (x.toInt - lo).toNat) ?_
          rw [List.getElem?_zip_eq_some]
          exact ⟨List.getElem?_eq_getElem hlt, List.getElem?_eq_getElem hlt2⟩
        have ht := ha _ hz
        refine lv_tableIn hx hb hdg h1 h2 ho ht ?_
        have hk := kk rfl rfl
        simp only [a_tsw, if_neg hout] at hk
        rw [List.getD_eq_getElem?_getD, List.getElem?_eq_getElem hlt2] at hk
        exact hk
    · cases hs
  case h_7 d ps =>
    split at hs
    · rename_i x r dt ts _
      simp only [a_k2, Bool.and_eq_true, decide_eq_true_eq] at hk
      obtain ⟨⟨⟨hd, hp⟩, hlen⟩, ha⟩ := hk
      cases hs
      refine lv_lookup hx hb hdg hp rfl (a_lsw_ok hd x ps.toList ts hlen (fun q hq => by simpa using List.all_eq_true.mp ha q hq)) (kk rfl rfl)
    · cases hs
  case h_8 => cases hs
end AR
end
section
/-! 04.heap: our heap in the machine's; rows of fields and arrays -/
def a_cA (B : Nat) (x : vp_A) : vp_A := match x with
  | (n, .inr (.inr (.inr (.inr f)))) => (n, .inr (.inr (.inr (.inr (fun j => (f j).map (fun q => B + q))))))
  | (n, .inr (.inr (.inr (.inl f)))) => (n, .inr (.inr (.inr (.inl f))))
  | (n, .inr (.inr (.inl f))) => (n, .inr (.inr (.inl f)))
  | (n, .inr (.inl f)) => (n, .inr (.inl f))
  | (n, .inl f) => (n, .inl f)
def a_cE (B : Nat) (ad : Nat → Nat) (dA : Nat → ClassId) (x : aC) : va_E := match x with
  | .inl (k, x) => .inl (dA k, a_cA B x)
  | .inr (ci, fs) => .inr (ci, fs.map (a_cv B ad))
/-- the heap h of ours lies in H from B on, and nothing is behind it -/
def a_hp (B : Nat) (ad : Nat → Nat) (D : va_G) (dA : Nat → ClassId) (cl : List vw_C) (h : List aC) (H : Heap) : Prop :=
  H.size = B + h.length ∧ ∀ (j : Nat) (x : aC), h[j]? = some x → va_at D cl (B + j, a_cE B ad dA x) H
def a_tys (dA : Nat → ClassId) (E : String) : List (ClassId × FieldType) := [(dA 0, .int), (dA 1, .boolean), (dA 2, .object E)]
/-- what is asked of the table of classes -/
def a_cls (cl : List vw_C) (ty : Nat → Nat → FieldType) (df : List (List Value)) (TB : List Jvm.Cond) : Prop :=
  ∀ (ci : Nat) (C : String) (T : u_T) (N : Nat), cl[ci]? = some (C, T, N) → (∀ w ∈ u_ws C T N, w ∈ TB) ∧ (∀ k, k < N → parseFieldDescriptor (T k).2.2.1 = some (ty ci k)) ∧ (∀ a, a < N → ∀ b, b < N → a ≠ b → (T a).2.1 ≠ (T b).2.1) ∧ ∀ fs, df[ci]? = some fs → fs.length = N ∧ (∀ j, j < N → defaultValue (ty ci j) = vp_V fs j) ∧ ∀ v ∈ fs, v = .int 0 ∨ v = .null
theorem a_hp_P {B : Nat} {ad : Nat → Nat} {D : va_G} {dA : Nat → ClassId} {cl : List vw_C} {h : List aC} {H : Heap} {j : Nat} {x : aC} (hh : a_hp B ad D dA cl h H) (hj : h[j]? = some x) : va_P D cl [(B + j, a_cE B ad dA x)] H := by
  intro k q hq
  match k, hq with
  | 0, hq => cases hq; exact hh.2 j x hj
  | k + 1, hq => simp at hq
theorem a_hp_set {B : Nat} {ad : Nat → Nat} {D : va_G} {dA : Nat → ClassId} {cl : List vw_C} {h : List aC} {H H1 : Heap} {j : Nat} {x y : aC} (hh : a_hp B ad D dA cl h H) (hj : h[j]? = some x) (z : H1.size = H.size) (oq : ∀ q : Nat, q ≠ B + j → H1[q]? = H[q]?) (he : va_at D cl (B + j, a_cE B ad dA y) H1) : a_hp B ad D dA cl (h.set j y) H1 := by
  refine ⟨by rw [z, hh.1, List.length_set], fun k w hk => ?_⟩
  by_cases hjk : j = k
  · subst hjk
    rw [List.getElem?_set_self (List.getElem?_eq_some_iff.mp hj).1] at hk
    cases hk
    exact he
  · rw [List.getElem?_set_ne hjk] at hk
    exact (hh.2 k w hk).kept (oq (B + k) (by omega))
theorem a_hp_push {B : Nat} {ad : Nat → Nat} {D : va_G} {dA : Nat → ClassId} {cl : List vw_C} {h : List aC} {H H1 : Heap} {y : aC} (hh : a_hp B ad D dA cl h H) (z : H1.size = H.size + 1) (oq : ∀ q : Nat, q < H.size → H1[q]? = H[q]?) (he : va_at D cl (B + h.length, a_cE B ad dA y) H1) : a_hp B ad D dA cl (h ++ [y]) H1 := by
  refine ⟨by rw [z, hh.1, List.length_append]; simp; omega, fun k w hk => ?_⟩
  by_cases hl : k < h.length
  · rw [List.getElem?_append_left hl] at hk
    exact (hh.2 k w hk).kept (oq (B + k) (by rw [hh.1]; omega))
  · rw [List.getElem?_append_right (by omega)] at hk
    have hz : k - h.length < 1 := (List.getElem?_eq_some_iff.mp hk).1
    have hk0 : k = h.length := by omega
    subst hk0
    simp at hk
    subst hk
    exact he
theorem a_S_put {B : Nat} {H0 H H1 : Heap} {locs : List Loc} {j k : Nat} (hS : va_S (fun q => B ≤ q) H0 H locs) (z : H1.size = H.size) (oq : ∀ q : Nat, q ≠ B + j → H1[q]? = H[q]?) : va_S (fun q => B ≤ q) H0 H1 (locs ++ [⟨B + j, k⟩]) := hS.put z oq (Nat.le_add_right B j)
theorem a_S_push {B : Nat} {H0 H H1 : Heap} {locs : List Loc} (hS : va_S (fun q => B ≤ q) H0 H locs) (z : H1.size = H.size + 1) (oq : ∀ q : Nat, q < H.size → H1[q]? = H[q]?) : va_S (fun q => B ≤ q) H0 H1 locs :=
  ⟨Nat.le_trans hS.1 (by omega), fun q h1 h2 => (oq q (Nat.lt_of_lt_of_le h1 hS.1)).trans (hS.2.1 q h1 h2), hS.2.2⟩
theorem a_in_ok {j : Int32} {n : Nat} (h : a_in j n = true) : vp_in j n := by
  unfold a_in at h
  simp only [Bool.and_eq_true, decide_eq_true_eq] at h
  exact fun q => q.elim h.1 (fun q => by omega)
theorem a_cv_rf (B : Nat) (ad : Nat → Nat) (r : Option Nat) : a_cv B ad (va_rf r) = va_rf (r.map (fun q => B + q)) := by cases r <;> rfl
/-- a value that fits its field -/
theorem a_fk_ok {B : Nat} {ad : Nat → Nat} {tc : Nat} {v : Value} {t : FieldType} (h : a_fk tc v = true) (ht : (tc = 0 ∧ t = .int) ∨ (tc = 1 ∧ t = .boolean) ∨ (tc = 2 ∧ ((∃ n, t = .object n) ∨ ∃ u, t = .array u))) : narrow t (a_cv B ad v) = a_cv B ad v ∧ fits t (a_cv B ad v) = true := by
  rcases ht with ⟨rfl, rfl⟩ | ⟨rfl, rfl⟩ | ⟨rfl, ⟨n, rfl⟩ | ⟨u, rfl⟩⟩
  · cases v <;> simp [a_fk] at h
    exact ⟨rfl, rfl⟩
  · cases v <;> simp [a_fk] at h
    rcases h with rfl | rfl
    · show narrow .boolean (.int 0) = .int 0 ∧ fits .boolean (.int 0) = true
      decide
    · show narrow .boolean (.int 1) = .int 1 ∧ fits .boolean (.int 1) = true
      decide
  · cases v <;> simp [a_fk] at h
    · exact ⟨rfl, rfl⟩
    · exact ⟨rfl, rfl⟩
  · cases v <;> simp [a_fk] at h
    · exact ⟨rfl, rfl⟩
    · exact ⟨rfl, rfl⟩
section AH
variable {p : Program} {l : Launch} {e : Env} {R : Room} {s : State} {m : MethodId} {args : Array Value} {below : List Frame} {meth : Method} {c : Code} {H : Heap} {locs : List Loc} {cells slots : Nat} {Q : State → Prop}
variable {cc : ByteArray} {pc : Nat} {ls : Array Slot} {B : Nat} {ad : Nat → Nat} {D : va_G} {dA : Nat → ClassId} {cl : List vw_C} {ty : Nat → Nat → FieldType} {df : List (List Value)} {TB : List Jvm.Cond} {E : String} {H0 : Heap} {h : List aC} {rest : List Value}
theorem a_getf (hx : p.tables.exec = Jvm.exec) (hb : c.code = cc) (hcl : a_cls cl ty df TB) (hts : ∀ w ∈ TB, w.before args s = true) {own ref : String} (hown : s.vm.findClass own = some m.cls) (hK : va_K D cl (a_tys dA E) s) (hh : a_hp B ad D dA cl h H)
    {a ci index f : Nat} {fs : List Value} {v : Value} (ha : h[a]? = some (.inr (ci, fs))) {C : String} {T : u_T} {N : Nat} (hc : cl[ci]? = some (C, T, N)) (hf : f < N) (hlink : Cond.fieldLink own index ref (T f).2.1 (T f).2.2.1 ∈ TB) (hsame : (T f).1 = ref ∨ Cond.sameField ref (T f).1 (T f).2.1 (T f).2.2.1 ∈ TB) (hv : fs[f]? = some v) (hdg : decode cc pc = .ok (.getfield index, 3))
    (kk : W p l e R s m args below meth c H locs cells slots Q (F0 m (pc + 3) ls (a_cv B ad v :: rest))) : W p l e R s m args below meth c H locs cells slots Q (F0 m pc ls (.ref (B + a) :: rest)) := by
  refine va_get (D := D) (ci := ci) (T := T) (N := N) hx hb hts (hcl ci C T N hc).1 hown hK (a_hp_P hh ha) 0 rfl hc f hf (hts _ hlink) ?_ (by rw [List.getElem?_map, hv]; rfl) hdg kk
  intro x hx
  rcases hsame with q | q
  · rw [← q]; exact hx
  · exact u_same (hts _ q) x hx
theorem a_putf (hx : p.tables.exec = Jvm.exec) (hb : c.code = cc) (hcl : a_cls cl ty df TB) (hts : ∀ w ∈ TB, w.before args s = true) {own ref : String} (hown : s.vm.findClass own = some m.cls) (hK : va_K D cl (a_tys dA E) s) (hh : a_hp B ad D dA cl h H) (hS : va_S (fun q => B ≤ q) H0 H locs)
    {a ci index f : Nat} {fs : List Value} {v : Value} (ha : h[a]? = some (.inr (ci, fs))) {C : String} {T : u_T} {N : Nat} (hc : cl[ci]? = some (C, T, N)) (hf : f < N) (hlink : Cond.fieldLink own index ref (T f).2.1 (T f).2.2.1 ∈ TB) (hsame : (T f).1 = ref ∨ Cond.sameField ref (T f).1 (T f).2.1 (T f).2.2.1 ∈ TB) (hfin : (T f).2.2.2 = false ∨ ((T f).2.2.2 = true ∧ meth.name = "<init>" ∧ (T f).1 = own))
    (hn : narrow (ty ci f) (a_cv B ad v) = a_cv B ad v ∧ fits (ty ci f) (a_cv B ad v) = true) (hl : f < fs.length) (hdg : decode cc pc = .ok (.putfield index, 3))
    (kk : ∀ (H1 : Heap) (locs1 : List Loc), a_hp B ad D dA cl (h.set a (.inr (ci, fs.set f v))) H1 → va_S (fun q => B ≤ q) H0 H1 locs1 → W p l e R s m args below meth c H1 locs1 cells slots Q (F0 m (pc + 3) ls rest)) : W p l e R s m args below meth c H locs cells slots Q (F0 m pc ls (a_cv B ad v :: .ref (B + a) :: rest)) := by
  obtain ⟨hin, hty, hnm, -⟩ := hcl ci C T N hc
  have hap := va_apart (own := own) hts hin (ty ci) hty hnm hK hc
  obtain ⟨r, h1, cell, q1, q2, q3, q4⟩ := hh.2 a _ ha
  have hr : r = (C, T, N) := Option.some.inj (h1.symm.trans hc)
  subst hr
  obtain ⟨hSl, hfc, kC, hkC, hkind⟩ := hK.1 ci _ hc
  obtain ⟨cf, kf, fi, fd, hi, hsl⟩ := hSl f hf
  have hi2 : s.fieldFound? ref (T f).2.1 (T f).2.2.1 = some (cf, kf, fi, fd) := by
    rcases hsame with q | q
    · rw [← q]; exact hi
    · exact u_same (hts _ q) _ hi
  have hlay := hts _ (hin _ (u_in_lay hf))
  have hst := (u_facts hfc hkC (u_lays hts hin hf) hi).1
  have fin : ∀ H' : Heap, H'[B + a]? = some (cell.setSlot fd.slot (a_cv B ad v)) → H'.size = H.size → (∀ q, q ≠ B + a → H'[q]? = H[q]?) → W p l e R s m args below meth c H' (locs ++ [⟨B + a, fd.slot⟩]) cells slots Q (F0 m (pc + 3) ls rest) := by
    intro H' e1 e2 e3
    rw [hsl] at e1
    refine kk H' _ (a_hp_set hh ha e2 e3 ⟨_, hc, ?_⟩) (a_S_put hS e2 e3)
    refine t_OB.to (V := updV (vp_V (fs.map (a_cv B ad))) f (a_cv B ad v)) ⟨_, e1, q2, q3, t_set q4 hap hf _⟩ (fun j _ => ?_)
    rw [vp_updV_set (by rw [List.length_map]; exact hl), ← List.map_set]
  unfold u_lay at hlay
  rcases hfin with hfin | ⟨hfin, hin2, hdecl⟩
  · rw [if_neg (by rw [hfin]; decide)] at hlay
    have h6 := u_store hfc hkC hkind hlay hi (hty f hf) hn.1 hn.2
    exact W.putK hx hb (f := fd) ⟨hown, hts _ hlink, ⟨_, _, _, hi2⟩, hst⟩ (by rw [q2]; exact h6) q1 q3 (by rw [hsl]; exact k2_hasslot (q4 f hf)) rfl rfl hdg fin
  · rw [if_pos hfin] at hlay
    have hcf : m.cls = cf := by
      obtain ⟨_, _, c', _, _, _, -, -, hf', -, -, -, hown2, -⟩ := Cond.laysFinal_spec hlay
      have e1 : c' = cf := by have := hi.symm.trans hf'; simp at this; exact this.1.symm
      rw [hdecl] at hown2
      rw [← e1]; exact Option.some.inj (hown.symm.trans hown2)
    have h6 := u_fits hfc hkC hkind (Or.inr hlay) hi (hty f hf) hn.1 hn.2
    exact W.putFinK hx hb hown (hts _ hlink) hi2 hst hcf hin2 (by rw [q2]; exact h6) q1 q3 (by rw [hsl]; exact k2_hasslot (q4 f hf)) rfl rfl hdg fin
theorem a_iald (hx : p.tables.exec = Jvm.exec) (hb : c.code = cc) (hK : va_K D cl (a_tys dA E) s) (hh : a_hp B ad D dA cl h H) {a n : Nat} {f : Nat → Int32} (ha : h[a]? = some (.inl (0, n, .inl f))) {j : Int32} (hin : vp_in j n) (hdg : decode cc pc = .ok (.iaload, 1))
    (kk : W p l e R s m args below meth c H locs cells slots Q (F0 m (pc + 1) ls (.int (f j.toNatClampNeg) :: rest))) : W p l e R s m args below meth c H locs cells slots Q (F0 m pc ls (.int j :: .ref (B + a) :: rest)) :=
  va_iald hx hb hK (a_hp_P hh ha) 0 0 rfl rfl hin hdg kk
theorem a_zald (hx : p.tables.exec = Jvm.exec) (hb : c.code = cc) (hK : va_K D cl (a_tys dA E) s) (hh : a_hp B ad D dA cl h H) {a n : Nat} {f : Nat → Int32} (ha : h[a]? = some (.inl (1, n, .inl f))) {j : Int32} (hin : vp_in j n) (hdg : decode cc pc = .ok (.baload, 1))
    (kk : W p l e R s m args below meth c H locs cells slots Q (F0 m (pc + 1) ls (.int (f j.toNatClampNeg) :: rest))) : W p l e R s m args below meth c H locs cells slots Q (F0 m pc ls (.int j :: .ref (B + a) :: rest)) :=
  va_zald hx hb hK (a_hp_P hh ha) 0 1 rfl rfl hin hdg kk
theorem a_aald (hx : p.tables.exec = Jvm.exec) (hb : c.code = cc) (hK : va_K D cl (a_tys dA E) s) (hh : a_hp B ad D dA cl h H) {a n : Nat} {f : Nat → Option Nat} (ha : h[a]? = some (.inl (2, n, .inr (.inr (.inr (.inr f)))))) {j : Int32} (hin : vp_in j n) (hdg : decode cc pc = .ok (.aaload, 1))
    (kk : W p l e R s m args below meth c H locs cells slots Q (F0 m (pc + 1) ls (a_cv B ad (va_rf (f j.toNatClampNeg)) :: rest))) : W p l e R s m args below meth c H locs cells slots Q (F0 m pc ls (.int j :: .ref (B + a) :: rest)) := by
  rw [a_cv_rf] at kk
  exact va_aldq hx hb hK (a_hp_P hh ha) 0 2 rfl rfl hin hdg kk
theorem a_alen (hx : p.tables.exec = Jvm.exec) (hb : c.code = cc) (hK : va_K D cl (a_tys dA E) s) (hh : a_hp B ad D dA cl h H) {a k : Nat} {x : vp_A} (ha : h[a]? = some (.inl (k, x))) (hk : k < 3) (hdg : decode cc pc = .ok (.arraylength, 1))
    (kk : W p l e R s m args below meth c H locs cells slots Q (F0 m (pc + 1) ls (.int (Int32.ofNat x.1) :: rest))) : W p l e R s m args below meth c H locs cells slots Q (F0 m pc ls (.ref (B + a) :: rest)) := by
  have hx1 : (a_cA B x).1 = x.1 := by
    obtain ⟨n, y⟩ := x
    rcases y with f | f | f | f | f <;> rfl
  have h2 : ∃ t, (a_tys dA E)[k]? = some (dA k, t) := by
    match k, hk with
    | 0, _ => exact ⟨_, rfl⟩
    | 1, _ => exact ⟨_, rfl⟩
    | 2, _ => exact ⟨_, rfl⟩
  obtain ⟨t, h2⟩ := h2
  exact va_alen hx hb hK (a_hp_P hh ha) 0 k (x := a_cA B x) rfl h2 (by rw [hx1]) hdg kk
theorem a_iast (hx : p.tables.exec = Jvm.exec) (hb : c.code = cc) (hK : va_K D cl (a_tys dA E) s) (hh : a_hp B ad D dA cl h H) (hS : va_S (fun q => B ≤ q) H0 H locs) {a n : Nat} {f : Nat → Int32} (ha : h[a]? = some (.inl (0, n, .inl f))) {j x : Int32} (hin : vp_in j n) (hdg : decode cc pc = .ok (.iastore, 1))
    (kk : ∀ (H1 : Heap) (locs1 : List Loc), a_hp B ad D dA cl (h.set a (.inl (0, n, .inl (upd f j.toNatClampNeg x)))) H1 → va_S (fun q => B ≤ q) H0 H1 locs1 → W p l e R s m args below meth c H1 locs1 cells slots Q (F0 m (pc + 1) ls rest)) : W p l e R s m args below meth c H locs cells slots Q (F0 m pc ls (.int x :: .int j :: .ref (B + a) :: rest)) := by
  refine W.iast hx hb (hh.2 a _ ha) ((hK.2 0 (dA 0, .int) rfl).1 n (fun j => .int (f j))) (fun q => by cases q) (by show ¬ (j < 0 ∨ (arrV _ _ _).slots.size ≤ _); rw [arrV_size]; exact hin) rfl rfl hdg fun H1 e1 z oq => ?_
  refine kk H1 _ (a_hp_set hh ha z oq ?_) (a_S_put hS z oq)
  show H1[B + a]? = some (vp_cell _ (n, .inl _))
  rw [e1]
  show some ((vp_cell _ (n, .inl f)).setSlot _ _) = _
  rw [vp_cell_i, vp_cell_i, arrV_store]
  congr 2
  funext q
  by_cases hq : q = j.toNatClampNeg
  · subst hq; simp [updV, upd]
  · simp [updV, upd, hq]
theorem a_zast (hx : p.tables.exec = Jvm.exec) (hb : c.code = cc) (hK : va_K D cl (a_tys dA E) s) (hh : a_hp B ad D dA cl h H) (hS : va_S (fun q => B ≤ q) H0 H locs) {a n : Nat} {f : Nat → Int32} (ha : h[a]? = some (.inl (1, n, .inl f))) {j x : Int32} (hin : vp_in j n) (h01 : x = 0 ∨ x = 1) (hdg : decode cc pc = .ok (.bastore, 1))
    (kk : ∀ (H1 : Heap) (locs1 : List Loc), a_hp B ad D dA cl (h.set a (.inl (1, n, .inl (upd f j.toNatClampNeg x)))) H1 → va_S (fun q => B ≤ q) H0 H1 locs1 → W p l e R s m args below meth c H1 locs1 cells slots Q (F0 m (pc + 1) ls rest)) : W p l e R s m args below meth c H locs cells slots Q (F0 m pc ls (.int x :: .int j :: .ref (B + a) :: rest)) := by
  have hx1 : narrow .boolean (.int x) = .int x := by rcases h01 with rfl | rfl <;> decide
  refine W.zast hx hb (hh.2 a _ ha) ((hK.2 1 (dA 1, .boolean) rfl).1 n (fun j => .int (f j))) (fun q => by cases q) (by show ¬ (j < 0 ∨ (arrV _ _ _).slots.size ≤ _); rw [arrV_size]; exact hin) rfl rfl hdg fun H1 e1 z oq => ?_
  refine kk H1 _ (a_hp_set hh ha z oq ?_) (a_S_put hS z oq)
  show H1[B + a]? = some (vp_cell _ (n, .inl _))
  rw [e1]
  show some ((vp_cell _ (n, .inl f)).setSlot _ _) = _
  rw [vp_cell_i, vp_cell_i, arrV_store]
  congr 2
  funext q
  by_cases hq : q = j.toNatClampNeg
  · subst hq; simp [updV, upd, hx1]
  · simp [updV, upd, hq]
theorem a_aastN (hx : p.tables.exec = Jvm.exec) (hb : c.code = cc) (hK : va_K D cl (a_tys dA E) s) (hh : a_hp B ad D dA cl h H) (hS : va_S (fun q => B ≤ q) H0 H locs) {a n : Nat} {f : Nat → Option Nat} (ha : h[a]? = some (.inl (2, n, .inr (.inr (.inr (.inr f)))))) {j : Int32} (hin : vp_in j n) (hdg : decode cc pc = .ok (.aastore, 1))
    (kk : ∀ (H1 : Heap) (locs1 : List Loc), a_hp B ad D dA cl (h.set a (.inl (2, n, .inr (.inr (.inr (.inr (va_up f j.toNatClampNeg none))))))) H1 → va_S (fun q => B ≤ q) H0 H1 locs1 → W p l e R s m args below meth c H1 locs1 cells slots Q (F0 m (pc + 1) ls rest)) : W p l e R s m args below meth c H locs cells slots Q (F0 m pc ls (.null :: .int j :: .ref (B + a) :: rest)) := by
  refine va_WaastN (C := E) hx hb (hh.2 a _ ha) ((hK.2 2 (dA 2, .object E) rfl).1 n (fun j => va_rf ((f j).map (fun q => B + q)))) (fun q => by cases q) (by show ¬ (j < 0 ∨ (arrV _ _ _).slots.size ≤ _); rw [arrV_size]; exact hin) rfl rfl hdg fun H1 e1 z oq => ?_
  refine kk H1 _ (a_hp_set hh ha z oq ?_) (a_S_put hS z oq)
  show H1[B + a]? = some (vp_cell _ (n, .inr (.inr (.inr (.inr _)))))
  rw [e1]
  show some ((vp_cell _ (n, .inr (.inr (.inr (.inr (fun j => (f j).map (fun q => B + q))))))).setSlot _ _) = _
  rw [vp_cell_q, vp_cell_q, arrV_store]
  congr 2
  funext q
  by_cases hq : q = j.toNatClampNeg
  · subst hq; simp [updV, va_up, va_rf]
  · simp [updV, va_up, hq]
theorem a_aast (hx : p.tables.exec = Jvm.exec) (hb : c.code = cc) (hts : ∀ w ∈ TB, w.before args s = true) (hK : va_K D cl (a_tys dA E) s) (hh : a_hp B ad D dA cl h H) (hS : va_S (fun q => B ≤ q) H0 H locs) {a n v ci : Nat} {f : Nat → Option Nat} {vs : List Value} (ha : h[a]? = some (.inl (2, n, .inr (.inr (.inr (.inr f)))))) (hv : h[v]? = some (.inr (ci, vs))) {r : vw_C} (hc : cl[ci]? = some r) (hca : r.1 = E ∨ va_Nw (.castable r.1 E) s) {j : Int32} (hin : vp_in j n) (hdg : decode cc pc = .ok (.aastore, 1))
    (kk : ∀ (H1 : Heap) (locs1 : List Loc), a_hp B ad D dA cl (h.set a (.inl (2, n, .inr (.inr (.inr (.inr (va_up f j.toNatClampNeg (some v)))))))) H1 → va_S (fun q => B ≤ q) H0 H1 locs1 → W p l e R s m args below meth c H1 locs1 cells slots Q (F0 m (pc + 1) ls rest)) : W p l e R s m args below meth c H locs cells slots Q (F0 m pc ls (.ref (B + v) :: .int j :: .ref (B + a) :: rest)) := by
  have hlt : j.toNatClampNeg < n := Nat.not_le.mp fun q => hin (Or.inr q)
  have h0 : ¬ j < 0 := fun q => hin (Or.inl q)
  obtain ⟨r', hr', cellV, g1, g2, g3, -⟩ := hh.2 v _ hv
  have hcls := (hK.1 ci r hc).2
  obtain ⟨kA, comp, k1, k2, k3, -⟩ := (hK.2 2 (dA 2, .object E) rfl).2
  obtain ⟨kE, hkE, -⟩ := Vm.findClass_spec k3
  obtain ⟨kC, hkC, -⟩ := hcls.2
  have hasg : s.vm.assignable (D.1 ci) comp = true := by
    rcases hca with q | q
    · have hcomp : comp = D.1 ci := Option.some.inj (k3.symm.trans (by rw [← q]; exact hcls.1))
      rw [hcomp]
      exact va_assign hcls
    · obtain ⟨c0, t1, f1, f2, f3⟩ := Cond.castable_spec (va_Nw.use (A := args) rfl q)
      cases hcls.1.symm.trans f1
      cases k3.symm.trans f2
      exact f3
  refine W.aast hx hb (hh.2 a _ ha) (fun q h => by cases h) (fun h => by cases h) k1 k2 rfl hkE ⟨h0, by show _ < (arrV _ _ _).slots.size; rw [arrV_size]; exact hlt⟩ g1 (fun q h => by rw [g3] at h; cases h) (by rw [g2]; exact hkC) (by rw [g2]; exact hasg) rfl rfl hdg fun H1 e1 z oq => ?_
  refine kk H1 _ (a_hp_set hh ha z oq ?_) (a_S_put hS z oq)
  show H1[B + a]? = some (vp_cell _ (n, .inr (.inr (.inr (.inr _)))))
  rw [e1]
  show some ((vp_cell _ (n, .inr (.inr (.inr (.inr (fun j => (f j).map (fun q => B + q))))))).setSlot _ _) = _
  rw [vp_cell_q, vp_cell_q, arrV_store]
  congr 2
  funext q
  by_cases hq : q = j.toNatClampNeg
  · subst hq; simp [updV, va_up, va_rf]
  · simp [updV, va_up, hq]
end AH
end
section
/-! 05.make: what is made; what a row's links must be; the steps of a_s3 -/
def a_sz (x : aC) : Nat := match x with
  | .inl (_, n, _) => n
  | .inr (_, fs) => fs.length
def a_hz (h : List aC) : Nat := (h.map a_sz).sum
theorem a_hz_app (h : List aC) (x : aC) : a_hz (h ++ [x]) = a_hz h + a_sz x := by simp [a_hz]
theorem a_sum_set (l : List Nat) (j x : Nat) (hj : l[j]? = some x) : (l.set j x).sum = l.sum := by
  induction l generalizing j with
  | nil => simp at hj
  | cons y l ih =>
    cases j with
    | zero => simp at hj; simp [hj]
    | succ j => simp at hj; simp [ih j hj]
theorem a_hz_set {h : List aC} {j : Nat} {x y : aC} (hj : h[j]? = some x) (hxy : a_sz y = a_sz x) : a_hz (h.set j y) = a_hz h := by
  unfold a_hz
  rw [List.map_set, hxy]
  exact a_sum_set _ _ _ (by rw [List.getElem?_map, hj]; rfl)
def a_kf (own : String) (cl : List vw_C) (TB : List Jvm.Cond) (ix f : Nat) (cs : List Nat) (pl ps : Nat) : Bool := match TB[pl]? with
  | some (.fieldLink o i ref nm ds) => o == own && i == ix && cs.all (fun ci => match cl[ci]? with
    | some (_, T, N) => decide (f < N) && (T f).2.1 == nm && (T f).2.2.1 == ds && ((T f).1 == ref || decide (TB[ps]? = some (Jvm.Cond.sameField ref (T f).1 nm ds)))
    | none => false)
  | _ => false
theorem a_kf_ok {own : String} {cl : List vw_C} {TB : List Jvm.Cond} {ix f : Nat} {cs : List Nat} {pl ps ci : Nat} (h : a_kf own cl TB ix f cs pl ps = true) (hci : cs.contains ci = true) :
    ∃ (C : String) (T : u_T) (N : Nat) (ref : String), cl[ci]? = some (C, T, N) ∧ f < N ∧ Cond.fieldLink own ix ref (T f).2.1 (T f).2.2.1 ∈ TB ∧ ((T f).1 = ref ∨ Cond.sameField ref (T f).1 (T f).2.1 (T f).2.2.1 ∈ TB) := by
  unfold a_kf at h
  split at h
  · rename_i o i ref nm ds hl
    simp only [Bool.and_eq_true, beq_iff_eq, List.all_eq_true] at h
    obtain ⟨⟨rfl, rfl⟩, ha⟩ := h
    have h1 := ha ci (by simpa using hci)
    split at h1
    · rename_i C T N hc
      simp only [Bool.and_eq_true, beq_iff_eq, decide_eq_true_eq, Bool.or_eq_true] at h1
      obtain ⟨⟨⟨h2, rfl⟩, rfl⟩, h5⟩ := h1
      exact ⟨C, T, N, ref, hc, h2, List.mem_of_getElem? hl, h5.imp id (fun q => List.mem_of_getElem? q)⟩
    · cases h1
  · cases h
/-- a kind of value for a kind of field -/
def a_kt (tc : Nat) (t : Option FieldType) : Bool := match tc, t with
  | 0, some .int => true
  | 1, some .boolean => true
  | 2, some (.object _) => true
  | 2, some (.array _) => true
  | _, _ => false
theorem a_kt_ok {tc : Nat} {t : FieldType} (h : a_kt tc (some t) = true) : (tc = 0 ∧ t = .int) ∨ (tc = 1 ∧ t = .boolean) ∨ (tc = 2 ∧ ((∃ n, t = .object n) ∨ ∃ u, t = .array u)) := by
  unfold a_kt at h
  split at h
  · rename_i e; cases e; exact Or.inl ⟨rfl, rfl⟩
  · rename_i e; cases e; exact Or.inr (Or.inl ⟨rfl, rfl⟩)
  · rename_i e; cases e; exact Or.inr (Or.inr ⟨rfl, Or.inl ⟨_, rfl⟩⟩)
  · rename_i e; cases e; exact Or.inr (Or.inr ⟨rfl, Or.inr ⟨_, rfl⟩⟩)
  · cases h
def a_kp (own : String) (isI : Bool) (cl : List vw_C) (f tc : Nat) (cs : List Nat) : Bool := cs.all (fun ci => match cl[ci]? with
  | some (_, T, _) => a_kt tc (parseFieldDescriptor (T f).2.2.1) && ((T f).2.2.2 == false || (isI && (T f).1 == own))
  | none => false)
/-- what is known of casts: (true, C, T) one of C is one of T; (false, C, T) it isn't -/
def a_cst (q : Bool × String × String) (s : State) : Prop := match q with
  | (true, C, T) => va_Nw (.castable C T) s
  | (false, C, T) => va_Nc C T s
def a_kc (cl : List vw_C) (NC : List (Bool × String × String)) (nm : String) (ci : Nat) : Bool := match cl[ci]? with
  | some (C, _, _) => C == nm || NC.contains (true, C, nm)
  | none => false
theorem a_kc_ok {cl : List vw_C} {NC : List (Bool × String × String)} {nm : String} {ci : Nat} (h : a_kc cl NC nm ci = true) : ∃ r : vw_C, cl[ci]? = some r ∧ (r.1 = nm ∨ (true, r.1, nm) ∈ NC) := by
  unfold a_kc at h
  split at h
  · rename_i C T N hc
    simp only [Bool.or_eq_true, beq_iff_eq] at h
    exact ⟨_, hc, h.imp id (fun q => by simpa using q)⟩
  · cases h
def a_kn (cl : List vw_C) (NC : List (Bool × String × String)) (nm : String) (ci : Nat) : Bool := match cl[ci]? with
  | some (C, _, _) => NC.contains (false, C, nm)
  | none => false
/-- what a row of a_s3 must link -/
def a_k3 (own : String) (isI : Bool) (cl : List vw_C) (TB : List Jvm.Cond) (E : String) (NC : List (Bool × String × String)) (SR : List (String × Nat × String × Nat)) (ins : Instr) (len : Nat) (cst : Int32) (aux : aX) : Bool := match ins with
  | .getfield ix => len == 3 && match aux with
    | [f, _] :: cs :: [pl, ps] :: _ => a_kf own cl TB ix f cs pl ps
    | _ => false
  | .putfield ix => len == 3 && match aux with
    | [f, tc] :: cs :: [pl, ps] :: _ => a_kf own cl TB ix f cs pl ps && a_kp own isI cl f tc cs
    | _ => false
  | .iaload => len == 1
  | .iastore => len == 1
  | .baload => len == 1
  | .bastore => len == 1
  | .aaload => len == 1
  | .aastore => len == 1 && match aux with
    | cs :: _ => cs.all (a_kc cl NC E)
    | _ => false
  | .arraylength => len == 1
  | .new ix => len == 3 && match aux with
    | [ci] :: [p1, p2, p3] :: _ => match cl[ci]? with
      | some (C, _, N) => decide (TB[p1]? = some (Jvm.Cond.classLink own ix C)) && decide (TB[p2]? = some (Jvm.Cond.instantiable C N)) && decide (TB[p3]? = some (Jvm.Cond.initialized C))
      | none => false
    | _ => false
  | .newarray t => len == 2 && match aux with
    | [p1] :: _ => decide (TB[p1]? = some (Jvm.Cond.arrayClass (newarray.typeOf t)))
    | _ => false
  | .anewarray ix => len == 3 && match aux with
    | [p1] :: _ => decide (TB[p1]? = some (Jvm.Cond.classLink own ix E))
    | _ => false
  | .instanceof ix => len == 3 && match aux with
    | ys :: ns :: [pl] :: _ => match TB[pl]? with
      | some (.classLink o i nm) => o == own && i == ix && ys.all (a_kc cl NC nm) && ns.all (a_kn cl NC nm)
      | _ => false
    | _ => false
  | .ldc ix => len == 2 && match aux with
    | [k] :: [q] :: _ => match SR[q]? with
      | some (o, i, _, k') => o == own && i == ix && k' == k
      | none => false
    | _ => false
  | .ldc2_w ix => len == 3 && match aux with
    | [q] :: _ => decide (TB[q]? = some (Jvm.Cond.constantLong own ix cst.toInt64))
    | _ => false
  | _ => false
section AH
variable {p : Program} {l : Launch} {e : Env} {R : Room} {s : State} {m : MethodId} {args : Array Value} {below : List Frame} {meth : Method} {c : Code} {H : Heap} {locs : List Loc} {cells slots : Nat} {Q : State → Prop}
variable {cc : ByteArray} {pc : Nat} {ls : Array Slot} {B : Nat} {ad : Nat → Nat} {D : va_G} {dA : Nat → ClassId} {cl : List vw_C} {ty : Nat → Nat → FieldType} {df : List (List Value)} {TB : List Jvm.Cond} {E : String} {H0 : Heap} {h : List aC} {rest : List Value}
theorem a_recv (hK : va_K D cl (a_tys dA E) s) (hh : a_hp B ad D dA cl h H) {a ci : Nat} {fs : List Value} (ha : h[a]? = some (.inr (ci, fs))) {r : vw_C} (hc : cl[ci]? = some r) : ∃ cell : Cell, H[B + a]? = some cell ∧ cell.vm.isStatics = false ∧ s.vm.findClass r.1 = some cell.cls :=
  va_recv hK (a_hp_P hh ha) (ci := ci) (q0 := 0) hc rfl
theorem a_new (hx : p.tables.exec = Jvm.exec) (hb : c.code = cc) (hcl : a_cls cl ty df TB) (hts : ∀ w ∈ TB, w.before args s = true) {own : String} (hown : s.vm.findClass own = some m.cls) (hK : va_K D cl (a_tys dA E) s) (hh : a_hp B ad D dA cl h H) (hS : va_S (fun q => B ≤ q) H0 H locs)
    {ci ix : Nat} {fs : List Value} {C : String} {T : u_T} {N : Nat} (hc : cl[ci]? = some (C, T, N)) (hd : df[ci]? = some fs) (h1 : Cond.classLink own ix C ∈ TB) (h2 : Cond.instantiable C N ∈ TB) (h3 : Cond.initialized C ∈ TB) (hcells : cells + 1 ≤ R.cells) (hslots : slots + N ≤ R.slots) (hdg : decode cc pc = .ok (.new ix, 3))
    (kk : ∀ H1 : Heap, a_hp B ad D dA cl (h ++ [.inr (ci, fs)]) H1 → va_S (fun q => B ≤ q) H0 H1 locs → W p l e R s m args below meth c H1 locs (cells + 1) (slots + N) Q (F0 m (pc + 3) ls (.ref (B + h.length) :: rest))) : W p l e R s m args below meth c H locs cells slots Q (F0 m pc ls rest) := by
  obtain ⟨hin, hty, hnm, hdf⟩ := hcl ci C T N hc
  obtain ⟨-, hfs, hno⟩ := hdf fs hd
  have hKn := hK.1 ci _ hc
  have hmap : fs.map (a_cv B ad) = fs := by
    conv => rhs; rw [← List.map_id fs]
    refine List.map_congr_left (fun v hv => ?_)
    rcases hno v hv with rfl | rfl <;> rfl
  refine W.newcK hx hb hown (hts _ h1) (hts _ h2) (hts _ h3) rfl hdg hcells hslots hKn.2.1 hh.1 fun H1 kC hkC e1 z1 o1 => ?_
  rw [← hh.1] at z1 o1
  refine kk H1 (a_hp_push hh z1 o1 ⟨_, hc, ?_⟩) (a_S_push hS z1 o1)
  have h9 := (u_born (ty ci) hts hin hKn hkC e1 hty).to hfs
  simpa only [hmap] using h9
theorem a_newi (hx : p.tables.exec = Jvm.exec) (hb : c.code = cc) (hts : ∀ w ∈ TB, w.before args s = true) (hK : va_K D cl (a_tys dA E) s) (hh : a_hp B ad D dA cl h H) (hS : va_S (fun q => B ≤ q) H0 H locs)
    {n : Int32} (h1 : Cond.arrayClass .int ∈ TB) (hn : ¬ n < 0) (hN : n.toNatClampNeg ≤ 1000) (hcells : cells + 1 ≤ R.cells) (hslots : slots + n.toNatClampNeg ≤ R.slots) (hdg : decode cc pc = .ok (.newarray .int, 2))
    (kk : ∀ H1 : Heap, a_hp B ad D dA cl (h ++ [.inl (0, n.toNatClampNeg, .inl (fun _ => 0))]) H1 → va_S (fun q => B ≤ q) H0 H1 locs → W p l e R s m args below meth c H1 locs (cells + 1) (slots + n.toNatClampNeg) Q (F0 m (pc + 2) ls (.ref (B + h.length) :: rest))) : W p l e R s m args below meth c H locs cells slots Q (F0 m pc ls (.int n :: rest)) := by
  refine va_newaK (atype := .int) hx hb (hts _ h1) rfl hdg rfl hn rfl (by show _ * 4 ≤ _; omega) hcells hslots hh.1 fun H1 cA e1 z1 o1 hAr hNm => ?_
  rw [← hh.1] at z1 o1
  have hcA : cA = dA 0 := Option.some.inj (hNm.symm.trans (hK.2 0 (dA 0, .int) rfl).2)
  subst hcA
  exact kk H1 (a_hp_push hh z1 o1 e1) (a_S_push hS z1 o1)
theorem a_newz (hx : p.tables.exec = Jvm.exec) (hb : c.code = cc) (hts : ∀ w ∈ TB, w.before args s = true) (hK : va_K D cl (a_tys dA E) s) (hh : a_hp B ad D dA cl h H) (hS : va_S (fun q => B ≤ q) H0 H locs)
    {n : Int32} (h1 : Cond.arrayClass .boolean ∈ TB) (hn : ¬ n < 0) (hN : n.toNatClampNeg ≤ 1000) (hcells : cells + 1 ≤ R.cells) (hslots : slots + n.toNatClampNeg ≤ R.slots) (hdg : decode cc pc = .ok (.newarray .boolean, 2))
    (kk : ∀ H1 : Heap, a_hp B ad D dA cl (h ++ [.inl (1, n.toNatClampNeg, .inl (fun _ => 0))]) H1 → va_S (fun q => B ≤ q) H0 H1 locs → W p l e R s m args below meth c H1 locs (cells + 1) (slots + n.toNatClampNeg) Q (F0 m (pc + 2) ls (.ref (B + h.length) :: rest))) : W p l e R s m args below meth c H locs cells slots Q (F0 m pc ls (.int n :: rest)) := by
  refine va_newaK (atype := .boolean) hx hb (hts _ h1) rfl hdg rfl hn rfl (by show _ * 1 ≤ _; omega) hcells hslots hh.1 fun H1 cA e1 z1 o1 hAr hNm => ?_
  rw [← hh.1] at z1 o1
  have hcA : cA = dA 1 := Option.some.inj (hNm.symm.trans (hK.2 1 (dA 1, .boolean) rfl).2)
  subst hcA
  exact kk H1 (a_hp_push hh z1 o1 e1) (a_S_push hS z1 o1)
theorem a_newq (hx : p.tables.exec = Jvm.exec) (hb : c.code = cc) (hts : ∀ w ∈ TB, w.before args s = true) {own : String} (hown : s.vm.findClass own = some m.cls) (hK : va_K D cl (a_tys dA E) s) (hh : a_hp B ad D dA cl h H) (hS : va_S (fun q => B ≤ q) H0 H locs)
    {n : Int32} {ix : Nat} (h1 : Cond.classLink own ix E ∈ TB) (h2 : va_AO E s) (hn : ¬ n < 0) (hN : n.toNatClampNeg ≤ 1000) (hcells : cells + 1 ≤ R.cells) (hslots : slots + n.toNatClampNeg ≤ R.slots) (hdg : decode cc pc = .ok (.anewarray ix, 3))
    (kk : ∀ H1 : Heap, a_hp B ad D dA cl (h ++ [.inl (2, n.toNatClampNeg, .inr (.inr (.inr (.inr (fun _ => none)))))]) H1 → va_S (fun q => B ≤ q) H0 H1 locs → W p l e R s m args below meth c H1 locs (cells + 1) (slots + n.toNatClampNeg) Q (F0 m (pc + 3) ls (.ref (B + h.length) :: rest))) : W p l e R s m args below meth c H locs cells slots Q (F0 m pc ls (.int n :: rest)) := by
  refine W.anew hx hb hown (hts _ h1) (va_AO.use h2) rfl hdg rfl hn (by omega) hcells hslots fun cA kA comp f1 f2 f3 f4 => ?_
  generalize hH1 : H.push ({ cls := cA, slots := Array.replicate n.toNatClampNeg .null, vm := .none } : Cell) = H1
  have z1 : H1.size = H.size + 1 := by rw [← hH1, Array.size_push]
  have e1 : H1[H.size]? = some (arrV cA n.toNatClampNeg (fun _ => .null)) := by rw [← hH1, Array.getElem?_push_size, ← arrV_new]
  have o1 : ∀ q : Nat, q < H.size → H1[q]? = H[q]? := fun q hq => by rw [← hH1, Array.getElem?_push, if_neg (Nat.ne_of_lt hq)]
  obtain ⟨_, _, -, -, -, hNm⟩ := (hK.2 2 (dA 2, .object E) rfl).2
  have hcA : cA = dA 2 := Option.some.inj (f1.symm.trans hNm)
  subst hcA
  have hz := hh.1
  rw [show ({ F0 m pc ls (.int n :: rest) with pc := pc + 3, stack := .ref H.size :: rest } : JFrame) = F0 m (pc + 3) ls (.ref (B + h.length) :: rest) by rw [hz]]
  refine kk H1 (a_hp_push hh z1 o1 ?_) (a_S_push hS z1 o1)
  show H1[B + h.length]? = some (vp_cell _ _)
  rw [← hz]
  exact e1
end AH
end
section
/-! 06.step3: the steps of a_s3 -/
section AH
variable {p : Program} {l : Launch} {e : Env} {R : Room} {s : State} {m : MethodId} {args : Array Value} {below : List Frame} {meth : Method} {c : Code} {H : Heap} {locs : List Loc} {cells slots : Nat} {Q : State → Prop}
variable {cc : ByteArray} {pc : Nat} {ls : Array Slot} {B : Nat} {ad : Nat → Nat} {D : va_G} {dA : Nat → ClassId} {cl : List vw_C} {ty : Nat → Nat → FieldType} {df : List (List Value)} {TB : List Jvm.Cond} {E : String} {h : List aC} {NC : List (Bool × String × String)} {SR : List (String × Nat × String × Nat)} {sc : Nat × (Nat → Int32)}
theorem a_s3_ok (hx : p.tables.exec = Jvm.exec) (hb : c.code = cc) (hcl : a_cls cl ty df TB) (hts : ∀ w ∈ TB, w.before args s = true) {own : String} (hown : s.vm.findClass own = some m.cls) (hK : va_K D cl (a_tys dA E) s)
    (hnc : ∀ q ∈ NC, a_cst q s) (hao : va_AO E s) (hsr : ∀ q ∈ SR, vk_R q.1 q.2.1 q.2.2.1 (ad q.2.2.2) s) (hX : va_X (ad 50) sc.1 sc.2 s s.heap) (hbl : ad 50 < s.heap.size ∧ ad 50 < B) {isI : Bool} (hI : isI = true → meth.name = "<init>")
    {ins : Instr} {len : Nat} {cst : Int32} {aux : aX} (hdg : decode cc pc = .ok (ins, len)) (hk : a_k3 own isI cl TB E NC SR ins len cst aux = true)
    (hh : a_hp B ad D dA cl h H) (hS : va_S (fun q => B ≤ q) s.heap H locs)
    {i i' : Nat} {L L' : aL} {st st' : List Value} {h' : List aC} (hs : a_s3 df sc ins cst aux i L st h = some (true, i', L', st', h'))
    (hR : cells + (h'.length - h.length) ≤ R.cells ∧ slots + (a_hz h' - a_hz h) ≤ R.slots)
    (kk : ∀ (H' : Heap) (locs' : List Loc), i' = i + 1 → L' = L → h.length ≤ h'.length → a_hz h ≤ a_hz h' → a_hp B ad D dA cl h' H' → va_S (fun q => B ≤ q) s.heap H' locs' → W p l e R s m args below meth c H' locs' (cells + (h'.length - h.length)) (slots + (a_hz h' - a_hz h)) Q (F0 m (pc + len) ls (st'.map (a_cv B ad)))) :
    W p l e R s m args below meth c H locs cells slots Q (F0 m pc ls (st.map (a_cv B ad))) := by
  have same : ∀ (H' : Heap) (locs' : List Loc), i' = i + 1 → L' = L → h'.length = h.length → a_hz h' = a_hz h → a_hp B ad D dA cl h' H' → va_S (fun q => B ≤ q) s.heap H' locs' → W p l e R s m args below meth c H' locs' cells slots Q (F0 m (pc + len) ls (st'.map (a_cv B ad))) := by
    intro H' locs' e1 e2 e3 e4 e5 e6
    have := kk H' locs' e1 e2 (by omega) (by omega) e5 e6
    rwa [show cells + (h'.length - h.length) = cells by omega, show slots + (a_hz h' - a_hz h) = slots by omega] at this
  unfold a_s3 at hs
  split at hs
  case h_1 ix =>
    simp only [a_k3, Bool.and_eq_true, beq_iff_eq] at hk
    obtain ⟨rfl, hk⟩ := hk
    split at hs
    · rename_i a r f cs r2
      split at hs
      · rename_i ci fs ha
        split at hs
        · rename_i v hv
          simp only [Option.some.injEq, Prod.mk.injEq] at hs
          obtain ⟨hg, rfl, rfl, rfl, rfl⟩ := hs
          split at hk
          · rename_i f' t' cs' pl ps r3 heq
            cases heq
            obtain ⟨C, T, N, ref, h1, h2, h3, h4⟩ := a_kf_ok hk hg
            exact a_getf hx hb hcl hts hown hK hh ha h1 h2 h3 h4 hv hdg (same H locs rfl rfl rfl rfl hh hS)
          · cases hk
        · cases hs
      · cases hs
    · cases hs
  case h_2 ix =>
    simp only [a_k3, Bool.and_eq_true, beq_iff_eq] at hk
    obtain ⟨rfl, hk⟩ := hk
    split at hs
    · rename_i v a r f t cs r2
      split at hs
      · rename_i ci fs ha
        simp only [Option.some.injEq, Prod.mk.injEq, Bool.and_eq_true, decide_eq_true_eq] at hs
        obtain ⟨⟨⟨hg, hfl⟩, hfk⟩, rfl, rfl, rfl, rfl⟩ := hs
        split at hk
        · rename_i f' t' cs' pl ps r3 heq
          cases heq
          simp only [Bool.and_eq_true] at hk
          obtain ⟨C, T, N, ref, h1, h2, h3, h4⟩ := a_kf_ok hk.1 hg
          have h5 := hk.2
          unfold a_kp at h5
          simp only [List.all_eq_true] at h5
          have h6 := h5 ci (by simpa using hg)
          rw [h1] at h6
          simp only [Bool.and_eq_true, Bool.or_eq_true, beq_iff_eq] at h6
          have h7 : parseFieldDescriptor (T f).2.2.1 = some (ty ci f) := (hcl ci C T N h1).2.1 f h2
          rw [h7] at h6
          have h8 : (T f).2.2.2 = false ∨ ((T f).2.2.2 = true ∧ meth.name = "<init>" ∧ (T f).1 = own) := by
            rcases h6.2 with q | q
            · exact Or.inl q
            · cases h9 : (T f).2.2.2 with
              | false => exact Or.inl rfl
              | true => exact Or.inr ⟨rfl, hI q.1, q.2⟩
          refine a_putf hx hb hcl hts hown hK hh hS ha h1 h2 h3 h4 h8 (a_fk_ok hfk (a_kt_ok h6.1)) hfl hdg (fun H1 locs1 hh1 hS1 => ?_)
          exact same H1 locs1 rfl rfl (List.length_set ..) (a_hz_set ha (by simp [a_sz])) hh1 hS1
        · cases hk
      · cases hs
    · cases hs
  case h_3 =>
    simp only [a_k3, beq_iff_eq] at hk
    subst hk
    split at hs
    · rename_i j a r
      split at hs
      · rename_i n f ha
        simp only [Option.some.injEq, Prod.mk.injEq] at hs
        obtain ⟨hg, rfl, rfl, rfl, rfl⟩ := hs
        exact a_iald hx hb hK hh ha (a_in_ok hg) hdg (same H locs rfl rfl rfl rfl hh hS)
      · cases hs
    · rename_i j r
      simp only [Option.some.injEq, Prod.mk.injEq] at hs
      obtain ⟨hg, rfl, rfl, rfl, rfl⟩ := hs
      exact va_sld hx hb hX hbl.1 (fun q : B ≤ ad 50 => by omega) hS (a_in_ok hg) hdg (same H locs rfl rfl rfl rfl hh hS)
    · cases hs
  case h_4 =>
    simp only [a_k3, beq_iff_eq] at hk
    subst hk
    split at hs
    · rename_i x j a r
      split at hs
      · rename_i n f ha
        simp only [Option.some.injEq, Prod.mk.injEq] at hs
        obtain ⟨hg, rfl, rfl, rfl, rfl⟩ := hs
        refine a_iast hx hb hK hh hS ha (a_in_ok hg) hdg (fun H1 locs1 hh1 hS1 => ?_)
        exact same H1 locs1 rfl rfl (List.length_set ..) (a_hz_set ha rfl) hh1 hS1
      · cases hs
    · cases hs
  case h_5 =>
    simp only [a_k3, beq_iff_eq] at hk
    subst hk
    split at hs
    · rename_i j a r
      split at hs
      · rename_i n f ha
        simp only [Option.some.injEq, Prod.mk.injEq] at hs
        obtain ⟨hg, rfl, rfl, rfl, rfl⟩ := hs
        exact a_zald hx hb hK hh ha (a_in_ok hg) hdg (same H locs rfl rfl rfl rfl hh hS)
      · cases hs
    · cases hs
  case h_6 =>
    simp only [a_k3, beq_iff_eq] at hk
    subst hk
    split at hs
    · rename_i x j a r
      split at hs
      · rename_i n f ha
        simp only [Option.some.injEq, Prod.mk.injEq, Bool.and_eq_true, Bool.or_eq_true, decide_eq_true_eq] at hs
        obtain ⟨⟨hg, h01⟩, rfl, rfl, rfl, rfl⟩ := hs
        refine a_zast hx hb hK hh hS ha (a_in_ok hg) h01 hdg (fun H1 locs1 hh1 hS1 => ?_)
        exact same H1 locs1 rfl rfl (List.length_set ..) (a_hz_set ha rfl) hh1 hS1
      · cases hs
    · cases hs
  case h_7 =>
    simp only [a_k3, beq_iff_eq] at hk
    subst hk
    split at hs
    · rename_i j a r
      split at hs
      · rename_i n f ha
        simp only [Option.some.injEq, Prod.mk.injEq] at hs
        obtain ⟨hg, rfl, rfl, rfl, rfl⟩ := hs
        exact a_aald hx hb hK hh ha (a_in_ok hg) hdg (same H locs rfl rfl rfl rfl hh hS)
      · cases hs
    · cases hs
  case h_8 =>
    simp only [a_k3, Bool.and_eq_true, beq_iff_eq] at hk
    obtain ⟨rfl, hk⟩ := hk
    split at hs
    · rename_i v j a r cs r2
      split at hs
      · rename_i n f ci vs ha hv
        simp only [Option.some.injEq, Prod.mk.injEq, Bool.and_eq_true] at hs
        obtain ⟨⟨hg, hcs⟩, rfl, rfl, rfl, rfl⟩ := hs
        simp only [List.all_eq_true] at hk
        obtain ⟨q, hq, hca⟩ := a_kc_ok (hk ci (by simpa using hcs))
        refine a_aast hx hb hts hK hh hS ha hv hq (hca.imp id (fun z => hnc (true, q.1, E) z)) (a_in_ok hg) hdg (fun H1 locs1 hh1 hS1 => ?_)
        exact same H1 locs1 rfl rfl (List.length_set ..) (a_hz_set ha rfl) hh1 hS1
      · cases hs
    · rename_i j a r
      split at hs
      · rename_i n f ha
        simp only [Option.some.injEq, Prod.mk.injEq] at hs
        obtain ⟨hg, rfl, rfl, rfl, rfl⟩ := hs
        refine a_aastN hx hb hK hh hS ha (a_in_ok hg) hdg (fun H1 locs1 hh1 hS1 => ?_)
        exact same H1 locs1 rfl rfl (List.length_set ..) (a_hz_set ha rfl) hh1 hS1
      · cases hs
    · cases hs
  case h_9 =>
    simp only [a_k3, beq_iff_eq] at hk
    subst hk
    split at hs
    · rename_i a r
      split at hs
      · rename_i k x ha
        simp only [Option.some.injEq, Prod.mk.injEq, decide_eq_true_eq] at hs
        obtain ⟨hg, rfl, rfl, rfl, rfl⟩ := hs
        exact a_alen hx hb hK hh ha hg hdg (same H locs rfl rfl rfl rfl hh hS)
      · cases hs
    · rename_i r
      cases hs
      exact va_slen hx hb hX hbl.1 (fun q : B ≤ ad 50 => by omega) hS hdg (same H locs rfl rfl rfl rfl hh hS)
    · cases hs
  case h_10 ix =>
    simp only [a_k3, Bool.and_eq_true, beq_iff_eq] at hk
    obtain ⟨rfl, hk⟩ := hk
    split at hs
    · rename_i ci r2
      split at hs
      · rename_i fs hd
        cases hs
        split at hk
        · rename_i ci' p1 p2 p3 r3 heq
          cases heq
          split at hk
          · rename_i C T N hc
            simp only [Bool.and_eq_true, decide_eq_true_eq] at hk
            have hz : a_hz (h ++ [.inr (ci, fs)]) - a_hz h = N := by
              rw [a_hz_app]; show _ + fs.length - _ = _; rw [((hcl ci C T N hc).2.2.2 fs hd).1]; omega
            have hz1 : (h ++ [(.inr (ci, fs) : aC)]).length - h.length = 1 := by simp
            rw [hz, hz1] at hR
            refine a_new hx hb hcl hts hown hK hh hS hc hd (List.mem_of_getElem? hk.1.1) (List.mem_of_getElem? hk.1.2) (List.mem_of_getElem? hk.2) hR.1 hR.2 hdg (fun H1 hh1 hS1 => ?_)
            have := kk H1 locs rfl rfl (by simp) (by rw [a_hz_app]; omega) hh1 hS1
            rw [hz, hz1] at this
            exact this
          · cases hk
        · cases hk
      · cases hs
    · cases hs
  case h_11 t =>
    simp only [a_k3, Bool.and_eq_true, beq_iff_eq] at hk
    obtain ⟨rfl, hk⟩ := hk
    split at hk
    · rename_i p1 r3
      simp only [decide_eq_true_eq] at hk
      split at hs
      · rename_i n r
        simp only [Option.some.injEq, Prod.mk.injEq, Bool.and_eq_true, decide_eq_true_eq] at hs
        obtain ⟨hg, rfl, rfl, rfl, rfl⟩ := hs
        have hz : a_hz (h ++ [.inl (0, n.toNatClampNeg, .inl (fun _ => 0))]) - a_hz h = n.toNatClampNeg := by rw [a_hz_app]; show _ + n.toNatClampNeg - _ = _; omega
        have hz1 : (h ++ [(.inl (0, n.toNatClampNeg, .inl (fun _ => 0)) : aC)]).length - h.length = 1 := by simp
        rw [hz, hz1] at hR
        refine a_newi hx hb hts hK hh hS (List.mem_of_getElem? hk) hg.1 hg.2 hR.1 hR.2 hdg (fun H1 hh1 hS1 => ?_)
        have := kk H1 locs rfl rfl (by simp) (by rw [a_hz_app]; omega) hh1 hS1
        rw [hz, hz1] at this
        exact this
      · rename_i n r
        simp only [Option.some.injEq, Prod.mk.injEq, Bool.and_eq_true, decide_eq_true_eq] at hs
        obtain ⟨hg, rfl, rfl, rfl, rfl⟩ := hs
        have hz : a_hz (h ++ [.inl (1, n.toNatClampNeg, .inl (fun _ => 0))]) - a_hz h = n.toNatClampNeg := by rw [a_hz_app]; show _ + n.toNatClampNeg - _ = _; omega
        have hz1 : (h ++ [(.inl (1, n.toNatClampNeg, .inl (fun _ => 0)) : aC)]).length - h.length = 1 := by simp
        rw [hz, hz1] at hR
        refine a_newz hx hb hts hK hh hS (List.mem_of_getElem? hk) hg.1 hg.2 hR.1 hR.2 hdg (fun H1 hh1 hS1 => ?_)
        have := kk H1 locs rfl rfl (by simp) (by rw [a_hz_app]; omega) hh1 hS1
        rw [hz, hz1] at this
        exact this
      · cases hs
    · cases hk
  case h_12 ix =>
    simp only [a_k3, Bool.and_eq_true, beq_iff_eq] at hk
    obtain ⟨rfl, hk⟩ := hk
    split at hk
    · rename_i p1 r3
      simp only [decide_eq_true_eq] at hk
      split at hs
      · rename_i n r
        simp only [Option.some.injEq, Prod.mk.injEq, Bool.and_eq_true, decide_eq_true_eq] at hs
        obtain ⟨hg, rfl, rfl, rfl, rfl⟩ := hs
        have hz : a_hz (h ++ [.inl (2, n.toNatClampNeg, .inr (.inr (.inr (.inr (fun _ => none)))))]) - a_hz h = n.toNatClampNeg := by rw [a_hz_app]; show _ + n.toNatClampNeg - _ = _; omega
        have hz1 : (h ++ [(.inl (2, n.toNatClampNeg, .inr (.inr (.inr (.inr (fun _ => none))))) : aC)]).length - h.length = 1 := by simp
        rw [hz, hz1] at hR
        refine a_newq hx hb hts hown hK hh hS (List.mem_of_getElem? hk) hao hg.1 hg.2 hR.1 hR.2 hdg (fun H1 hh1 hS1 => ?_)
        have := kk H1 locs rfl rfl (by simp) (by rw [a_hz_app]; omega) hh1 hS1
        rw [hz, hz1] at this
        exact this
      · cases hs
    · cases hk
  case h_13 ix =>
    simp only [a_k3, Bool.and_eq_true, beq_iff_eq] at hk
    obtain ⟨rfl, hk⟩ := hk
    split at hs
    · cases hs
      exact lv_instN hx hb hdg (same H locs rfl rfl rfl rfl hh hS)
    · rename_i a r ys ns r2
      split at hs
      · rename_i ci fs ha
        simp only [Option.some.injEq, Prod.mk.injEq, Bool.or_eq_true] at hs
        obtain ⟨hg, rfl, rfl, rfl, rfl⟩ := hs
        split at hk
        · rename_i ys' ns' pl r3 heq
          cases heq
          split at hk
          · rename_i o i3 nm hpl
            simp only [Bool.and_eq_true, beq_iff_eq, List.all_eq_true] at hk
            obtain ⟨⟨⟨rfl, rfl⟩, hys⟩, hns⟩ := hk
            have hlk := hts _ (List.mem_of_getElem? hpl)
            have same1 := same H locs rfl rfl rfl rfl hh hS
            by_cases hy : ys.contains ci = true
            · obtain ⟨q, hq, hca⟩ := a_kc_ok (hys ci (by simpa using hy))
              rw [hy] at same1
              rcases hca with hca | hca
              · subst hca
                exact va_instS hx hb hown hlk (hK.1 ci q hq).2 (a_recv hK hh ha hq) hdg same1
              · exact va_instY hx hb hown hlk (hnc (true, q.1, nm) hca) (a_recv hK hh ha hq) hdg same1
            · have hn : ns.contains ci = true := hg.resolve_left hy
              have h1 := hns ci (by simpa using hn)
              rw [Bool.not_eq_true] at hy
              rw [hy] at same1
              unfold a_kn at h1
              split at h1
              · rename_i C T N hc
                exact va_instNo hx hb hown hlk (hnc (false, C, nm) (by simpa using h1)) (a_recv hK hh ha hc) hdg same1
              · cases h1
          · cases hk
        · cases hk
      · cases hs
    · cases hs
  case h_14 ix =>
    simp only [a_k3, Bool.and_eq_true, beq_iff_eq] at hk
    obtain ⟨rfl, hk⟩ := hk
    split at hs
    · rename_i k r2
      cases hs
      split at hk
      · rename_i k' q r3 heq
        cases heq
        split at hk
        · rename_i o i3 tx k2 hq
          simp only [Bool.and_eq_true, beq_iff_eq] at hk
          obtain ⟨⟨rfl, rfl⟩, rfl⟩ := hk
          exact va_ldcS hx hb hown (hsr _ (List.mem_of_getElem? hq)) hdg (same H locs rfl rfl rfl rfl hh hS)
        · cases hk
      · cases hk
    · cases hs
  case h_15 ix =>
    simp only [a_k3, Bool.and_eq_true, beq_iff_eq] at hk
    obtain ⟨rfl, hk⟩ := hk
    cases hs
    split at hk
    · rename_i q r3
      simp only [decide_eq_true_eq] at hk
      exact lv_ldc2 hx hb hown (hts _ (List.mem_of_getElem? hk)) hdg (same H locs rfl rfl rfl rfl hh hS)
    · cases hk
  case h_16 => cases hs
end AH
end
section
/-! 07.step4: Math.max and min, arraycopy, Object(); String constants and statics -/
def a_k4 (own : String) (TB : List Jvm.Cond) (ins : Instr) (len : Nat) (aux : aX) : Bool := match ins with
  | .invokestatic ix => len == 3 && match aux with
    | [1] :: [p1, p2, p3, p4] :: _ => decide (TB[p1]? = some (Jvm.Cond.methodLink own ix Lib.Math.max.name)) && decide (TB[p2]? = some (Jvm.Cond.static Lib.Math.max.name)) && decide (TB[p3]? = some (Jvm.Cond.initialized "java/lang/Math")) && decide (TB[p4]? = some (Jvm.Cond.code Lib.Math.max.name Lib.Math.max.code 2 (some .int)))
    | [2] :: [p1, p2, p3, p4] :: _ => decide (TB[p1]? = some (Jvm.Cond.methodLink own ix Lib.Math.min.name)) && decide (TB[p2]? = some (Jvm.Cond.static Lib.Math.min.name)) && decide (TB[p3]? = some (Jvm.Cond.initialized "java/lang/Math")) && decide (TB[p4]? = some (Jvm.Cond.code Lib.Math.min.name Lib.Math.min.code 2 (some .int)))
    | [3] :: [p1, p2, p3, p4] :: _ => decide (TB[p1]? = some (Jvm.Cond.methodLink own ix arraycopyName)) && decide (TB[p2]? = some (Jvm.Cond.native arraycopyName)) && decide (TB[p3]? = some (Jvm.Cond.static arraycopyName)) && decide (TB[p4]? = some (Jvm.Cond.initialized "java/lang/System"))
    | _ => false
  | .invokespecial ix => len == 3 && match aux with
    | [1] :: [p1, p2, p3] :: _ => decide (TB[p1]? = some (Jvm.Cond.methodLink own ix objectInit)) && decide (TB[p2]? = some (Jvm.Cond.instanceMethod objectInit)) && decide (TB[p3]? = some (Jvm.Cond.code objectInit ⟨#[0xb1]⟩ 1 none))
    | _ => false
  | _ => false
def a_k5 (own : String) (TB : List Jvm.Cond) (sv : List (String × String × String × Value)) (ins : Instr) (len : Nat) (aux : aX) : Bool := match ins with
  | .getfield ix => len == 3 && match aux with
    | [0, 9] :: [p1] :: _ => decide (TB[p1]? = some (Jvm.Cond.fieldLink own ix "java/lang/String" "value" "[B"))
    | [1, 9] :: [p1] :: _ => decide (TB[p1]? = some (Jvm.Cond.fieldLink own ix "java/lang/String" "coder" "B"))
    | _ => false
  | .arraylength => len == 1
  | .baload => len == 1
  | .getstatic ix => len == 3 && match aux with
    | [j] :: [p1] :: _ => match sv[j]? with
      | some (C, n, d, _) => decide (TB[p1]? = some (Jvm.Cond.fieldLink own ix C n d))
      | none => false
    | _ => false
  | .i2c => len == 1
  | _ => false
theorem a_catmap (B : Nat) (ad : Nat → Nat) (r : List Value) : ((r.map (a_cv B ad)).map fun v => v.category).sum = (r.map fun v => v.category).sum := by
  rw [List.map_map]
  congr 1
  exact List.map_congr_left (fun v _ => a_cv_cat B ad v)
section AH
variable {p : Program} {l : Launch} {e : Env} {R : Room} {s : State} {m : MethodId} {args : Array Value} {below : List Frame} {meth : Method} {c : Code} {H : Heap} {locs : List Loc} {cells slots : Nat} {Q : State → Prop}
variable {cc : ByteArray} {pc : Nat} {ls : Array Slot} {B : Nat} {ad : Nat → Nat} {D : va_G} {dA : Nat → ClassId} {cl : List vw_C} {TB : List Jvm.Cond} {E : String} {h : List aC} {H0 : Heap}
theorem a_copy (hx : p.tables.exec = Jvm.exec) (hb : c.code = cc) (hml : c.maxLocals = ls.size) {own : String} (hown : s.vm.findClass own = some m.cls) (hts : ∀ w ∈ TB, w.before args s = true) {ix : Nat} (h1 : Cond.methodLink own ix arraycopyName ∈ TB) (h2 : Cond.native arraycopyName ∈ TB) (h3 : Cond.static arraycopyName ∈ TB) (h4 : Cond.initialized "java/lang/System" ∈ TB)
    (hK : va_K D cl (a_tys dA E) s) (hh : a_hp B ad D dA cl h H) (hS : va_S (fun q => B ≤ q) H0 H locs) {a0 a n0 n1 : Nat} {f g : Nat → Int32} (ha0 : h[a0]? = some (.inl (0, n0, .inl f))) (ha : h[a]? = some (.inl (0, n1, .inl g)))
    {sp dp n : Int32} (q1 : ¬ sp < 0) (q2 : ¬ dp < 0) (q3 : ¬ n < 0) (q4 : sp.toNatClampNeg + n.toNatClampNeg ≤ n0) (q5 : dp.toNatClampNeg + n.toNatClampNeg ≤ n1) {rest : List Value}
    (hframes : 1 ≤ R.frames) (hlocals : (rest.map fun v => v.category).sum + (nativeFrameWords "java/lang/System" "arraycopy" 5 + 11) ≤ R.locals) (hdg : decode cc pc = .ok (.invokestatic ix, 3))
    (kk : ∀ (H1 : Heap) (locs1 : List Loc), a_hp B ad D dA cl (h.set a (.inl (0, n1, .inl (va_cpy f g sp.toNatClampNeg dp.toNatClampNeg n.toNatClampNeg)))) H1 → va_S (fun q => B ≤ q) H0 H1 locs1 → W p l e R s m args below meth c H1 locs1 cells slots Q (F0 m (pc + 3) ls rest)) : W p l e R s m args below meth c H locs cells slots Q (F0 m pc ls (.int n :: .int dp :: .ref (B + a) :: .int sp :: .ref (B + a0) :: rest)) := by
  have nn : ∀ z : Int32, ¬ z < 0 → z.toInt = (z.toNatClampNeg : Int) := by
    intro z hz
    have hz0 : (0 : Int) ≤ z.toInt := by simpa using Int32.le_iff_toInt_le.mp (Int32.not_lt.mp hz)
    show z.toInt = ((z.toInt.toNat : Nat) : Int)
    omega
  have hc0 : H[B + a0]? = some (vp_cell (dA 0) (n0, .inl f)) := hh.2 a0 _ ha0
  have hc1 : H[B + a]? = some (vp_cell (dA 0) (n1, .inl g)) := hh.2 a _ ha
  obtain ⟨-, k0, hk0, cm0, hkk0⟩ := (hK.2 0 (dA 0, .int) rfl).1 n0 (fun j => .int (f j))
  obtain ⟨-, k1, hk1, cm1, hkk1⟩ := (hK.2 0 (dA 0, .int) rfl).1 n1 (fun j => .int (g j))
  intro T hT X
  obtain ⟨vm', X', step⟩ := X.arraycopy hx hown (hts _ h1) (hts _ h2) (hts _ h3) (hts _ h4) (src := B + a0) (dst := B + a) (cs := vp_cell (dA 0) (n0, .inl f)) (cd := vp_cell (dA 0) (n1, .inl g)) (srcPos := sp) (destPos := dp) (n := n) (by rw [hT]; exact hc0) (by rw [hT]; exact hc1)
    (fun _ h => by cases h) (fun _ h => by cases h) (fun h => by cases h) (fun h => by cases h) hk0 hk1 hkk0 hkk1 (by simp [refKind]) q1 q2 q3
    (by rw [nn sp q1, nn n q3]; show ¬ _ > ((arrV (dA 0) n0 (fun j => .int (f j))).slots.size : Int); rw [arrV_size]; omega)
    (by rw [nn dp q2, nn n q3]; show ¬ _ > ((arrV (dA 0) n1 (fun j => .int (g j))).slots.size : Int); rw [arrV_size]; omega)
    (fun vm₁ _ i hi => by
      have e : (vp_cell (dA 0) (n0, .inl f)).slots.getD (sp.toNatClampNeg + i) .null = .int (f (sp.toNatClampNeg + i)) := by
        show (arrV (dA 0) n0 (fun j => .int (f j))).slots.getD _ _ = _
        rw [Array.getD_eq_getD_getElem?, arrV_read _ _ (by omega)]
        rfl
      refine ⟨?_, ?_⟩
      · rw [e]
        rfl
      · rw [e]
        exact trivial)
    (g := F0 m pc ls (.int n :: .int dp :: .ref (B + a) :: .int sp :: .ref (B + a0) :: rest)) rfl (by rw [hml]) (rest := rest) rfl (by rw [hb]; exact hdg) hframes (by show 2 * 0 + _ + _ ≤ _; omega)
  have e1 : copied (vp_cell (dA 0) (n0, .inl f)) (vp_cell (dA 0) (n1, .inl g)) sp dp n = vp_cell (dA 0) (n1, .inl (va_cpy f g sp.toNatClampNeg dp.toNatClampNeg n.toNatClampNeg)) := va_copied (fun z => .int z) (dA 0) (dA 0) f g q4
  rw [e1] at X' step
  have hl : B + a < H.size := (Array.getElem?_eq_some_iff.mp hc1).1
  have hheap : ((T.setVm vm').setCell (B + a) (vp_cell (dA 0) (n1, .inl (va_cpy f g sp.toNatClampNeg dp.toNatClampNeg n.toNatClampNeg)))).heap = H.setIfInBounds (B + a) (vp_cell (dA 0) (n1, .inl (va_cpy f g sp.toNatClampNeg dp.toNatClampNeg n.toNatClampNeg))) := by rw [← hT]; rfl
  have oq : ∀ q : Nat, q ≠ B + a → (H.setIfInBounds (B + a) (vp_cell (dA 0) (n1, .inl (va_cpy f g sp.toNatClampNeg dp.toNatClampNeg n.toNatClampNeg))))[q]? = H[q]? := fun q hq => by simp [Array.getElem?_setIfInBounds, Ne.symm hq]
  have hz : (H.setIfInBounds (B + a) (vp_cell (dA 0) (n1, .inl (va_cpy f g sp.toNatClampNeg dp.toNatClampNeg n.toNatClampNeg)))).size = H.size := by simp
  obtain ⟨t, a1, b1⟩ := kk _ _ (a_hp_set hh ha hz oq (show (H.setIfInBounds (B + a) _)[B + a]? = some _ by simp [Array.getElem?_setIfInBounds, hl]; rfl)) ⟨by rw [hz]; exact hS.1, fun q g1 g2 => by
      rw [oq q (fun e => g2 (by show B ≤ q; omega))]
      exact hS.2.1 q g1 g2, fun q hq => by
      rcases List.mem_append.mp hq with h | h
      · exact hS.2.2 q h
      · obtain ⟨z, -, hz⟩ := List.mem_map.mp h
        rw [← hz]
        exact Nat.le_add_right B a⟩ _ hheap X'
  exact ⟨t, step t a1, b1⟩
theorem a_s4_ok (hx : p.tables.exec = Jvm.exec) (hb : c.code = cc) (hml : c.maxLocals = ls.size) (hts : ∀ w ∈ TB, w.before args s = true) {own : String} (hown : s.vm.findClass own = some m.cls) (hK : va_K D cl (a_tys dA E) s)
    {ins : Instr} {len : Nat} {aux : aX} (hdg : decode cc pc = .ok (ins, len)) (hk : a_k4 own TB ins len aux = true)
    (hh : a_hp B ad D dA cl h H) (hS : va_S (fun q => B ≤ q) s.heap H locs) (hfr : 1 ≤ R.frames) (hloc : 40 ≤ R.locals) (hce : cells ≤ R.cells) (hsl : slots ≤ R.slots)
    {i i' : Nat} {L L' : aL} {st st' : List Value} {h' : List aC} (hs : a_s4 ins aux i L st h = some (true, i', L', st', h'))
    (kk : ∀ (H' : Heap) (locs' : List Loc), i' = i + 1 → L' = L → h'.length = h.length → a_hz h' = a_hz h → a_hp B ad D dA cl h' H' → va_S (fun q => B ≤ q) s.heap H' locs' → W p l e R s m args below meth c H' locs' cells slots Q (F0 m (pc + len) ls (st'.map (a_cv B ad)))) :
    W p l e R s m args below meth c H locs cells slots Q (F0 m pc ls (st.map (a_cv B ad))) := by
  have hcp : nativeFrameWords "java/lang/System" "arraycopy" 5 + 11 ≤ 32 := by decide +kernel
  unfold a_s4 at hs
  split at hs
  case h_1 ix =>
    simp only [a_k4, Bool.and_eq_true, beq_iff_eq] at hk
    obtain ⟨rfl, hk⟩ := hk
    split at hs
    · split at hk
      · rename_i p1 p2 p3 p4 r4 heq
        simp only [Bool.and_eq_true, decide_eq_true_eq] at hk
        split at hs
        · simp only [Option.some.injEq, Prod.mk.injEq, decide_eq_true_eq] at hs
          obtain ⟨hg, rfl, rfl, rfl, rfl⟩ := hs
          exact va_mmax hx hb hml hown (hts _ (List.mem_of_getElem? hk.1.1.1)) (hts _ (List.mem_of_getElem? hk.1.1.2)) (hts _ (List.mem_of_getElem? hk.1.2)) (hts _ (List.mem_of_getElem? hk.2)) hfr (by rw [a_catmap]; omega) hce hsl hdg (kk H locs rfl rfl rfl rfl hh hS)
        · cases hs
      · rename_i heq; cases heq
      · rename_i heq; cases heq
      · cases hk
    · split at hk
      · rename_i heq; cases heq
      · rename_i p1 p2 p3 p4 r4 heq
        simp only [Bool.and_eq_true, decide_eq_true_eq] at hk
        split at hs
        · simp only [Option.some.injEq, Prod.mk.injEq, decide_eq_true_eq] at hs
          obtain ⟨hg, rfl, rfl, rfl, rfl⟩ := hs
          exact va_mmin hx hb hml hown (hts _ (List.mem_of_getElem? hk.1.1.1)) (hts _ (List.mem_of_getElem? hk.1.1.2)) (hts _ (List.mem_of_getElem? hk.1.2)) (hts _ (List.mem_of_getElem? hk.2)) hfr (by rw [a_catmap]; omega) hce hsl hdg (kk H locs rfl rfl rfl rfl hh hS)
        · cases hs
      · rename_i heq; cases heq
      · cases hk
    · split at hk
      · rename_i heq; cases heq
      · rename_i heq; cases heq
      · rename_i p1 p2 p3 p4 r4 heq
        simp only [Bool.and_eq_true, decide_eq_true_eq] at hk
        split at hs
        · split at hs
          · rename_i n0 f n1 g hb0 ha0
            simp only [Option.some.injEq, Prod.mk.injEq, Bool.and_eq_true, decide_eq_true_eq] at hs
            obtain ⟨hg, rfl, rfl, rfl, rfl⟩ := hs
            refine a_copy hx hb hml hown hts (List.mem_of_getElem? hk.1.1.1) (List.mem_of_getElem? hk.1.1.2) (List.mem_of_getElem? hk.1.2) (List.mem_of_getElem? hk.2) hK hh hS hb0 ha0 hg.1.1.1.1.2 hg.1.1.1.2 hg.1.1.2 hg.1.2 hg.2 hfr (by rw [a_catmap]; omega) hdg (fun H1 locs1 hh1 hS1 => ?_)
            exact kk H1 locs1 rfl rfl (List.length_set ..) (a_hz_set ha0 rfl) hh1 hS1
          · cases hs
        · cases hs
      · cases hk
    · cases hs
  case h_2 ix =>
    simp only [a_k4, Bool.and_eq_true, beq_iff_eq] at hk
    obtain ⟨rfl, hk⟩ := hk
    split at hs
    · split at hk
      · rename_i p1 p2 p3 r4 heq
        simp only [Bool.and_eq_true, decide_eq_true_eq] at hk
        split at hs
        · simp only [Option.some.injEq, Prod.mk.injEq, decide_eq_true_eq] at hs
          obtain ⟨hg, rfl, rfl, rfl, rfl⟩ := hs
          rename_i a r
          refine W.objInit hx hb hown (hts _ (List.mem_of_getElem? hk.1.1)) (hts _ (List.mem_of_getElem? hk.1.2)) (hts _ (List.mem_of_getElem? hk.2)) rfl hml.symm rfl hdg hfr ?_ ?_
          · show 2 * 0 + ((r.map (a_cv B ad)).map fun v => v.category).sum + 12 ≤ _
            rw [a_catmap]; omega
          · exact kk H locs rfl rfl rfl rfl hh hS
        · cases hs
      · cases hk
    · cases hs
  case h_3 => cases hs
end AH
end
section
/-! 08.step5: String constants and statics; returns -/
/-- what is known of a state at a method's entry, apart from the words -/
def a_wor (B : Nat) (ad : Nat → Nat) (D : va_G) (dA : Nat → ClassId) (cl : List vw_C) (E : String) (NC : List (Bool × String × String)) (SR : List (String × Nat × String × Nat)) (tx : List (List Int32)) (sv : List (String × String × String × Value)) (sc : Nat × (Nat → Int32)) (s : State) : Prop :=
  va_K D cl (a_tys dA E) s ∧ ((∀ q ∈ NC, a_cst q s) ∧ va_AO E s) ∧ (∀ q ∈ SR, vk_R q.1 q.2.1 q.2.2.1 (ad q.2.2.2) s) ∧ (va_X (ad 50) sc.1 sc.2 s s.heap ∧ ad 50 < s.heap.size ∧ ad 50 < B) ∧
  vk_S tx.length (tx.map List.length) tx ad (fun k => ad (100 + k)) (fun q => B ≤ q) s s.heap ∧ (∀ q ∈ sv, va_Z q.1 q.2.1 q.2.2.1 (a_cv B ad q.2.2.2) (fun q => B ≤ q) s s.heap) ∧ ∀ q ∈ sv, ∀ k, q.2.2.2 = .retAddr k → k = 60
theorem a_cst_warm {q : Bool × String × String} {s U : State} (hW : s.WarmedH U.vm) (h : a_cst q s) : a_cst q U := by
  obtain ⟨b, C, T⟩ := q
  cases b
  · exact va_Nc.moved hW.alike h
  · exact va_Nw.warmC hW h
theorem a_cst_same {q : Bool × String × String} {s U : State} (hv : U.vm = s.vm) (h : a_cst q s) : a_cst q U := by
  obtain ⟨b, C, T⟩ := q
  cases b
  · exact va_Nc.moved (by rw [hv]; exact Vm.Alike.refl s.vm) h
  · exact va_Nw.same rfl hv.symm h
theorem a_wor_to {B : Nat} {ad : Nat → Nat} {D : va_G} {dA : Nat → ClassId} {cl : List vw_C} {E : String} {NC : List (Bool × String × String)} {SR : List (String × Nat × String × Nat)} {tx : List (List Int32)} {sv : List (String × String × String × Value)} {sc : Nat × (Nat → Int32)} {s U : State} {H : Heap} {locs : List Loc}
    (h : a_wor B ad D dA cl E NC SR tx sv sc s) (hW : s.WarmedH U.vm) (hU : U.heap = H) (hS : va_S (fun q => B ≤ q) s.heap H locs) : a_wor B ad D dA cl E NC SR tx sv sc U := by
  obtain ⟨h1, h2, h3, ⟨⟨scr, x1, x2, x3, x4, x5⟩, h4b, h4c⟩, h5, h6, h7⟩ := h
  subst hU
  have hq : ∀ a : Nat, a < s.heap.size → ¬ B ≤ a → U.heap[a]? = s.heap[a]? := hS.2.1
  refine ⟨va_K.moved hW.alike h1, ⟨fun q hq => a_cst_warm hW (h2.1 q hq), h2.2.moved hW.alike⟩, fun q hq => (h3 q hq).warm hW, ⟨⟨scr, by rw [hq _ h4b (by omega)]; exact x1, State.isArrayOf_alike hW.alike x2, x3, x4, x5⟩, Nat.lt_of_lt_of_le h4b hS.1, h4c⟩, (h5.kept hq).moved hW.alike, fun q hq2 => ((h6 q hq2).kept hq).moved hW.alike, h7⟩
theorem a_wor_same {B : Nat} {ad : Nat → Nat} {D : va_G} {dA : Nat → ClassId} {cl : List vw_C} {E : String} {NC : List (Bool × String × String)} {SR : List (String × Nat × String × Nat)} {tx : List (List Int32)} {sv : List (String × String × String × Value)} {sc : Nat × (Nat → Int32)} {s U : State}
    (h : a_wor B ad D dA cl E NC SR tx sv sc s) (hv : U.vm = s.vm) (hU : U.heap = s.heap) : a_wor B ad D dA cl E NC SR tx sv sc U := by
  obtain ⟨h1, h2, h3, ⟨⟨scr, x1, x2, x3, x4, x5⟩, h4b, h4c⟩, h5, h6, h7⟩ := h
  have ha : s.vm.Alike U.vm := by rw [hv]; exact Vm.Alike.refl s.vm
  refine ⟨va_K.moved ha h1, ⟨fun q hq => a_cst_same hv (h2.1 q hq), h2.2.moved ha⟩, fun q hq => (h3 q hq).same hv, ⟨⟨scr, by rw [hU]; exact x1, State.isArrayOf_alike ha x2, x3, x4, x5⟩, by rw [hU]; exact h4b, h4c⟩, by rw [hU]; exact h5.moved ha, fun q hq => by rw [hU]; exact (h6 q hq).moved ha, h7⟩
section AH
variable {p : Program} {l : Launch} {e : Env} {R : Room} {s : State} {m : MethodId} {args : Array Value} {below : List Frame} {meth : Method} {c : Code} {H : Heap} {locs : List Loc} {cells slots : Nat} {Q : State → Prop}
variable {cc : ByteArray} {pc : Nat} {ls : Array Slot} {B : Nat} {ad : Nat → Nat} {TB : List Jvm.Cond} {h : List aC} {tx : List (List Int32)} {sv : List (String × String × String × Value)}
theorem a_lenD (tx : List (List Int32)) (k : Nat) : (tx.map List.length).getD k 0 = (tx.getD k []).length := by
  rw [List.getD_eq_getElem?_getD, List.getD_eq_getElem?_getD, List.getElem?_map]
  cases tx[k]? <;> rfl
theorem a_s5_ok (hx : p.tables.exec = Jvm.exec) (hb : c.code = cc) (hts : ∀ w ∈ TB, w.before args s = true) {own : String} (hown : s.vm.findClass own = some m.cls)
    (hE : vk_S tx.length (tx.map List.length) tx ad (fun k => ad (100 + k)) (fun q => B ≤ q) s s.heap) (hsv : ∀ q ∈ sv, va_Z q.1 q.2.1 q.2.2.1 (a_cv B ad q.2.2.2) (fun q => B ≤ q) s s.heap)
    {ins : Instr} {len : Nat} {aux : aX} (hdg : decode cc pc = .ok (ins, len)) (hk : a_k5 own TB sv ins len aux = true) (hS : va_S (fun q => B ≤ q) s.heap H locs)
    {i i' : Nat} {L L' : aL} {st st' : List Value} {h' : List aC} (hs : a_s5 tx sv ins aux i L st h = some (true, i', L', st', h'))
    (kk : i' = i + 1 → L' = L → h' = h → W p l e R s m args below meth c H locs cells slots Q (F0 m (pc + len) ls (st'.map (a_cv B ad)))) :
    W p l e R s m args below meth c H locs cells slots Q (F0 m pc ls (st.map (a_cv B ad))) := by
  unfold a_s5 at hs
  split at hs
  case h_1 ix =>
    simp only [a_k5, Bool.and_eq_true, beq_iff_eq] at hk
    obtain ⟨rfl, hk⟩ := hk
    split at hs
    · rename_i k r r2
      simp only [Option.some.injEq, Prod.mk.injEq, decide_eq_true_eq] at hs
      obtain ⟨hg, rfl, rfl, rfl, rfl⟩ := hs
      split at hk
      · rename_i p1 r3 heq
        simp only [decide_eq_true_eq] at hk
        exact vk_getf hx hb (hE.1 k hg).2.2.1 hS hown (hts _ (List.mem_of_getElem? hk)) (fun _ h9 => h9) hdg (kk rfl rfl rfl)
      · rename_i heq; cases heq
      · cases hk
    · rename_i k r r2
      simp only [Option.some.injEq, Prod.mk.injEq, decide_eq_true_eq] at hs
      obtain ⟨hg, rfl, rfl, rfl, rfl⟩ := hs
      split at hk
      · rename_i heq; cases heq
      · rename_i p1 r3 heq
        simp only [decide_eq_true_eq] at hk
        exact vk_getf hx hb (hE.1 k hg).2.1 hS hown (hts _ (List.mem_of_getElem? hk)) (fun _ h9 => h9) hdg (kk rfl rfl rfl)
      · cases hk
    · cases hs
  case h_2 =>
    simp only [a_k5, beq_iff_eq] at hk
    subst hk
    split at hs
    · rename_i q r
      simp only [Option.some.injEq, Prod.mk.injEq, Bool.and_eq_true, decide_eq_true_eq] at hs
      obtain ⟨hg, rfl, rfl, rfl, rfl⟩ := hs
      have h9 := (hE.1 (q - 100) hg.2).2.2.2
      simp only [show 100 + (q - 100) = q by omega] at h9
      exact va_tlen hx hb h9 hS (by rw [a_lenD]) hdg (kk rfl rfl rfl)
    · cases hs
  case h_3 =>
    simp only [a_k5, beq_iff_eq] at hk
    subst hk
    split at hs
    · rename_i j q r
      simp only [Option.some.injEq, Prod.mk.injEq, Bool.and_eq_true, decide_eq_true_eq] at hs
      obtain ⟨⟨hg, hin⟩, rfl, rfl, rfl, rfl⟩ := hs
      have h9 := (hE.1 (q - 100) hg.2).2.2.2
      simp only [show 100 + (q - 100) = q by omega] at h9
      exact va_tb hx hb h9 hS (by rw [a_lenD]; exact a_in_ok hin) rfl hdg (kk rfl rfl rfl)
    · cases hs
  case h_4 ix =>
    simp only [a_k5, Bool.and_eq_true, beq_iff_eq] at hk
    obtain ⟨rfl, hk⟩ := hk
    split at hs
    · rename_i j r2
      split at hs
      · rename_i C n d v hv
        cases hs
        split at hk
        · rename_i j' p1 r3 heq
          cases heq
          rw [hv] at hk
          simp only [decide_eq_true_eq] at hk
          exact va_gets hx hb (hsv _ (List.mem_of_getElem? hv)) hS hown (hts _ (List.mem_of_getElem? hk)) (fun _ h9 => h9) hdg (kk rfl rfl rfl)
        · cases hk
      · cases hs
    · cases hs
  case h_5 =>
    simp only [a_k5, beq_iff_eq] at hk
    subst hk
    split at hs
    · cases hs
      exact lv_i2c hx hb hdg rfl (kk rfl rfl rfl)
    · cases hs
  case h_6 => cases hs
/-- a return row: its length and the method's return type -/
def a_k6 (rt : Option FieldType) (ins : Instr) (len : Nat) (aux : aX) : Bool := len == 1 && match ins with
  | .ireturn => match aux with
    | [0] :: _ => decide (rt = some .int)
    | [1] :: _ => decide (rt = some .boolean)
    | [2] :: _ => decide (rt = some .byte)
    | [3] :: _ => decide (rt = some .char)
    | _ => false
  | .lreturn => decide (rt = some .long)
  | .areturn => match rt with
    | some (.object _) => true
    | some (.array _) => true
    | _ => false
  | .return_ => decide (rt = none)
  | _ => false
theorem a_fin_ok (hx : p.tables.exec = Jvm.exec) (hb : c.code = cc) {rt : Option FieldType} (hr : meth.sig.returnType = rt) (hlocks : meth.locks = false) {Qc : Array Value → State → Outcome → State → Prop} {free : Addr → Prop}
    {ins : Instr} {len : Nat} {aux : aX} (hdg : decode cc pc = .ok (ins, len)) (hk : a_k6 rt ins len aux = true) {st : List Value} {r : Option Value} (hs : a_fin ins aux st = some (true, r))
    (hq : ∀ t : State, t.heap = H → s.WarmedH t.vm → Qc args s (.returned (r.map (a_cv B ad))) t) (hf : ∀ q ∈ locs, free q.base) : W p l e R s m args below meth c H locs cells slots (MQ below Qc args s cells slots free) (F0 m pc ls (st.map (a_cv B ad))) := by
  subst hr
  simp only [a_k6, Bool.and_eq_true, beq_iff_eq] at hk
  obtain ⟨rfl, hk⟩ := hk
  unfold a_fin at hs
  split at hs
  · split at hs
    · rename_i x r2
      cases hs
      simp only [decide_eq_true_eq] at hk
      exact W.iret hx hb hk hq hf hdg hlocks
    · rename_i x r2
      simp only [Option.some.injEq, Prod.mk.injEq, Bool.or_eq_true, decide_eq_true_eq] at hs
      obtain ⟨h01, rfl⟩ := hs
      simp only [decide_eq_true_eq] at hk
      exact W.zret hx hb hk (by rcases h01 with rfl | rfl <;> decide) hq hf hdg hlocks
    · rename_i x r2
      simp only [Option.some.injEq, Prod.mk.injEq, decide_eq_true_eq] at hs
      obtain ⟨h01, rfl⟩ := hs
      simp only [decide_eq_true_eq] at hk
      exact W.zret hx hb hk (by show Value.int _ = _; rw [h01]) hq hf hdg hlocks
    · rename_i x r2
      simp only [Option.some.injEq, Prod.mk.injEq, decide_eq_true_eq] at hs
      obtain ⟨h01, rfl⟩ := hs
      simp only [decide_eq_true_eq] at hk
      exact W.zret hx hb hk (by show Value.int _ = _; rw [h01]) hq hf hdg hlocks
    · cases hs
  · split at hs
    · cases hs
      simp only [decide_eq_true_eq] at hk
      exact W.lret hx hb hk hq hf hdg hlocks
    · cases hs
  · have hrt : ∃ rt, meth.sig.returnType = some rt ∧ ((∃ n, rt = .object n) ∨ ∃ t, rt = .array t) := by
      cases h9 : meth.sig.returnType with
      | none => rw [h9] at hk; simp at hk
      | some t =>
        rw [h9] at hk
        cases t with
        | object n => exact ⟨_, rfl, Or.inl ⟨n, rfl⟩⟩
        | array n => exact ⟨_, rfl, Or.inr ⟨n, rfl⟩⟩
        | _ => simp at hk
    obtain ⟨t, h1, h2⟩ := hrt
    split at hs
    · cases hs
      exact W.aret hx hb h1 h2 (Or.inr ⟨_, rfl⟩) hq hf hdg hlocks
    · cases hs
      exact W.aret hx hb h1 h2 (Or.inr ⟨_, rfl⟩) hq hf hdg hlocks
    · cases hs
      exact W.aret hx hb h1 h2 (Or.inl rfl) hq hf hdg hlocks
    · cases hs
  · split at hs
    · cases hs
      simp only [decide_eq_true_eq] at hk
      exact W.vret hx hb hk hq hf hdg hlocks
    · cases hs
  · cases hs
end AH
end
section
/-! 08b.up: a static method that is named by a subclass of the class that declares it; a super call whose method stands further up -/
section AU
variable {p : Program} {l : Launch} {e : Env} {R : Room} {s : State} {m : MethodId} {args : Array Value} {below : List Frame} {meth : Method} {c : Code} {T : State} {locs : List Loc} {cells slots : Nat}
/-- what the machine asks at such a call, asked cold, is what it asks once class and method are noted -/
theorem a_upCold {Q : Unit → Pre} {X : CtlPost} {dd : Bool} {acts : List Action} {f : JFrame} {index ci n c0 : Nat} {mm : MethodId} {dk ck : Class} {cf : ClassFile} {name desc : String} (ht : T.topJava?.isSome) (hp : e.platform.polymorphicOnlyByInvokevirtual = true)
    (hW : s.WarmedH T.vm) (hE : s.MethodEntryUp e T.vm f.method.cls index c0 mm ci) (g1 : s.vm.classes[f.method.cls]? = some dk) (g2 : dk.cf = some cf) (g3 : cf.constantPool[index]? = some (.methodref ci n)) (g4 : cf.constantPool.nameAndType? n = some (name, desc))
    (g5 : s.vm.classes[c0]? = some ck) (g6 : (ck.methods.any fun z => z.name == name && !z.isStatic && signaturePolymorphic ck z) = false) :
    wp (invokestatic.sem index) Q X e dd acts (T.setTop f) ↔ wp (invokestatic.sem index) Q X e dd acts ((T.setVm (T.vm.calledUp f.method.cls ci index c0 mm)).setTop f) := by
  have hA := hE.warmed.alike
  have hcf := hE.classFirst
  obtain ⟨d0, i1, i2⟩ := hW.alike.2.2 _ _ g1
  obtain ⟨d2, i3, i4⟩ := hA.2.2 _ _ g1
  obtain ⟨c1, i5, i6⟩ := hcf.2.2.1.alike.2.2 _ _ g5
  obtain ⟨c2, i7, i8⟩ := hA.2.2 _ _ g5
  have g3' : cf.constantPool[index]? = some (if false then .interfaceMethodref ci n else .methodref ci n) := g3
  have m0 := memberRef_ask_via (e := e) i1 (by rw [i2]; exact g2) g3' g4
  have m2 := memberRef_ask_via (e := e) i3 (by rw [i4]; exact g2) g3' g4
  have n1 : (c1.methods.any fun z => z.name == name && !z.isStatic && signaturePolymorphic c1 z) = false := by rw [i6]; exact g6
  have n2 : (c2.methods.any fun z => z.name == name && !z.isStatic && signaturePolymorphic c2 z) = false := by rw [i8]; exact g6
  have t1 : (T.setVm (T.vm.noted f.method.cls ci (.cls c0))).topJava?.isSome := ht
  have t2 : (T.setVm (T.vm.calledUp f.method.cls ci index c0 mm)).topJava?.isSome := ht
  have r1 : ∀ {Q' : ClassId → Pre} {d' : Bool} {a' : List Action}, wp (Jvm.resolveClassAt ci) Q' X e d' a' (T.setTop f) ↔ Q' c0 d' a' ((T.setVm (T.vm.noted f.method.cls ci (.cls c0))).setTop f) :=
    W.resolveClassAt_links (t := T.setTop f) (State.method?_setTop f ht) hcf.1
  have r2 : ∀ {Q' : MethodId → Pre} {d' : Bool} {a' : List Action}, wp (Jvm.resolveMethodAt index) Q' X e d' a' ((T.setVm (T.vm.noted f.method.cls ci (.cls c0))).setTop f) ↔ Q' mm d' a' ((T.setVm (T.vm.calledUp f.method.cls ci index c0 mm)).setTop f) :=
    W.resolveMethodAt_links (t := (T.setVm (T.vm.noted f.method.cls ci (.cls c0))).setTop f) (State.method?_setTop f t1) hcf.2.2.2
  simp [invokestatic.sem, hp, Seam.memberRefOf, State.method?_setTop f ht, State.method?_setTop f t2, m0, m2, r1, W.resolveClassAt_ready (s := (T.setVm (T.vm.calledUp f.method.cls ci index c0 mm)).setTop f) (State.method?_setTop f t2) hE.classReady, i5, i7, n1, n2, r2, W.resolveMethodAt_ready (s := (T.setVm (T.vm.calledUp f.method.cls ci index c0 mm)).setTop f) (State.method?_setTop f t2) hE.ready, -Array.any_eq_true]
theorem a_upStatic (X : Stand p l e R s m args below meth c T locs cells slots) (hexec : p.tables.exec = Jvm.exec) {own owner : String} {index : Nat} {x : MethodName} (hown : s.vm.findClass own = some m.cls) (hlink : (Cond.methodLink own index x).before args s = true) (hsame : (Cond.sameMethod x.cls owner x.name x.desc).before args s = true)
    {m' : MethodId} {meth' : Method} {k' : Class} (hn : s.methodNamed? ⟨owner, x.name, x.desc⟩ = some m') (hm' : s.vm.method? m' = some meth') (hst : meth'.isStatic = true) (hk' : s.vm.classes[m'.cls]? = some k') (hkn : k'.name ≠ "java/lang/invoke/MethodHandle" ∧ k'.name ≠ "java/lang/invoke/VarHandle") (hini : k'.init = .initialized)
    {g : JFrame} (hg : g.method = m) {argsL rest : List Value} (hlen : argsL.length = meth'.sig.parameters.length) (hstack : g.stack = argsL.reverse ++ rest) (hdg : decode c.code g.pc = .ok (.invokestatic index, 3)) :
    ∃ vm', Stand p l e R s m args below meth c (T.setVm vm') locs cells slots ∧ ∀ target, (∀ acts, Steps p.tables e below (doInvoke e ((T.setVm vm').setTop { g with stack := rest }) acts m' argsL.toArray).1 target) → Steps p.tables e below (T.setTop g) target := by
  have hpl : e.platform.magicAccessors = ({} : Platform).magicAccessors := by rw [X.admits.platform]
  have hpv : e.platform.polymorphicOnlyByInvokevirtual = true := by rw [X.admits.platform]
  obtain ⟨c0, ck, r1, hc0, hck, hni, hfo, hn1⟩ := Cond.sameMethod_found hsame
  cases hn.symm.trans hn1
  obtain ⟨ci, hl, hri⟩ := Cond.methodLink_specUp hown hc0 hck hni hfo hlink e.platform hpl (by rw [X.admits.platform])
  have hE : s.MethodEntryUp e T.vm m.cls index c0 m' ci := State.methodEntryUp X.warmed hl hri
  obtain ⟨dk, cf, nt, nm, ds, ck', _, _, g1, g2, g3, g4, -, -, g5, -, g6, -⟩ := hl.here
  cases hck.symm.trans g5
  have hA := hE.warmed.alike
  obtain ⟨d2, i1, i2⟩ := hA.2.2 _ _ g1
  obtain ⟨k2, i3, i4⟩ := hA.2.2 _ _ hk'
  obtain ⟨c2, i5, i6⟩ := hA.2.2 _ _ hck
  have n0 : (ck.methods.any fun z => z.name == nm && !z.isStatic && signaturePolymorphic ck z) = false := by simp [g6]
  have n2 : (c2.methods.any fun z => z.name == nm && !z.isStatic && signaturePolymorphic c2 z) = false := by rw [i6]; exact n0
  have g3' : cf.constantPool[index]? = some (if false then .interfaceMethodref ci nt else .methodref ci nt) := g3
  refine ⟨T.vm.calledUp m.cls ci index c0 m', X.noted hE.warmed, fun target hrest => ?_⟩
  subst hg
  jvm_step X.here [hexec, hdg, a_upCold (e := e) (T := T) (s := s) (f := g) X.here.top hpv X.warmed hE g1 g2 g3 g4 hck n0,
    invokestatic.wp_ready (e := e) (s := T.setVm (T.vm.calledUp g.method.cls ci index c0 m')) (k := k2) (meth := meth') (m := m') (args := argsL) (rest := rest) (f := g)
      X.here.top ⟨ci, nm, ds, false, c0, c2, memberRef_ask_via (e := e) i1 (by rw [i2]; exact g2) g3' g4, hE.classReady, i5, n2⟩ hE.ready i3
      (by show (T.vm.calledUp g.method.cls ci index c0 m').method? m' = some meth'; rw [hA.method?]; exact hm') (by rw [i4]; exact signaturePolymorphic_of_name hkn meth') hst (by rw [i4]; exact hini) hlen hstack]
  exact fun acts => hrest _
theorem a_sub1 {vm : Vm} {a b : ClassId} {k : Class} (h1 : vm.classes[a]? = some k) (h2 : k.super = some b) : vm.isSubclass a b = true := by
  have hz : 0 < vm.classes.size := Nat.lt_of_le_of_lt (Nat.zero_le _) (Array.getElem?_eq_some_iff.mp h1).1
  obtain ⟨q, hq⟩ : ∃ q, vm.classes.size = q + 1 := ⟨vm.classes.size - 1, by omega⟩
  unfold Vm.isSubclass
  rw [hq]
  simp [Vm.isSubclassAux, h1, h2]
variable {H : Heap} {Ts ws : List Jvm.Cond} {cc bytes : ByteArray} {nL maxL index n mc ms : Nat} {own owner : String} {x y : MethodName} {ret : Option FieldType} {rm : Room} {Pc : Array Value → State → Prop} {Qc : Array Value → State → Outcome → State → Prop} {free : Addr → Prop} {b : Addr} {As rest : List Value} {g : JFrame}
/-- what both calls ask of the callee -/
def a_cb (R : Room) (s : State) (args : Array Value) (y : MethodName) (bytes : ByteArray) (maxL : Nat) (ret : Option FieldType) (ws : List Jvm.Cond) (rm : Room) (mc ms : Nat) : Prop :=
  rm.cells = mc ∧ rm.slots = ms ∧ rm.frames + 1 ≤ R.frames ∧ 8 + (maxL + 11) + rm.locals ≤ R.locals ∧ (∀ w ∈ ws, ∀ (a' : Array Value) (U : State), s.WarmedH U.vm → w.before a' U = true) ∧ Cond.code y bytes maxL ret ∈ ws ∧ (Cond.code y bytes maxL ret).before args s = true ∧ (Cond.initialized y.cls).before args s = true
theorem a_cb_back (h : a_cb R s args y bytes maxL ret ws rm mc ms) (hM : Met l y ws rm Pc Qc mc ms free) (hbl : FrameBlind Pc) : Back l R p e below s args y 3 8 (PreOf R mc ms Pc) (PostOf Qc mc ms free) := by
  obtain ⟨h1, h2, h3, h4, h5, h6, h7, h8⟩ := h
  exact back_of (bytes := bytes) (maxL := maxL) (ret := ret) hM hbl h1 h2 h3 h4 h5 h6 (fun a' U hW => word_at hW (Or.inl (by first | rfl | simp [Cond.onTables, Cond.keeps, Cond.steady])) h8)
theorem a_runSt (S : CallFix p m c cc nL s args Ts own) (hM : Met l y ws rm Pc Qc mc ms free) (hcb : a_cb R s args y bytes maxL ret ws rm mc ms) (hy : y = ⟨owner, x.name, x.desc⟩) (hmh : owner ≠ "java/lang/invoke/MethodHandle" ∧ owner ≠ "java/lang/invoke/VarHandle") (hlink : (Cond.methodLink own index x).before args s = true) (hsame : (Cond.sameMethod x.cls owner x.name x.desc).before args s = true) (hstat : (Cond.static y).before args s = true) (hnp : ∀ sig, parseMethodDescriptor y.desc = some sig → n = sig.parameters.length) (hp : PreS s H Pc As)
    (hg : g.method = m) (hn : As.length = n) (hsize : g.locals.size = nL) (hstack : g.stack = As.reverse ++ rest) (hW : 2 * g.monitorRoom + (rest.map fun v => v.category).sum ≤ 8) (hdg : decode cc g.pc = .ok (.invokestatic index, 3)) (hf : cells + mc ≤ R.cells ∧ slots + ms ≤ R.slots) :
    va_Run p l e R s m args below meth c H locs cells slots mc ms g rest (Qc As.toArray) free := by
  have hK : Back l R p e below s args y 3 8 (PreOf R mc ms Pc) (PostOf Qc mc ms free) := a_cb_back hcb hM hp.1
  obtain ⟨-, -, -, -, -, -, hcode, hini⟩ := hcb
  obtain ⟨hx, hb, hml, ho, -⟩ := S
  obtain ⟨mk, hnamed⟩ := Cond.code_named hcode
  obtain ⟨methM, cM, hmethM, -, -, -, -, -, -, hsigM⟩ := Cond.code_spec hnamed hcode
  have hst : methM.isStatic = true := Cond.static_spec hnamed hmethM hstat
  obtain ⟨kP, hkP, hkPn⟩ := className_of_methodNamed hnamed
  have hinitP : kP.init = .initialized := Cond.initialized_spec (findClass_of_methodNamed hnamed) hkP hini
  intro T hT X
  obtain ⟨vm₁, X₁, hstep⟩ := a_upStatic X hx ho hlink hsame (by rw [← hy]; exact hnamed) hmethM hst hkP (by rw [hkPn, hy]; exact hmh) hinitP hg (argsL := As) (rest := rest) (hn.trans (hnp _ hsigM)) hstack (by rw [hb]; exact hdg)
  obtain ⟨v, ⟨U', l2, c2, s2⟩, X', ⟨g', mk', t, L, e1, e2, hq, h1, hL, h2, h3⟩, hsteps⟩ := hK m meth c ⟨T.setVm vm₁, locs, cells, slots⟩ { g with stack := rest } (.invokestatic index) mk As.toArray X₁ hg (hsize.trans hml.symm) (by rw [hb]; exact hdg) hW (X₁.named hnamed) ⟨hf.1, hf.2, hp.2 (T.setVm vm₁) hT X₁.warmed⟩
  dsimp only [Pt.U, Pt.locs, Pt.cells, Pt.slots] at X' e1 e2 h1 h2 h3 hsteps
  subst h1; subst h2; subst h3
  exact ⟨v, (T.setVm vm₁).calling g' mk' As.toArray, t, U', L, hT, X', hL, e1, e2, hq, fun target h => hstep _ fun acts => by rw [doInvoke_state]; exact hsteps.trans h⟩
theorem a_runSp (S : CallFix p m c cc nL s args Ts own) (hM : Met l y ws rm Pc Qc mc ms free) (hcb : a_cb R s args y bytes maxL ret ws rm mc ms) (hy : y = ⟨owner, x.name, x.desc⟩) (hlink : (Cond.methodLink own index x).before args s = true) (hsame : (Cond.sameMethod x.cls owner x.name x.desc).before args s = true) (hs1 : (Cond.superclass own x.cls).before args s = true) (hs2 : (Cond.superclass x.cls owner).before args s = true) (hinst : (Cond.instanceMethod y).before args s = true) (hno : x.name ≠ "<init>") (hnp : ∀ sig, parseMethodDescriptor y.desc = some sig → n = sig.parameters.length)
    {C : String} {cC : ClassId} (hat : ClassAt s C cC) (hp : PreV s H C b Pc As)
    (hg : g.method = m) (hn : As.length = n) (hsize : g.locals.size = nL) (hstack : g.stack = As.reverse ++ .ref b :: rest) (hW : 2 * g.monitorRoom + (rest.map fun v => v.category).sum ≤ 8) (hdg : decode cc g.pc = .ok (.invokespecial index, 3)) (hf : cells + mc ≤ R.cells ∧ slots + ms ≤ R.slots) :
    va_Run p l e R s m args below meth c H locs cells slots mc ms g rest (Qc (Value.ref b :: As).toArray) free := by
  have hK : Back l R p e below s args y 3 8 (PreOf R mc ms Pc) (PostOf Qc mc ms free) := a_cb_back hcb hM hp.1
  obtain ⟨-, -, -, -, -, -, hcode, hini⟩ := hcb
  obtain ⟨hx, hb, hml, ho, -⟩ := S
  obtain ⟨mk, methM, hnamed, hmethM, hstM, habM⟩ := Cond.instanceMethod_spec hinst
  obtain ⟨methM', cM, hmethM', -, -, -, -, -, -, hsigM⟩ := Cond.code_spec hnamed hcode
  cases hmethM.symm.trans hmethM'
  obtain ⟨ps, dk, kp, hps, hdk, hkp, hsuper, -, -, hnid⟩ := Cond.superclass_spec ho hs1
  obtain ⟨po, dk2, ko, hpo, hdk2, hko, hsuper2, -, -, -⟩ := Cond.superclass_spec hps hs2
  have hpm : po = mk.cls := Option.some.inj (hpo.symm.trans (by have := findClass_of_methodNamed hnamed; rw [hy] at this; exact this))
  subst hpm
  obtain ⟨-, ⟨cellB, hcB, hoB, hclB⟩, hPc⟩ := hp
  obtain ⟨hfc, kB, hkB, -⟩ := hat
  cases hfc.symm.trans hclB
  intro T hT X
  obtain ⟨vm₁, X₁, hstep⟩ := X.invokespecialUp hx ho hlink hsame (by rw [← hy]; exact hnamed) hmethM hstM habM hno hdk hnid hps hsuper (a_sub1 hdk2 hsuper2) (a := b) (cell := cellB) (by rw [hT]; exact hcB) (fun z h => by rw [h] at hoB; cases hoB) hkB hg (argsL := As) (rest := rest) (hn.trans (hnp _ hsigM)) hstack (by rw [hb]; exact hdg)
  obtain ⟨v, ⟨U', l2, c2, s2⟩, X', ⟨g', mk', t, L, e1, e2, hq, h1, hL, h2, h3⟩, hsteps⟩ := hK m meth c ⟨T.setVm vm₁, locs, cells, slots⟩ { g with stack := rest } (.invokespecial index) mk (Value.ref b :: As).toArray X₁ hg (hsize.trans hml.symm) (by rw [hb]; exact hdg) hW (X₁.named hnamed) ⟨hf.1, hf.2, hPc (T.setVm vm₁) hT X₁.warmed⟩
  dsimp only [Pt.U, Pt.locs, Pt.cells, Pt.slots] at X' e1 e2 h1 h2 h3 hsteps
  subst h1; subst h2; subst h3
  exact ⟨v, (T.setVm vm₁).calling g' mk' (Value.ref b :: As).toArray, t, U', L, hT, X', hL, e1, e2, hq, fun target h => hstep _ (by rw [doInvoke_state]; exact hsteps.trans h)⟩
end AU
end
section
/-! 09.call: calls of methods that are walked -/
def a_mh (o : String) : Bool := decide (o ≠ "java/lang/invoke/MethodHandle") && decide (o ≠ "java/lang/invoke/VarHandle")
def a_np (y : MethodName) (n : Nat) : Bool := decide ((parseMethodDescriptor y.desc).map (fun d => d.parameters.length) = some n)
/-- an entry of a virtual call: class, method, form, places -/
def a_ke (own : String) (TB : List Jvm.Cond) (cl : List vw_C) (P : List aM) (ix n : Nat) (ent : List Nat) : Bool := match ent with
  | [ci, k, 0, p1, p2, p3, p4] => match cl[ci]?, P[k]? with
    | some (C, _, _), some (y, _, _, _, _) => decide (TB[p1]? = some (Jvm.Cond.methodLink own ix y)) && decide (TB[p2]? = some (Jvm.Cond.instanceMethod y)) && decide (TB[p3]? = some (Jvm.Cond.selects C y y)) && decide (TB[p4]? = some (Jvm.Cond.initialized C)) && decide (y.cls = C) && a_mh y.cls && a_np y n
    | _, _ => false
  | [ci, k, 1, p1, p2, p3, p4, p5] => match cl[ci]?, P[k]?, TB[p1]?, TB[p2]? with
    | some (C, _, _), some (y, _, _, _, _), some (.methodLink o i x), some (.sameMethod xc ow xn xd) => decide (o = own) && decide (i = ix) && decide (xc = x.cls) && decide (xn = x.name) && decide (xd = x.desc) && decide (TB[p3]? = some (Jvm.Cond.selects C x y)) && decide (TB[p4]? = some (Jvm.Cond.instanceMethod y)) && decide (TB[p5]? = some (Jvm.Cond.initialized y.cls)) && decide (y = ⟨ow, x.name, x.desc⟩) && a_mh ow && a_np x n
    | _, _, _, _ => false
  | [ci, k, 2, p1, p2, p3, p4, p5, p6, p7] => match cl[ci]?, P[k]?, TB[p1]?, TB[p2]?, TB[p7]? with
    | some (C, _, _), some (y, _, _, _, _), some (.methodLink o i x), some (.sameMethod xc ow xn xd), some (.code z _ _ _) => decide (o = own) && decide (i = ix) && decide (xc = x.cls) && decide (xn = x.name) && decide (xd = x.desc) && decide (TB[p3]? = some (Jvm.Cond.selects C x y)) && decide (TB[p4]? = some (Jvm.Cond.instanceMethod y)) && decide (TB[p5]? = some (Jvm.Cond.initialized y.cls)) && decide (TB[p6]? = some (Jvm.Cond.instanceMethod ⟨ow, x.name, x.desc⟩)) && decide (z = ⟨ow, x.name, x.desc⟩) && a_mh ow && a_np x n
    | _, _, _, _, _ => false
  | _ => false
def a_kq (own : String) (TB : List Jvm.Cond) (cl : List vw_C) (P : List aM) (ins : Instr) (len : Nat) (aux : aX) : Bool := len == 3 && match ins with
  | .invokestatic ix => match aux with
    | [0, k, n] :: [p1, p2, p3] :: _ => match P[k]? with
      | some (y, _, _, _, _) => decide (TB[p1]? = some (Jvm.Cond.methodLink own ix y)) && decide (TB[p2]? = some (Jvm.Cond.static y)) && decide (TB[p3]? = some (Jvm.Cond.initialized y.cls)) && a_mh y.cls && a_np y n
      | none => false
    | [6, k, n] :: [p1, p2, p3, p4] :: _ => match P[k]?, TB[p1]?, TB[p2]? with
      | some (y, _, _, _, _), some (.methodLink o i x), some (.sameMethod xc ow xn xd) => decide (o = own) && decide (i = ix) && decide (xc = x.cls) && decide (xn = x.name) && decide (xd = x.desc) && decide (TB[p3]? = some (Jvm.Cond.static y)) && decide (TB[p4]? = some (Jvm.Cond.initialized y.cls)) && decide (y = ⟨ow, x.name, x.desc⟩) && a_mh ow && a_np y n
      | _, _, _ => false
    | _ => false
  | .invokespecial ix => match aux with
    | [0, k, n] :: [p1, p2, p3] :: _ => match P[k]? with
      | some (y, _, _, rt, _) => decide (TB[p1]? = some (Jvm.Cond.methodLink own ix y)) && decide (TB[p2]? = some (Jvm.Cond.instanceMethod y)) && decide (TB[p3]? = some (Jvm.Cond.initialized y.cls)) && decide (y.name = "<init>") && decide (rt = none) && a_mh y.cls && a_np y n
      | none => false
    | [2, k, n] :: [p1, p2, p3, p4, p5] :: _ => match P[k]? with
      | some (y, _, _, _, _) => decide (TB[p1]? = some (Jvm.Cond.methodLink own ix y)) && decide (TB[p2]? = some (Jvm.Cond.sameMethod y.cls y.cls y.name y.desc)) && decide (TB[p3]? = some (Jvm.Cond.superclass own y.cls)) && decide (TB[p4]? = some (Jvm.Cond.instanceMethod y)) && decide (TB[p5]? = some (Jvm.Cond.initialized y.cls)) && decide (y.name ≠ "<init>") && a_np y n
      | none => false
    | [7, k, n] :: [p1, p2, p3, p4, p5, p6] :: _ => match P[k]?, TB[p1]?, TB[p2]? with
      | some (y, _, _, _, _), some (.methodLink o i x), some (.sameMethod xc ow xn xd) => decide (o = own) && decide (i = ix) && decide (xc = x.cls) && decide (xn = x.name) && decide (xd = x.desc) && decide (TB[p3]? = some (Jvm.Cond.superclass own x.cls)) && decide (TB[p4]? = some (Jvm.Cond.superclass x.cls ow)) && decide (TB[p5]? = some (Jvm.Cond.instanceMethod y)) && decide (TB[p6]? = some (Jvm.Cond.initialized y.cls)) && decide (y = ⟨ow, x.name, x.desc⟩) && decide (x.name ≠ "<init>") && a_np y n
      | _, _, _ => false
    | _ => false
  | .invokevirtual ix => match aux with
    | [0, n] :: vt => vt.all (a_ke own TB cl P ix n)
    | [5, k, n] :: [p1, p2, p3, p4] :: _ => match P[k]? with
      | some (y, _, _, _, _) => decide (TB[p1]? = some (Jvm.Cond.methodLink own ix y)) && decide (TB[p2]? = some (Jvm.Cond.instanceMethod y)) && decide (TB[p3]? = some (Jvm.Cond.selects "java/lang/String" y y)) && decide (TB[p4]? = some (Jvm.Cond.initialized "java/lang/String")) && decide (y.cls = "java/lang/String") && a_mh y.cls && a_np y n
      | none => false
    | _ => false
  | _ => false
theorem a_vt_mem {ci k : Nat} : ∀ {vt : aX}, a_vt ci vt = some k → ∃ tl, (ci :: k :: tl) ∈ vt := by
  intro vt
  induction vt with
  | nil => intro h; simp [a_vt] at h
  | cons x vt ih =>
    intro h
    match x, h with
    | [], h => simp [a_vt] at h
    | [_], h => simp [a_vt] at h
    | c :: k' :: tl, h =>
      simp only [a_vt] at h
      split at h
      · rename_i hc
        cases h
        subst hc
        exact ⟨tl, List.mem_cons_self⟩
      · obtain ⟨tl', h'⟩ := ih h
        exact ⟨tl', List.mem_cons_of_mem _ h'⟩
theorem a_good {TB : List Jvm.Cond} (hg : TB.all goodWord = true) : GoodIn TB TB := fun w h => ⟨h, good_of_word (List.all_eq_true.mp hg w h)⟩
theorem a_goodc {TB : List Jvm.Cond} (hg : TB.all goodWord = true) {w : Jvm.Cond} (hw : w ∈ TB) : GoodIn TB (w :: TB) := fun v h => by
  rcases List.mem_cons.mp h with rfl | h
  · exact a_good hg _ hw
  · exact a_good hg _ h
theorem a_goodl {TB ws : List Jvm.Cond} (hg : TB.all goodWord = true) (hw : ∀ w ∈ ws, w ∈ TB) : GoodIn TB ws := fun v h => a_good hg _ (hw v h)
def a_Pc (B : Nat) (ad : Nat → Nat) (D : va_G) (dA : Nat → ClassId) (cl : List vw_C) (E : String) (NC : List (Bool × String × String)) (SR : List (String × Nat × String × Nat)) (tx : List (List Int32)) (sv : List (String × String × String × Value)) (sc : Nat × (Nat → Int32)) (As : List Value) (h : List aC) : Array Value → State → Prop :=
  fun v U => v = (As.map (a_cv B ad)).toArray ∧ a_hp B ad D dA cl h U.heap ∧ a_wor B ad D dA cl E NC SR tx sv sc U
def a_Qc (B : Nat) (ad : Nat → Nat) (D : va_G) (dA : Nat → ClassId) (cl : List vw_C) (r : Option Value) (h : List aC) : Array Value → State → Outcome → State → Prop :=
  fun _ st o t => o = .returned (r.map (a_cv B ad)) ∧ a_hp B ad D dA cl h t.heap ∧ va_F (fun q => B ≤ q) st t
theorem a_blind {B : Nat} {ad : Nat → Nat} {D : va_G} {dA : Nat → ClassId} {cl : List vw_C} {E : String} {NC : List (Bool × String × String)} {SR : List (String × Nat × String × Nat)} {tx : List (List Int32)} {sv : List (String × String × String × Value)} {sc : Nat × (Nat → Int32)} {As : List Value} {h : List aC} : FrameBlind (a_Pc B ad D dA cl E NC SR tx sv sc As h) :=
  fun _ _ _ _ q => ⟨q.1, q.2.1, a_wor_same q.2.2 rfl rfl⟩
section AQ
variable {p : Program} {l : Launch} {e : Env} {R : Room} {s : State} {m : MethodId} {args : Array Value} {below : List Frame} {meth : Method} {c : Code} {H : Heap} {locs : List Loc} {cells slots : Nat} {Q : State → Prop}
variable {cc : ByteArray} {pc nL : Nat} {ls : Array Slot} {B : Nat} {ad : Nat → Nat} {D : va_G} {dA : Nat → ClassId} {cl : List vw_C} {E : String} {NC : List (Bool × String × String)} {SR : List (String × Nat × String × Nat)} {tx : List (List Int32)} {sv : List (String × String × String × Value)} {sc : Nat × (Nat → Int32)} {TB : List Jvm.Cond} {h : List aC} {P : List aM}
theorem a_stk {st : List Value} {n : Nat} : st.map (a_cv B ad) = (((st.take n).reverse).map (a_cv B ad)).reverse ++ (st.drop n).map (a_cv B ad) := by
  rw [List.map_reverse, List.reverse_reverse, ← List.map_append, List.take_append_drop]
theorem a_cal_ok (hx : p.tables.exec = Jvm.exec) (hb : c.code = cc) (hml : c.maxLocals = nL) (hsz : ls.size = nL) (hts : ∀ w ∈ TB, w.before args s = true) {own : String} (hown : s.vm.findClass own = some m.cls) (hw : a_wor B ad D dA cl E NC SR tx sv sc s) (hgd : TB.all goodWord = true)
    {ins : Instr} {len : Nat} {aux : aX} (hdg : decode cc pc = .ok (ins, len)) (hk : a_kq own TB cl P ins len aux = true) (hh : a_hp B ad D dA cl h H) (hS : va_S (fun q => B ≤ q) s.heap H locs)
    {st As rest : List Value} {k : Nat} (hc : a_cal tx.length ins aux st h = some (k, As, rest)) {y : MethodName} {bs : ByteArray} {ml : Nat} {rt : Option FieldType} {rows : List aI} (hP : P[k]? = some (y, bs, ml, rt, rows)) (hcode : Cond.code y bs ml rt ∈ TB) (hml2 : ml ≤ 20)
    {d mc ms : Nat} {h' : List aC} {r : Option Value} (hM : Met l y (Cond.code y bs ml rt :: TB) ({ frames := d, cells := mc, slots := ms, locals := 40 * d } : Room) (a_Pc B ad D dA cl E NC SR tx sv sc As h) (a_Qc B ad D dA cl r h') mc ms (fun q => B ≤ q))
    (hrest : (rest.map fun v => v.category).sum ≤ 8) (hfr : d + 1 ≤ R.frames) (hlo : 40 * (d + 1) ≤ R.locals) (hf : cells + mc ≤ R.cells ∧ slots + ms ≤ R.slots) :
    len = 3 ∧ va_Run p l e R s m args below meth c H locs cells slots mc ms (F0 m pc ls (st.map (a_cv B ad))) (rest.map (a_cv B ad)) (a_Qc B ad D dA cl r h' (As.map (a_cv B ad)).toArray) (fun q => B ≤ q) := by
  have hpre : ∀ U : State, U.heap = H → s.WarmedH U.vm → a_Pc B ad D dA cl E NC SR tx sv sc As h (As.map (a_cv B ad)).toArray U := fun U hU hW => ⟨rfl, by rw [hU]; exact hh, a_wor_to hw hW hU hS⟩
  have hR : d + 1 ≤ R.frames ∧ 8 + (ml + 11) + 40 * d ≤ R.locals := ⟨hfr, by omega⟩
  have hcb : (Cond.initialized y.cls).before args s = true → a_cb R s args y bs ml rt (Cond.code y bs ml rt :: TB) ({ frames := d, cells := mc, slots := ms, locals := 40 * d } : Room) mc ms := fun hi => ⟨rfl, rfl, hfr, hR.2, pay_in hts (a_goodc hgd hcode), List.mem_cons_self, hts _ hcode, hi⟩
  have hnp : ∀ {n : Nat}, (parseMethodDescriptor y.desc).map (fun d => d.parameters.length) = some n → ∀ sig, parseMethodDescriptor y.desc = some sig → n = sig.parameters.length := fun h2 sig h => by
    rw [h] at h2
    exact (Option.some.inj h2).symm
  have hroom : 2 * (F0 m pc ls (st.map (a_cv B ad))).monitorRoom + ((rest.map (a_cv B ad)).map fun v => v.category).sum ≤ 8 := lv_room (by rw [a_catmap]; exact hrest)
  simp only [a_kq, Bool.and_eq_true, beq_iff_eq] at hk
  obtain ⟨rfl, hk⟩ := hk
  refine ⟨rfl, ?_⟩
  unfold a_cal at hc
  split at hc
  · rename_i ix
    split at hc
    · rename_i k' n r2
      split at hc
      · rename_i hn
        cases hc
        simp only at hk
        split at hk
        · rename_i k2 n2 p1 p2 p3 r3 heq
          cases heq
          rw [hP] at hk
          simp only [Bool.and_eq_true, decide_eq_true_eq, a_mh, a_np] at hk
          obtain ⟨⟨⟨⟨k1, k2⟩, k3⟩, k4⟩, k5⟩ := hk
          refine va_runS (Ts := TB) ⟨hx, hb, hml, hown, hts⟩ hM ⟨callB_of n hts (a_goodc hgd hcode) rfl rfl rfl (hts _ (List.mem_of_getElem? k3)) (hts _ (List.mem_of_getElem? k1)) ⟨k4.1, k4.2, k5⟩ hR, hts _ (List.mem_of_getElem? k2)⟩ ⟨a_blind, hpre⟩ rfl (by simp; omega) hsz a_stk hroom hdg hf
        · rename_i heq; cases heq
        · cases hk
      · cases hc
    · rename_i k' n r2
      split at hc
      · rename_i hn
        cases hc
        simp only at hk
        split at hk
        · rename_i heq; cases heq
        · rename_i k2 n2 p1 p2 p3 p4 r3 heq
          cases heq
          split at hk
          · rename_i y' bs' ml' rt' rows' o i x xc ow xn xd hP' hp1 hp2
            cases hP.symm.trans hP'
            simp only [Bool.and_eq_true, decide_eq_true_eq, a_mh, a_np] at hk
            obtain ⟨⟨⟨⟨⟨⟨⟨⟨⟨rfl, rfl⟩, rfl⟩, rfl⟩, rfl⟩, k3⟩, k4⟩, k5⟩, k6⟩, k7⟩ := hk
            exact a_runSt (Ts := TB) ⟨hx, hb, hml, hown, hts⟩ hM (hcb (hts _ (List.mem_of_getElem? k4))) k5 k6 (hts _ (List.mem_of_getElem? hp1)) (hts _ (List.mem_of_getElem? hp2)) (hts _ (List.mem_of_getElem? k3)) (hnp k7) ⟨a_blind, hpre⟩ rfl (by simp; omega) hsz a_stk hroom hdg hf
          · cases hk
        · cases hk
      · cases hc
    · cases hc
  · rename_i ix
    split at hc
    · rename_i k' n r2
      split at hc
      · rename_i a r3 hd
        cases hc
        have hlen : n < st.length := by
          have := congrArg List.length hd
          rw [List.length_drop] at this
          simp at this
          omega
        simp only at hk
        split at hk
        · rename_i k2 n2 p1 p2 p3 r3 heq
          cases heq
          rw [hP] at hk
          simp only [Bool.and_eq_true, decide_eq_true_eq, a_mh, a_np] at hk
          obtain ⟨⟨⟨⟨⟨⟨k1, k2⟩, k3⟩, k4⟩, k5⟩, k6⟩, k7⟩ := hk
          subst k5
          refine va_runI (Ts := TB) (b := B + a) (As := ((st.take n).reverse).map (a_cv B ad)) ⟨hx, hb, hml, hown, hts⟩ hM (cwI n hts (a_goodc hgd hcode) rfl rfl rfl (hts _ (List.mem_of_getElem? k3)) (hts _ (List.mem_of_getElem? k1)) (hts _ (List.mem_of_getElem? k2)) k4 ⟨k6.1, k6.2, k7⟩ hR) ⟨a_blind, hpre⟩ rfl (by simp; omega) hsz ?_ hroom hdg hf
          show st.map (a_cv B ad) = _
          rw [a_stk (n := n), hd]; rfl
        · rename_i heq; cases heq
        · rename_i heq; cases heq
        · cases hk
      · cases hc
    · rename_i k' n r2
      split at hc
      · rename_i a r3 hd
        split at hc
        · rename_i cx ha
          obtain ⟨ci, fs⟩ := cx
          cases hc
          have hlen : n < st.length := by
            have := congrArg List.length hd
            rw [List.length_drop] at this
            simp at this
            omega
          obtain ⟨rr, hrr, -⟩ := hh.2 a _ ha
          simp only at hk
          split at hk
          · rename_i heq; cases heq
          · rename_i k2 n2 p1 p2 p3 p4 p5 r3 heq
            cases heq
            rw [hP] at hk
            simp only [Bool.and_eq_true, decide_eq_true_eq, a_np] at hk
            obtain ⟨⟨⟨⟨⟨⟨k1, k2⟩, k3⟩, k4⟩, k5⟩, k6⟩, k7⟩ := hk
            have hT : GoodIn TB (va_wsSU own ix y (Cond.code y bs ml rt :: TB)) := by
              refine a_goodl hgd (fun w hw => ?_)
              simp only [va_wsSU, List.mem_append, List.mem_cons, List.not_mem_nil, or_false] at hw
              rcases hw with (rfl | rfl | rfl | rfl | rfl) | rfl | hw
              · exact List.mem_of_getElem? k1
              · exact List.mem_of_getElem? k2
              · exact List.mem_of_getElem? k3
              · exact List.mem_of_getElem? k4
              · exact List.mem_of_getElem? k5
              · exact hcode
              · exact hw
            refine va_runSU (Ts := TB) (b := B + a) (C := rr.1) (As := ((st.take n).reverse).map (a_cv B ad)) (hw.1.1 ci rr hrr).2 ⟨hx, hb, hml, hown, hts⟩ hM (va_cwSU n hts hT rfl rfl rfl ⟨k6, k7⟩ hR) ⟨a_blind, a_recv hw.1 hh ha hrr, hpre⟩ rfl (by simp; omega) hsz ?_ hroom hdg hf
            show st.map (a_cv B ad) = _
            rw [a_stk (n := n), hd]; rfl
          · rename_i heq; cases heq
          · cases hk
        · cases hc
      · cases hc
    · rename_i k' n r2
      split at hc
      · rename_i a r3 hd
        split at hc
        · rename_i cx ha
          obtain ⟨ci, fs⟩ := cx
          cases hc
          have hlen : n < st.length := by
            have := congrArg List.length hd
            rw [List.length_drop] at this
            simp at this
            omega
          obtain ⟨rr, hrr, -⟩ := hh.2 a _ ha
          simp only at hk
          split at hk
          · rename_i heq; cases heq
          · rename_i heq; cases heq
          · rename_i k2 n2 p1 p2 p3 p4 p5 p6 r3 heq
            cases heq
            split at hk
            · rename_i y' bs' ml' rt' rows' o i x xc ow xn xd hP' hp1 hp2
              cases hP.symm.trans hP'
              simp only [Bool.and_eq_true, decide_eq_true_eq, a_np] at hk
              obtain ⟨⟨⟨⟨⟨⟨⟨⟨⟨⟨⟨rfl, rfl⟩, rfl⟩, rfl⟩, rfl⟩, k3⟩, k4⟩, k5⟩, k6⟩, k7⟩, k8⟩, k9⟩ := hk
              refine a_runSp (Ts := TB) (b := B + a) (C := rr.1) (As := ((st.take n).reverse).map (a_cv B ad)) ⟨hx, hb, hml, hown, hts⟩ hM (hcb (hts _ (List.mem_of_getElem? k6))) k7 (hts _ (List.mem_of_getElem? hp1)) (hts _ (List.mem_of_getElem? hp2)) (hts _ (List.mem_of_getElem? k3)) (hts _ (List.mem_of_getElem? k4)) (hts _ (List.mem_of_getElem? k5)) k8 (hnp k9) (hw.1.1 ci rr hrr).2 ⟨a_blind, a_recv hw.1 hh ha hrr, hpre⟩ rfl (by simp; omega) hsz ?_ hroom hdg hf
              show st.map (a_cv B ad) = _
              rw [a_stk (n := n), hd]; rfl
            · cases hk
          · cases hk
        · cases hc
      · cases hc
    · cases hc
  · rename_i ix
    split at hc
    · rename_i n vt
      split at hc
      · rename_i a r3 hd
        split at hc
        · rename_i ci fs ha
          split at hc
          · rename_i k' hvt
            cases hc
            have hlen : n < st.length := by
              have := congrArg List.length hd
              rw [List.length_drop] at this
              simp at this
              omega
            obtain ⟨tl, hmem⟩ := a_vt_mem hvt
            simp only [List.all_eq_true] at hk
            have hke := hk _ hmem
            have hstk : st.map (a_cv B ad) = (((st.take n).reverse).map (a_cv B ad)).reverse ++ (Value.ref (B + a) :: rest.map (a_cv B ad)) := by
              rw [a_stk (n := n), hd]; rfl
            unfold a_ke at hke
            split at hke
            · rename_i ci' k2 p1 p2 p3 p4 heq
              cases heq
              split at hke
              · rename_i C T N y' bs' ml' rt' rows' hcl hP'
                cases hP.symm.trans hP'
                simp only [Bool.and_eq_true, decide_eq_true_eq, a_mh, a_np] at hke
                obtain ⟨⟨⟨⟨⟨⟨k1, k2⟩, k3⟩, k4⟩, k5⟩, k6⟩, k7⟩ := hke
                have hT : GoodIn TB (wsV own ix C y (Cond.code y bs ml rt :: TB)) := by
                  refine a_goodl hgd (fun w hw => ?_)
                  simp only [wsV, List.mem_append, List.mem_cons, List.not_mem_nil, or_false] at hw
                  rcases hw with (rfl | rfl | rfl | rfl) | rfl | hw
                  · exact List.mem_of_getElem? k1
                  · exact List.mem_of_getElem? k2
                  · exact List.mem_of_getElem? k3
                  · exact List.mem_of_getElem? k4
                  · exact hcode
                  · exact hw
                exact va_runV (Ts := TB) (b := B + a) (C := C) (As := ((st.take n).reverse).map (a_cv B ad)) ⟨hx, hb, hml, hown, hts⟩ hM (cwV n hts hT rfl rfl rfl ⟨k5, k6.1, k6.2, k7⟩ hR) ⟨a_blind, a_recv hw.1 hh ha hcl, hpre⟩ rfl (by simp; omega) hsz hstk hroom hdg hf
              · cases hke
            · rename_i ci' k2 p1 p2 p3 p4 p5 heq
              cases heq
              split at hke
              · rename_i C T N y' bs' ml' rt' rows' o i x xc ow xn xd hcl hP' hp1 hp2
                cases hP.symm.trans hP'
                simp only [Bool.and_eq_true, decide_eq_true_eq, a_mh, a_np] at hke
                obtain ⟨⟨⟨⟨⟨⟨⟨⟨⟨⟨rfl, rfl⟩, rfl⟩, rfl⟩, rfl⟩, k3⟩, k4⟩, k5⟩, k6⟩, k7⟩, k8⟩ := hke
                have hT : GoodIn TB (va_wsU o i C ow x y (Cond.code y bs ml rt :: TB)) := by
                  refine a_goodl hgd (fun w hw => ?_)
                  simp only [va_wsU, List.mem_append, List.mem_cons, List.not_mem_nil, or_false] at hw
                  rcases hw with (rfl | rfl | rfl | rfl | rfl) | rfl | hw
                  · exact List.mem_of_getElem? hp1
                  · exact List.mem_of_getElem? hp2
                  · exact List.mem_of_getElem? k3
                  · exact List.mem_of_getElem? k4
                  · exact List.mem_of_getElem? k5
                  · exact hcode
                  · exact hw
                exact va_runU (Ts := TB) (b := B + a) (C := C) (As := ((st.take n).reverse).map (a_cv B ad)) ⟨hx, hb, hml, hown, hts⟩ hM (va_cwU n hts hT rfl rfl rfl k6 ⟨k7.1, k7.2, k8⟩ hR) ⟨a_blind, a_recv hw.1 hh ha hcl, hpre⟩ rfl (by simp; omega) hsz hstk hroom hdg hf
              · cases hke
            · rename_i ci' k2 p1 p2 p3 p4 p5 p6 p7 heq
              cases heq
              split at hke
              · rename_i C T N y' bs' ml' rt' rows' o i x xc ow xn xd z b0 m0 r0 hcl hP' hp1 hp2 hp7
                cases hP.symm.trans hP'
                simp only [Bool.and_eq_true, decide_eq_true_eq, a_mh, a_np] at hke
                obtain ⟨⟨⟨⟨⟨⟨⟨⟨⟨⟨⟨rfl, rfl⟩, rfl⟩, rfl⟩, rfl⟩, k3⟩, k4⟩, k5⟩, k6⟩, rfl⟩, k7⟩, k8⟩ := hke
                have hT : GoodIn TB (va_wsO o i C ow x y (Cond.code y bs ml rt :: TB)) := by
                  refine a_goodl hgd (fun w hw => ?_)
                  simp only [va_wsO, List.mem_append, List.mem_cons, List.not_mem_nil, or_false] at hw
                  rcases hw with (rfl | rfl | rfl | rfl | rfl | rfl) | rfl | hw
                  · exact List.mem_of_getElem? hp1
                  · exact List.mem_of_getElem? hp2
                  · exact List.mem_of_getElem? k6
                  · exact List.mem_of_getElem? k3
                  · exact List.mem_of_getElem? k4
                  · exact List.mem_of_getElem? k5
                  · exact hcode
                  · exact hw
                exact va_runU (Ts := TB) (b := B + a) (C := C) (As := ((st.take n).reverse).map (a_cv B ad)) ⟨hx, hb, hml, hown, hts⟩ hM (va_cwO n hts hT rfl rfl rfl (List.mem_of_getElem? hp7) ⟨k7.1, k7.2, k8⟩ hR) ⟨a_blind, a_recv hw.1 hh ha hcl, hpre⟩ rfl (by simp; omega) hsz hstk hroom hdg hf
              · cases hke
            · cases hke
          · cases hc
        · cases hc
      · cases hc
    · rename_i k' n r2
      split at hc
      · rename_i a r3 hd
        split at hc
        · rename_i hat
          cases hc
          have hlen : n < st.length := by
            have := congrArg List.length hd
            rw [List.length_drop] at this
            simp at this
            omega
          have hstk : st.map (a_cv B ad) = (((st.take n).reverse).map (a_cv B ad)).reverse ++ (Value.ref (ad a) :: rest.map (a_cv B ad)) := by
            rw [a_stk (n := n), hd]; rfl
          simp only at hk
          split at hk
          · rename_i heq; cases heq
          · rename_i k2 n2 p1 p2 p3 p4 r3 heq
            cases heq
            rw [hP] at hk
            simp only [Bool.and_eq_true, decide_eq_true_eq, a_mh, a_np] at hk
            obtain ⟨⟨⟨⟨⟨⟨k1, k2⟩, k3⟩, k4⟩, k5⟩, k6⟩, k7⟩ := hk
            have hT : GoodIn TB (wsV own ix "java/lang/String" y (Cond.code y bs ml rt :: TB)) := by
              refine a_goodl hgd (fun w hw => ?_)
              simp only [wsV, List.mem_append, List.mem_cons, List.not_mem_nil, or_false] at hw
              rcases hw with (rfl | rfl | rfl | rfl) | rfl | hw
              · exact List.mem_of_getElem? k1
              · exact List.mem_of_getElem? k2
              · exact List.mem_of_getElem? k3
              · exact List.mem_of_getElem? k4
              · exact hcode
              · exact hw
            exact va_runV (Ts := TB) (b := ad a) (C := "java/lang/String") (As := ((st.take n).reverse).map (a_cv B ad)) ⟨hx, hb, hml, hown, hts⟩ hM (cwV n hts hT rfl rfl rfl ⟨k5, k6.1, k6.2, k7⟩ hR) ⟨a_blind, vk_recv hw.2.2.2.2.1 hat hS, hpre⟩ rfl (by simp; omega) hsz hstk hroom hdg hf
          · cases hk
        · cases hc
      · cases hc
    · cases hc
  · cases hc
/-- behind the call -/
theorem a_behind {A : Array Value} {mc ms : Nat} {g : JFrame} {rest : List Value} {r : Option Value} {h' : List aC} (hr : va_Run p l e R s m args below meth c H locs cells slots mc ms g rest (a_Qc B ad D dA cl r h' A) (fun q => B ≤ q)) (hS : va_S (fun q => B ≤ q) s.heap H locs)
    (kk : ∀ (H1 : Heap) (locs1 : List Loc), a_hp B ad D dA cl h' H1 → va_S (fun q => B ≤ q) s.heap H1 locs1 → W p l e R s m args below meth c H1 locs1 (cells + mc) (slots + ms) Q { g with pc := g.pc + 3, stack := (r.map (a_cv B ad)).toList ++ rest }) : W p l e R s m args below meth c H locs cells slots Q g := by
  intro T hT X
  obtain ⟨v, st₀, t, T', L, h0, X', hL, e1, e2, ⟨ho, hh, hz, hk⟩, st⟩ := hr T hT X
  cases ho
  rw [h0] at hz hk
  obtain ⟨t2, a1, b1⟩ := kk T'.heap (locs ++ L) (by rw [e1]; exact hh)
    ⟨Nat.le_trans hS.1 (by rw [e1]; exact hz), fun q h1 h2 => by rw [e1, hk q (Nat.lt_of_lt_of_le h1 hS.1) h2]; exact hS.2.1 q h1 h2, fun q hq => by
      rcases List.mem_append.mp hq with h | h
      · exact hS.2.2 q h
      · exact hL q h⟩ T' rfl X'
  exact ⟨t2, st t2 a1, b1⟩
end AQ
end
section
/-! 10.sound: what our machine computes, the machine does -/
def a_ct (ins : Instr) : Nat := match ins with
  | .iconst _ | .bipush _ | .sipush _ | .lconst _ | .aconst_null | .iload_n _ | .iload _ | .lload_n _ | .aload_n _ | .aload _ | .istore_n _ | .istore _ | .lstore_n _ | .astore_n _ | .astore _ | .iinc _ _ | .iadd | .isub | .imul | .iand | .ior | .ixor | .ishl | .ishr | .idiv | .irem | .ineg | .lor | .lshl | .lcmp | .dup | .dup2 | .pop => 1
  | .goto _ | .if_icmp _ _ | .ifCond _ _ | .ifnull _ | .ifnonnull _ | .tableswitch _ _ _ _ | .lookupswitch _ _ => 2
  | .getfield _ | .putfield _ | .iaload | .iastore | .baload | .bastore | .aaload | .aastore | .arraylength | .new _ | .newarray _ | .anewarray _ | .instanceof _ | .ldc _ | .ldc2_w _ => 3
  | .invokestatic _ | .invokespecial _ | .invokevirtual _ => 4
  | .getstatic _ | .i2c => 5
  | .ireturn | .lreturn | .areturn | .return_ => 6
  | _ => 0
def a_is9 (ins : Instr) (aux : aX) : Bool := match ins, aux with
  | .getfield _, [_, 9] :: _ => true
  | _, _ => false
def a_isc (aux : aX) : Bool := match aux with
  | (_ :: _ :: _) :: _ => true
  | _ => false
/-- a row that is never come to: an instruction that our machine doesn't have, or a call without a link -/
def a_dead (ins : Instr) (aux : aX) : Bool := a_ct ins == 0 || (a_ct ins == 4 && aux.isEmpty)
def a_pf (rows : List aI) (i : Nat) : Nat := match rows[i]? with
  | some r => r.1
  | none => 0
/-- a row of the table is what the bytes and the words say -/
def a_rowok (own : String) (isI : Bool) (P : List aM) (cl : List vw_C) (TB : List Jvm.Cond) (E : String) (NC : List (Bool × String × String)) (SR : List (String × Nat × String × Nat)) (sv : List (String × String × String × Value)) (bs : ByteArray) (rt : Option FieldType) (rows : List aI) (i : Nat) (row : aI) : Bool := match row with
  | (pc, ins, len, cst, aux) => decide (decode bs pc = .ok (ins, len)) && (a_dead ins aux || match a_ct ins with
    | 1 => a_k1 ins len cst && a_pf rows (i + 1) == pc + len
    | 2 => a_k2 ins len aux (a_pf rows) i
    | 3 => (bif a_is9 ins aux then a_k5 own TB sv ins len aux else a_k3 own isI cl TB E NC SR ins len cst aux) && a_pf rows (i + 1) == pc + len
    | 4 => (bif a_isc aux then a_kq own TB cl P ins len aux else a_k4 own TB ins len aux) && a_pf rows (i + 1) == pc + len
    | 5 => a_k5 own TB sv ins len aux && a_pf rows (i + 1) == pc + len
    | 6 => a_k6 rt ins len aux
    | _ => false)
theorem a_isc_ne {aux : aX} (h : a_isc aux = true) : aux.isEmpty = false := by
  unfold a_isc at h
  split at h
  · rfl
  · cases h
theorem a_s1_ct {ins : Instr} {cst : Int32} {aux : aX} {i : Nat} {L : aL} {st : List Value} {h : List aC} {q : aN} (hs : a_s1 ins cst aux i L st h = some q) : a_ct ins = 1 := by
  unfold a_s1 at hs
  split at hs <;> first | rfl | cases hs
theorem a_s2_ct {ins : Instr} {aux : aX} {i : Nat} {L : aL} {st : List Value} {h : List aC} {q : aN} (hs : a_s2 ins aux i L st h = some q) : a_ct ins = 2 := by
  unfold a_s2 at hs
  split at hs <;> first | rfl | cases hs
theorem a_s3_ct {df : List (List Value)} {sc : Nat × (Nat → Int32)} {ins : Instr} {cst : Int32} {aux : aX} {i : Nat} {L : aL} {st : List Value} {h : List aC} {q : aN} (hs : a_s3 df sc ins cst aux i L st h = some q) : a_ct ins = 3 ∧ a_is9 ins aux = false := by
  unfold a_s3 at hs
  split at hs
  · split at hs
    · exact ⟨rfl, rfl⟩
    · cases hs
  all_goals first | exact ⟨rfl, rfl⟩ | cases hs
theorem a_s4_ct {ins : Instr} {aux : aX} {i : Nat} {L : aL} {st : List Value} {h : List aC} {q : aN} (hs : a_s4 ins aux i L st h = some q) : a_ct ins = 4 ∧ a_isc aux = false ∧ aux.isEmpty = false := by
  unfold a_s4 at hs
  split at hs
  · split at hs <;> first | exact ⟨rfl, rfl, rfl⟩ | cases hs
  · split at hs <;> first | exact ⟨rfl, rfl, rfl⟩ | cases hs
  · cases hs
theorem a_s5_ct {tx : List (List Int32)} {sv : List (String × String × String × Value)} {ins : Instr} {aux : aX} {i : Nat} {L : aL} {st : List Value} {h : List aC} {q : aN} (hs : a_s5 tx sv ins aux i L st h = some q) : a_ct ins = 5 ∨ (a_ct ins = 3 ∧ (a_is9 ins aux = true ∨ ins = .arraylength ∨ ins = .baload)) := by
  unfold a_s5 at hs
  split at hs
  · split at hs
    · exact Or.inr ⟨rfl, Or.inl rfl⟩
    · exact Or.inr ⟨rfl, Or.inl rfl⟩
    · cases hs
  · exact Or.inr ⟨rfl, Or.inr (Or.inl rfl)⟩
  · exact Or.inr ⟨rfl, Or.inr (Or.inr rfl)⟩
  · exact Or.inl rfl
  · exact Or.inl rfl
  · cases hs
theorem a_fin_ct {ins : Instr} {aux : aX} {st : List Value} {q : Bool × Option Value} (hs : a_fin ins aux st = some q) : a_ct ins = 6 := by
  unfold a_fin at hs
  split at hs <;> first | rfl | cases hs
theorem a_cal_ct {nt : Nat} {ins : Instr} {aux : aX} {st : List Value} {h : List aC} {q : Nat × List Value × List Value} (hs : a_cal nt ins aux st h = some q) : a_ct ins = 4 ∧ a_isc aux = true := by
  unfold a_cal at hs
  split at hs
  · split at hs <;> first | exact ⟨rfl, rfl⟩ | cases hs
  · split at hs <;> first | exact ⟨rfl, rfl⟩ | cases hs
  · split at hs <;> first | exact ⟨rfl, rfl⟩ | cases hs
  · cases hs
/-- a heap does not become smaller -/
def a_le (h h' : List aC) : Prop := h.length ≤ h'.length ∧ a_hz h ≤ a_hz h'
theorem a_le_rf (h : List aC) : a_le h h := ⟨Nat.le_refl _, Nat.le_refl _⟩
theorem a_le_tr {a b c : List aC} (h1 : a_le a b) (h2 : a_le b c) : a_le a c := ⟨Nat.le_trans h1.1 h2.1, Nat.le_trans h1.2 h2.2⟩
theorem a_le_set {h : List aC} {j : Nat} {x y : aC} (hj : h[j]? = some x) (hxy : a_sz y = a_sz x) : a_le h (h.set j y) := ⟨by rw [List.length_set]; exact Nat.le_refl _, by rw [a_hz_set hj hxy]; exact Nat.le_refl _⟩
theorem a_le_app (h : List aC) (x : aC) : a_le h (h ++ [x]) := ⟨by simp, by rw [a_hz_app]; omega⟩
theorem a_s1_gr {ins : Instr} {cst : Int32} {aux : aX} {i i' : Nat} {L L' : aL} {st st' : List Value} {h h' : List aC} {g : Bool} (hs : a_s1 ins cst aux i L st h = some (g, i', L', st', h')) : h' = h := by
  unfold a_s1 a_li a_ll a_la a_si a_sl a_sa at hs
  split at hs <;> (repeat' (split at hs)) <;> first | (cases hs; done) | (cases hs; rfl) | (simp only [Option.some.injEq, Prod.mk.injEq] at hs; exact hs.2.2.2.2.symm)
theorem a_s2_gr {ins : Instr} {aux : aX} {i i' : Nat} {L L' : aL} {st st' : List Value} {h h' : List aC} {g : Bool} (hs : a_s2 ins aux i L st h = some (g, i', L', st', h')) : h' = h ∧ L' = L := by
  unfold a_s2 at hs
  split at hs <;> (repeat' (split at hs)) <;> first | (cases hs; done) | (cases hs; exact ⟨rfl, rfl⟩)
theorem a_s3_gr {df : List (List Value)} {sc : Nat × (Nat → Int32)} {ins : Instr} {cst : Int32} {aux : aX} {i i' : Nat} {L L' : aL} {st st' : List Value} {h h' : List aC} {g : Bool} (hs : a_s3 df sc ins cst aux i L st h = some (g, i', L', st', h')) : a_le h h' := by
  unfold a_s3 at hs
  split at hs <;> (repeat' (split at hs)) <;> first
    | (cases hs; done)
    | (simp only [Option.some.injEq, Prod.mk.injEq] at hs
       obtain ⟨-, -, -, -, rfl⟩ := hs
       first | exact a_le_rf _ | exact a_le_app _ _ | (exact a_le_set (by assumption) rfl) | (exact a_le_set (by assumption) (by simp [a_sz])))
theorem a_s4_gr {ins : Instr} {aux : aX} {i i' : Nat} {L L' : aL} {st st' : List Value} {h h' : List aC} {g : Bool} (hs : a_s4 ins aux i L st h = some (g, i', L', st', h')) : a_le h h' := by
  unfold a_s4 at hs
  split at hs <;> (repeat' (split at hs)) <;> first
    | (cases hs; done)
    | (simp only [Option.some.injEq, Prod.mk.injEq] at hs
       obtain ⟨-, -, -, -, rfl⟩ := hs
       first | exact a_le_rf _ | (rename_i h1; exact a_le_set h1 rfl))
theorem a_s5_gr {tx : List (List Int32)} {sv : List (String × String × String × Value)} {ins : Instr} {aux : aX} {i i' : Nat} {L L' : aL} {st st' : List Value} {h h' : List aC} {g : Bool} (hs : a_s5 tx sv ins aux i L st h = some (g, i', L', st', h')) : h' = h := by
  unfold a_s5 at hs
  split at hs <;> (repeat' (split at hs)) <;> first | (cases hs; done) | (cases hs; rfl) | (simp only [Option.some.injEq, Prod.mk.injEq] at hs; exact hs.2.2.2.2.symm)
theorem a_bif {α : Type} {g : Bool} {x : Option α} {y : α} (h : (bif g then x else none) = some y) : g = true ∧ x = some y := by
  cases g
  · cases h
  · exact ⟨rfl, h⟩
theorem a_go_gr (P : List aM) (df : List (List Value)) (tx : List (List Int32)) (sv : List (String × String × String × Value)) (sc : Nat × (Nat → Int32)) : ∀ (n d k i : Nat) (L : aL) (st : List Value) (h hf : List aC) (r : Option Value), a_go P df tx sv sc n d k i L st h = some (r, hf) → a_le h hf := by
  intro n
  induction n with
  | zero => intro d k i L st h hf r hg; simp [a_go] at hg
  | succ n ih =>
    intro d k i L st h hf r hg
    simp only [a_go] at hg
    split at hg
    · cases hg
    · split at hg
      · cases hg
      · split at hg
        · obtain ⟨-, hg⟩ := a_bif hg
          cases hg
          exact a_le_rf _
        · split at hg
          · split at hg
            · cases hg
            · split at hg
              · cases hg
              · obtain ⟨-, hg⟩ := a_bif hg
                split at hg
                · rename_i hg1
                  exact a_le_tr (ih _ _ _ _ _ _ _ _ hg1) (ih _ _ _ _ _ _ _ _ hg)
                · cases hg
          · split at hg
            · rename_i hs
              obtain ⟨-, hg⟩ := a_bif hg
              have := a_s1_gr hs
              subst this
              exact ih _ _ _ _ _ _ _ _ hg
            · split at hg
              · rename_i hs
                obtain ⟨-, hg⟩ := a_bif hg
                have := (a_s2_gr hs).1
                subst this
                exact ih _ _ _ _ _ _ _ _ hg
              · split at hg
                · rename_i hs
                  obtain ⟨-, hg⟩ := a_bif hg
                  exact a_le_tr (a_s3_gr hs) (ih _ _ _ _ _ _ _ _ hg)
                · split at hg
                  · rename_i hs
                    obtain ⟨-, hg⟩ := a_bif hg
                    exact a_le_tr (a_s4_gr hs) (ih _ _ _ _ _ _ _ _ hg)
                  · split at hg
                    · rename_i hs
                      obtain ⟨-, hg⟩ := a_bif hg
                      have := a_s5_gr hs
                      subst this
                      exact ih _ _ _ _ _ _ _ _ hg
                    · cases hg
theorem a_args_mem : ∀ (vs : List Value) (i j : Nat) (v : Value), (∀ w ∈ vs, w.category = 1) → vs[j]? = some v → (i + j, v) ∈ lv_args i vs := by
  intro vs
  induction vs with
  | nil => intro i j v _ h; simp at h
  | cons x vs ih =>
    intro i j v hc h
    have hx := hc x List.mem_cons_self
    simp only [lv_args, hx]
    cases j with
    | zero =>
      simp at h
      subst h
      exact List.mem_cons_self
    | succ j =>
      simp at h
      have := ih (i + 1) j v (fun w hw => hc w (List.mem_cons_of_mem _ hw)) h
      rw [show i + (j + 1) = i + 1 + j by omega]
      exact List.mem_cons_of_mem _ this
theorem a_sl_len : ∀ (vs : List Value), (∀ w ∈ vs, w.category = 1) → (lg_sl vs).length = vs.length := by
  intro vs
  induction vs with
  | nil => intro _; rfl
  | cons x vs ih =>
    intro hc
    have hx := hc x List.mem_cons_self
    have := ih (fun w hw => hc w (List.mem_cons_of_mem _ hw))
    unfold lg_sl at this ⊢
    rw [List.flatMap_cons, List.length_append, this]
    simp [hx]
    omega
theorem a_entry {B : Nat} {ad : Nat → Nat} {As : List Value} {ml : Nat} (hl : As.length ≤ ml) (hc : As.all (fun v => v.category == 1) = true) : a_lo B ad ((lg_sl (As.map (a_cv B ad)) ++ List.replicate (ml - (lg_sl (As.map (a_cv B ad))).length) Slot.unset).toArray) (a_ent ml As) ∧ (a_ent ml As).length = ml := by
  have hc1 : ∀ w ∈ As.map (a_cv B ad), w.category = 1 := by
    intro w hw
    obtain ⟨v, hv, rfl⟩ := List.mem_map.mp hw
    rw [a_cv_cat]
    simpa using List.all_eq_true.mp hc v hv
  have hlen := a_sl_len _ hc1
  rw [List.length_map] at hlen
  have hL : (a_ent ml As).length = ml := by simp [a_ent]; omega
  have h0 := lv_entry (As.map (a_cv B ad)) (n := ml) (by rw [hlen]; exact hl)
  refine ⟨⟨?_, fun j v hj => ?_⟩, hL⟩
  · rw [hL]
    exact ⟨h0.1, h0.2.1, fun q hq => by cases hq⟩
  · have hjA : As[j]? = some v := by
      unfold a_ent at hj
      by_cases hjl : j < As.length
      · rw [List.getElem?_append_left (by simpa using hjl), List.getElem?_map] at hj
        cases h9 : As[j]? with
        | none => rw [h9] at hj; cases hj
        | some w => rw [h9] at hj; cases hj; rfl
      · rw [List.getElem?_append_right (by simpa using Nat.le_of_not_lt hjl)] at hj
        rw [List.getElem?_replicate] at hj
        split at hj <;> cases hj
    have := a_args_mem (As.map (a_cv B ad)) 0 j (a_cv B ad v) hc1 (by rw [List.getElem?_map, hjA]; rfl)
    rw [Nat.zero_add] at this
    exact h0.2.2 _ this
end
section
/-! 11.main: soundness -/
section AM
variable {P : List aM} {df : List (List Value)} {tx : List (List Int32)} {sv : List (String × String × String × Value)} {sc : Nat × (Nat → Int32)} {B : Nat} {ad : Nat → Nat} {D : va_G} {dA : Nat → ClassId} {cl : List vw_C} {ty : Nat → Nat → FieldType} {E : String} {NC : List (Bool × String × String)} {SR : List (String × Nat × String × Nat)} {TB : List Jvm.Cond} {l : Launch}
/-- the table of methods is as the bytes and the words say -/
def a_prog (P : List aM) (cl : List vw_C) (TB : List Jvm.Cond) (E : String) (NC : List (Bool × String × String)) (SR : List (String × Nat × String × Nat)) (sv : List (String × String × String × Value)) : Prop :=
  ∀ (k : Nat) (y : MethodName) (bs : ByteArray) (ml : Nat) (rt : Option FieldType) (rows : List aI), P[k]? = some (y, bs, ml, rt, rows) → Cond.code y bs ml rt ∈ TB ∧ plainName y.cls = true ∧ ml ≤ 20 ∧ a_pf rows 0 = 0 ∧ ∀ (i : Nat) (row : aI), rows[i]? = some row → a_rowok y.cls (y.name == "<init>") P cl TB E NC SR sv bs rt rows i row = true
/-- our machine's run from a frame is the machine's -/
def a_snd (P : List aM) (df : List (List Value)) (tx : List (List Int32)) (sv : List (String × String × String × Value)) (sc : Nat × (Nat → Int32)) (B : Nat) (ad : Nat → Nat) (D : va_G) (dA : Nat → ClassId) (cl : List vw_C) (E : String) (NC : List (Bool × String × String)) (SR : List (String × Nat × String × Nat)) (TB : List Jvm.Cond) (l : Launch) (n : Nat) : Prop :=
  ∀ (d k i : Nat) (L : aL) (st : List Value) (h : List aC) (r : Option Value) (hf : List aC), a_go P df tx sv sc n d k i L st h = some (r, hf) →
  ∀ (y : MethodName) (bs : ByteArray) (ml : Nat) (rt : Option FieldType) (rows : List aI), P[k]? = some (y, bs, ml, rt, rows) →
  ∀ (p : Program) (e : Env) (R : Room) (s : State) (m : MethodId) (args : Array Value) (below : List Frame) (meth : Method) (c : Code) (H : Heap) (locs : List Loc) (ls : Array Slot) (nb zb : Nat),
  p.tables.exec = Jvm.exec → c.code = bs → c.maxLocals = ml → L.length = ml → s.vm.findClass y.cls = some m.cls → (∀ w ∈ TB, w.before args s = true) → a_wor B ad D dA cl E NC SR tx sv sc s → meth.sig.returnType = rt → meth.locks = false → meth.name = y.name →
  a_lo B ad ls L → a_hp B ad D dA cl h H → va_S (fun q => B ≤ q) s.heap H locs → d + 1 ≤ R.frames → 40 * (d + 1) ≤ R.locals → nb ≤ h.length → zb ≤ a_hz h → hf.length - nb ≤ R.cells → a_hz hf - zb ≤ R.slots →
  W p l e R s m args below meth c H locs (h.length - nb) (a_hz h - zb) (MQ below (a_Qc B ad D dA cl r hf) args s (hf.length - nb) (a_hz hf - zb) (fun q => B ≤ q)) (F0 m (a_pf rows i) ls (st.map (a_cv B ad)))
/-- a contract out of a run -/
theorem a_met {n : Nat} (hsnd : a_snd P df tx sv sc B ad D dA cl E NC SR TB l n) (hpr : a_prog P cl TB E NC SR sv) {d k : Nat} {As : List Value} {h hf : List aC} {r : Option Value} {y : MethodName} {bs : ByteArray} {ml : Nat} {rt : Option FieldType} {rows : List aI} (hP : P[k]? = some (y, bs, ml, rt, rows))
    (hl : As.length ≤ ml) (hc : As.all (fun v => v.category == 1) = true) (hg : a_go P df tx sv sc n d k 0 (a_ent ml As) [] h = some (r, hf)) :
    Met l y (Cond.code y bs ml rt :: TB) ({ frames := d + 1, cells := hf.length - h.length, slots := a_hz hf - a_hz h, locals := 40 * (d + 1) } : Room) (a_Pc B ad D dA cl E NC SR tx sv sc As h) (a_Qc B ad D dA cl r hf) (hf.length - h.length) (a_hz hf - a_hz h) (fun q => B ≤ q) := by
  obtain ⟨hcode, hpl, hml20, hpf, hrows⟩ := hpr k y bs ml rt rows hP
  refine Met.ofW (cc := bs) (maxL := ml) (ret := rt) hpl rfl ?_
  intro p e s m args below meth c s₁ Bd hml hv
  obtain ⟨rfl, hhp, hwor⟩ := hv
  have hts := atoms_spec (ws := Cond.code y bs ml rt :: TB) Bd.pre
  obtain ⟨hent, hentl⟩ := a_entry (B := B) (ad := ad) hl hc
  have hnm : meth.name = y.name := (name_of_methodNamed Bd.named Bd.method).1
  have := hsnd d k 0 (a_ent ml As) [] h r hf hg y bs ml rt rows hP p e (headSpec (Cond.code y bs ml rt :: TB) ({ frames := d + 1, cells := hf.length - h.length, slots := a_hz hf - a_hz h, locals := 40 * (d + 1) } : Room)).room s m (As.map (a_cv B ad)).toArray below meth c s.heap [] _ h.length (a_hz h) Bd.exec Bd.bytes hml hentl (findClass_of_methodNamed Bd.named) (fun w hw => hts w (List.mem_cons_of_mem _ hw)) hwor Bd.returns Bd.notSynchronized hnm hent hhp va_S.rf (Nat.le_refl _) (Nat.le_refl _) (Nat.le_refl _) (Nat.le_refl _) (Nat.le_refl _) (Nat.le_refl _)
  rw [Nat.sub_self, Nat.sub_self, hpf] at this
  rw [lg_entry_eq]
  exact this
theorem a_sound (hpr : a_prog P cl TB E NC SR sv) (hcl : a_cls cl ty df TB) (hgd : TB.all goodWord = true) : ∀ n, a_snd P df tx sv sc B ad D dA cl E NC SR TB l n := by
  intro n
  induction n with
  | zero => intro d k i L st h r hf hg; simp [a_go] at hg
  | succ n ih =>
    intro d k i L st h r hf hg y bs ml rt rows hP p e R s m args below meth c H locs ls nb zb hx hb hml hLl hown hts hw hr hlk hnm hlo hh hS hfr hloc hnb hzb hRc hRs
    obtain ⟨hcode, hpl, hml20, hpf, hrows⟩ := hpr k y bs ml rt rows hP
    have hgr := a_go_gr P df tx sv sc _ _ _ _ _ _ _ _ _ hg
    have hsz : ls.size = ml := by rw [← hLl]; exact hlo.1.1
    simp only [a_go] at hg
    rw [hP] at hg
    simp only at hg
    split at hg
    · cases hg
    · rename_i pc ins len cst aux hrow
      have hok := hrows i _ hrow
      have hpc : a_pf rows i = pc := by unfold a_pf; rw [hrow]
      simp only [a_rowok, Bool.and_eq_true, Bool.or_eq_true, decide_eq_true_eq] at hok
      obtain ⟨hdg, hok⟩ := hok
      have hdg2 : decode bs (a_pf rows i) = .ok (ins, len) := by rw [hpc]; exact hdg
      split at hg
      · rename_i g q hs
        obtain ⟨rfl, hg⟩ := a_bif hg
        cases hg
        have hok := hok.resolve_left (by simp [a_dead, a_fin_ct hs])
        rw [a_fin_ct hs] at hok
        simp only at hok
        exact a_fin_ok hx hb hr hlk hdg2 hok hs (fun t ht hW => ⟨rfl, by rw [ht]; exact hh, hS.F ht⟩) hS.2.2
      · split at hg
        · rename_i k' As rest hs
          split at hg
          · cases hg
          · rename_i d'
            split at hg
            · cases hg
            · rename_i y' bs' ml' rt' rows' hP'
              obtain ⟨hgd2, hg⟩ := a_bif hg
              simp only [Bool.and_eq_true, decide_eq_true_eq] at hgd2
              obtain ⟨⟨hrest, hAl⟩, hcat⟩ := hgd2
              split at hg
              · rename_i rv h1 hg1
                have hct := a_cal_ct hs
                have hok := hok.resolve_left (by simp [a_dead, hct.1, a_isc_ne hct.2])
                rw [hct.1] at hok
                simp only [hct.2, cond_true, Bool.and_eq_true, beq_iff_eq] at hok
                obtain ⟨hcode', -, hml20', -, -⟩ := hpr k' y' bs' ml' rt' rows' hP'
                have hgr1 := a_go_gr P df tx sv sc _ _ _ _ _ _ _ _ _ hg1
                have hgr2 := a_go_gr P df tx sv sc _ _ _ _ _ _ _ _ _ hg
                have hM := a_met (l := l) ih hpr hP' hAl hcat hg1
                have hfit : h.length - nb + (h1.length - h.length) ≤ R.cells ∧ a_hz h - zb + (a_hz h1 - a_hz h) ≤ R.slots := by
                  have := hgr1.1; have := hgr1.2; have := hgr2.1; have := hgr2.2
                  exact ⟨by omega, by omega⟩
                obtain ⟨hlen, hrun⟩ := a_cal_ok (p := p) (l := l) (e := e) (below := below) (meth := meth) (pc := a_pf rows i) hx hb hml hsz hts hown hw hgd hdg2 hok.1 hh hS hs hP' hcode' hml20' hM hrest (by omega) (by omega) hfit
                subst hlen
                refine a_behind hrun hS (fun H1 locs1 hh1 hS1 => ?_)
                have := ih (d' + 1) k (i + 1) L (rv.toList ++ rest) h1 r hf hg y bs ml rt rows hP p e R s m args below meth c H1 locs1 ls nb zb hx hb hml hLl hown hts hw hr hlk hnm hlo hh1 hS1 hfr hloc (Nat.le_trans hnb hgr1.1) (Nat.le_trans hzb hgr1.2) hRc hRs
                rw [show h1.length - nb = h.length - nb + (h1.length - h.length) by have := hgr1.1; omega, show a_hz h1 - zb = a_hz h - zb + (a_hz h1 - a_hz h) by have := hgr1.2; omega, hok.2, ← hpc, List.map_append] at this
                have hopt : (rv.toList).map (a_cv B ad) = (rv.map (a_cv B ad)).toList := by cases rv <;> rfl
                rw [hopt] at this
                exact this
              · cases hg
        · split at hg
          · rename_i g i' L' st' h' hs
            obtain ⟨rfl, hg⟩ := a_bif hg
            have hok := hok.resolve_left (by simp [a_dead, a_s1_ct hs])
            rw [a_s1_ct hs] at hok
            simp only [Bool.and_eq_true, beq_iff_eq] at hok
            refine a_s1_ok hx hb hdg2 hok.1 hlo hs (fun ls' e1 e2 e3 hlo' => ?_)
            subst e1; subst e2
            have := ih d k (i + 1) L' st' h' r hf hg y bs ml rt rows hP p e R s m args below meth c H locs ls' nb zb hx hb hml (e3.trans hLl) hown hts hw hr hlk hnm hlo' hh hS hfr hloc hnb hzb hRc hRs
            rw [hok.2, ← hpc] at this
            exact this
          · split at hg
            · rename_i g i' L' st' h' hs
              obtain ⟨rfl, hg⟩ := a_bif hg
              have hok := hok.resolve_left (by simp [a_dead, a_s2_ct hs])
              rw [a_s2_ct hs] at hok
              simp only at hok
              refine a_s2_ok hx hb hdg2 hok hs (fun e1 e2 => ?_)
              subst e1; subst e2
              exact ih d k i' L' st' h' r hf hg y bs ml rt rows hP p e R s m args below meth c H locs ls nb zb hx hb hml hLl hown hts hw hr hlk hnm hlo hh hS hfr hloc hnb hzb hRc hRs
            · split at hg
              · rename_i g i' L' st' h' hs
                obtain ⟨rfl, hg⟩ := a_bif hg
                have hct := a_s3_ct hs
                have hok := hok.resolve_left (by simp [a_dead, hct.1])
                rw [hct.1] at hok
                simp only [hct.2, cond_false, Bool.and_eq_true, beq_iff_eq] at hok
                have hgr1 := a_s3_gr hs
                have hgr2 := a_go_gr P df tx sv sc _ _ _ _ _ _ _ _ _ hg
                have hfit : h.length - nb + (h'.length - h.length) ≤ R.cells ∧ a_hz h - zb + (a_hz h' - a_hz h) ≤ R.slots := by
                  have := hgr1.1; have := hgr1.2; have := hgr2.1; have := hgr2.2
                  exact ⟨by omega, by omega⟩
                refine a_s3_ok hx hb hcl hts hown hw.1 hw.2.1.1 hw.2.1.2 hw.2.2.1 hw.2.2.2.1.1 hw.2.2.2.1.2 (fun q => by rw [hnm]; simpa using q) hdg2 hok.1 hh hS hs hfit (fun H' locs' e1 e2 _ _ hh' hS' => ?_)
                subst e1; subst e2
                have := ih d k (i + 1) L' st' h' r hf hg y bs ml rt rows hP p e R s m args below meth c H' locs' ls nb zb hx hb hml hLl hown hts hw hr hlk hnm hlo hh' hS' hfr hloc (Nat.le_trans hnb hgr1.1) (Nat.le_trans hzb hgr1.2) hRc hRs
                rw [show h'.length - nb = h.length - nb + (h'.length - h.length) by have := hgr1.1; omega, show a_hz h' - zb = a_hz h - zb + (a_hz h' - a_hz h) by have := hgr1.2; omega, hok.2, ← hpc] at this
                exact this
              · split at hg
                · rename_i g i' L' st' h' hs
                  obtain ⟨rfl, hg⟩ := a_bif hg
                  have hct := a_s4_ct hs
                  have hok := hok.resolve_left (by simp [a_dead, hct.1, hct.2.2])
                  rw [hct.1] at hok
                  simp only [hct.2.1, cond_false, Bool.and_eq_true, beq_iff_eq] at hok
                  have hgr2 := hgr
                  refine a_s4_ok hx hb (hml.trans hsz.symm) hts hown hw.1 hdg2 hok.1 hh hS (by omega) (by omega) (by have := hgr.1; omega) (by have := hgr.2; omega) hs (fun H' locs' e1 e2 e3 e4 hh' hS' => ?_)
                  subst e1; subst e2
                  have := ih d k (i + 1) L' st' h' r hf hg y bs ml rt rows hP p e R s m args below meth c H' locs' ls nb zb hx hb hml hLl hown hts hw hr hlk hnm hlo hh' hS' hfr hloc (by omega) (by omega) hRc hRs
                  rw [e3, e4, hok.2, ← hpc] at this
                  exact this
                · split at hg
                  · rename_i g i' L' st' h' hs
                    obtain ⟨rfl, hg⟩ := a_bif hg
                    have hk5 : a_k5 y.cls TB sv ins len aux = true ∧ a_pf rows (i + 1) = pc + len := by
                      have hok := hok.resolve_left (by rcases a_s5_ct hs with hct | ⟨hct, -⟩ <;> simp [a_dead, hct])
                      rcases a_s5_ct hs with hct | ⟨hct, h9 | h9 | h9⟩
                      · rw [hct] at hok
                        simpa only [Bool.and_eq_true, beq_iff_eq] using hok
                      · rw [hct] at hok
                        simpa only [h9, cond_true, Bool.and_eq_true, beq_iff_eq] using hok
                      · subst h9
                        simpa [a_ct, a_is9, a_k3, a_k5] using hok
                      · subst h9
                        simpa [a_ct, a_is9, a_k3, a_k5] using hok
                    refine a_s5_ok hx hb hts hown hw.2.2.2.2.1 hw.2.2.2.2.2.1 hdg2 hk5.1 hS hs (fun e1 e2 e3 => ?_)
                    subst e1; subst e2; subst e3
                    have := ih d k (i + 1) L' st' h' r hf hg y bs ml rt rows hP p e R s m args below meth c H locs ls nb zb hx hb hml hLl hown hts hw hr hlk hnm hlo hh hS hfr hloc hnb hzb hRc hRs
                    rw [hk5.2, ← hpc] at this
                    exact this
                  · cases hg
end AM
end
section
/-! 12.names: the tables' words (PART A of the skeleton), names of classes and their fields (printed by program out of NAMES.whole) -/
-- ===== PART A: goes FIRST, ahead of the names: the tables' words, and 'selects' of the private methods out of them =====
/-- a private method of a class that the tables say can be made, by its rows of tables_1 -/
def lw_okq (q : MethodName × Nat) : Prop := (q.1.cls ≠ "java/lang/invoke/MethodHandle" ∧ q.1.cls ≠ "java/lang/invoke/VarHandle") ∧ Cond.instantiable q.1.cls q.2 ∈ tables_1 ∧ Cond.privateMethod q.1 ∈ tables_1 ∧ Cond.instanceMethod q.1 ∈ tables_1
theorem lw_p0 : lw_okq (⟨"SoldWeather$Reader", "step", "()V"⟩, 11) := ⟨⟨by decide +kernel, by decide +kernel⟩, List.mem_of_getElem? (i := 114) (by decide +kernel), List.mem_of_getElem? (i := 240) (by decide +kernel), List.mem_of_getElem? (i := 241) (by decide +kernel)⟩
theorem lw_p1 : lw_okq (⟨"SoldWeather$Reader", "clause", "()Z"⟩, 11) := ⟨⟨by decide +kernel, by decide +kernel⟩, List.mem_of_getElem? (i := 114) (by decide +kernel), List.mem_of_getElem? (i := 244) (by decide +kernel), List.mem_of_getElem? (i := 245) (by decide +kernel)⟩
theorem lw_p2 : lw_okq (⟨"SoldWeather$Reader", "word", "(Ljava/lang/String;)Z"⟩, 11) := ⟨⟨by decide +kernel, by decide +kernel⟩, List.mem_of_getElem? (i := 114) (by decide +kernel), List.mem_of_getElem? (i := 255) (by decide +kernel), List.mem_of_getElem? (i := 256) (by decide +kernel)⟩
theorem lw_p3 : lw_okq (⟨"SoldWeather$Reader", "ruleNumber", "()I"⟩, 11) := ⟨⟨by decide +kernel, by decide +kernel⟩, List.mem_of_getElem? (i := 114) (by decide +kernel), List.mem_of_getElem? (i := 307) (by decide +kernel), List.mem_of_getElem? (i := 308) (by decide +kernel)⟩
theorem lw_p4 : lw_okq (⟨"SoldWeather$Reader", "number", "()I"⟩, 11) := ⟨⟨by decide +kernel, by decide +kernel⟩, List.mem_of_getElem? (i := 114) (by decide +kernel), List.mem_of_getElem? (i := 311) (by decide +kernel), List.mem_of_getElem? (i := 312) (by decide +kernel)⟩
theorem lw_p5 : lw_okq (⟨"SoldWeather$Reader", "expression", "(I)Z"⟩, 11) := ⟨⟨by decide +kernel, by decide +kernel⟩, List.mem_of_getElem? (i := 114) (by decide +kernel), List.mem_of_getElem? (i := 316) (by decide +kernel), List.mem_of_getElem? (i := 317) (by decide +kernel)⟩
theorem lw_p6 : lw_okq (⟨"SoldWeather$Reader", "factor", "(I)Z"⟩, 11) := ⟨⟨by decide +kernel, by decide +kernel⟩, List.mem_of_getElem? (i := 114) (by decide +kernel), List.mem_of_getElem? (i := 320) (by decide +kernel), List.mem_of_getElem? (i := 321) (by decide +kernel)⟩
theorem lw_p7 : lw_okq (⟨"SoldWeather$Reader", "test", "()Z"⟩, 11) := ⟨⟨by decide +kernel, by decide +kernel⟩, List.mem_of_getElem? (i := 114) (by decide +kernel), List.mem_of_getElem? (i := 324) (by decide +kernel), List.mem_of_getElem? (i := 325) (by decide +kernel)⟩
theorem lw_p8 : lw_okq (⟨"SoldWeather$Reader", "put", "(I)Z"⟩, 11) := ⟨⟨by decide +kernel, by decide +kernel⟩, List.mem_of_getElem? (i := 114) (by decide +kernel), List.mem_of_getElem? (i := 331) (by decide +kernel), List.mem_of_getElem? (i := 332) (by decide +kernel)⟩
theorem lw_p9 : lw_okq (⟨"SoldWeather$Reader", "keepClause", "(I)Z"⟩, 11) := ⟨⟨by decide +kernel, by decide +kernel⟩, List.mem_of_getElem? (i := 114) (by decide +kernel), List.mem_of_getElem? (i := 336) (by decide +kernel), List.mem_of_getElem? (i := 337) (by decide +kernel)⟩
theorem lw_p10 : lw_okq (⟨"SoldWeather$Valley", "holds", "(II[I)Z"⟩, 5) := ⟨⟨by decide +kernel, by decide +kernel⟩, List.mem_of_getElem? (i := 344) (by decide +kernel), List.mem_of_getElem? (i := 550) (by decide +kernel), List.mem_of_getElem? (i := 551) (by decide +kernel)⟩
theorem lw_p11 : lw_okq (⟨"SoldWeather$Course", "putBid", "(III)V"⟩, 10) := ⟨⟨by decide +kernel, by decide +kernel⟩, List.mem_of_getElem? (i := 154) (by decide +kernel), List.mem_of_getElem? (i := 591) (by decide +kernel), List.mem_of_getElem? (i := 592) (by decide +kernel)⟩
theorem lw_p12 : lw_okq (⟨"SoldWeather$Course", "settle", "()V"⟩, 10) := ⟨⟨by decide +kernel, by decide +kernel⟩, List.mem_of_getElem? (i := 154) (by decide +kernel), List.mem_of_getElem? (i := 615) (by decide +kernel), List.mem_of_getElem? (i := 616) (by decide +kernel)⟩
theorem lw_p13 : lw_okq (⟨"SoldWeather$Course", "rebate", "()I"⟩, 10) := ⟨⟨by decide +kernel, by decide +kernel⟩, List.mem_of_getElem? (i := 154) (by decide +kernel), List.mem_of_getElem? (i := 639) (by decide +kernel), List.mem_of_getElem? (i := 640) (by decide +kernel)⟩
theorem lw_p14 : lw_okq (⟨"SoldWeather", "planDay", "(II)V"⟩, 8) := ⟨⟨by decide +kernel, by decide +kernel⟩, List.mem_of_getElem? (i := 21) (by decide +kernel), List.mem_of_getElem? (i := 678) (by decide +kernel), List.mem_of_getElem? (i := 679) (by decide +kernel)⟩
theorem lw_p15 : lw_okq (⟨"SoldWeather", "tallyWorth", "()I"⟩, 8) := ⟨⟨by decide +kernel, by decide +kernel⟩, List.mem_of_getElem? (i := 21) (by decide +kernel), List.mem_of_getElem? (i := 726) (by decide +kernel), List.mem_of_getElem? (i := 727) (by decide +kernel)⟩
def lw_privs_1 : List (MethodName × Nat) := [(⟨"SoldWeather$Reader", "step", "()V"⟩, 11), (⟨"SoldWeather$Reader", "clause", "()Z"⟩, 11), (⟨"SoldWeather$Reader", "word", "(Ljava/lang/String;)Z"⟩, 11), (⟨"SoldWeather$Reader", "ruleNumber", "()I"⟩, 11), (⟨"SoldWeather$Reader", "number", "()I"⟩, 11), (⟨"SoldWeather$Reader", "expression", "(I)Z"⟩, 11), (⟨"SoldWeather$Reader", "factor", "(I)Z"⟩, 11), (⟨"SoldWeather$Reader", "test", "()Z"⟩, 11), (⟨"SoldWeather$Reader", "put", "(I)Z"⟩, 11), (⟨"SoldWeather$Reader", "keepClause", "(I)Z"⟩, 11), (⟨"SoldWeather$Valley", "holds", "(II[I)Z"⟩, 5), (⟨"SoldWeather$Course", "putBid", "(III)V"⟩, 10), (⟨"SoldWeather$Course", "settle", "()V"⟩, 10), (⟨"SoldWeather$Course", "rebate", "()I"⟩, 10), (⟨"SoldWeather", "planDay", "(II)V"⟩, 8), (⟨"SoldWeather", "tallyWorth", "()I"⟩, 8)]
theorem lw_r1 : ∀ q ∈ lw_privs_1, lw_okq q := List.forall_mem_cons.mpr ⟨lw_p0, List.forall_mem_cons.mpr ⟨lw_p1, List.forall_mem_cons.mpr ⟨lw_p2, List.forall_mem_cons.mpr ⟨lw_p3, List.forall_mem_cons.mpr ⟨lw_p4, List.forall_mem_cons.mpr ⟨lw_p5, List.forall_mem_cons.mpr ⟨lw_p6, List.forall_mem_cons.mpr ⟨lw_p7, List.forall_mem_cons.mpr ⟨lw_p8, List.forall_mem_cons.mpr ⟨lw_p9, List.forall_mem_cons.mpr ⟨lw_p10, List.forall_mem_cons.mpr ⟨lw_p11, List.forall_mem_cons.mpr ⟨lw_p12, List.forall_mem_cons.mpr ⟨lw_p13, List.forall_mem_cons.mpr ⟨lw_p14, List.forall_mem_cons.mpr ⟨lw_p15, fun _ h => absurd h List.not_mem_nil⟩⟩⟩⟩⟩⟩⟩⟩⟩⟩⟩⟩⟩⟩⟩⟩
theorem lw_p16 : lw_okq (⟨"SoldWeather", "tallySpan", "()I"⟩, 8) := ⟨⟨by decide +kernel, by decide +kernel⟩, List.mem_of_getElem? (i := 21) (by decide +kernel), List.mem_of_getElem? (i := 730) (by decide +kernel), List.mem_of_getElem? (i := 731) (by decide +kernel)⟩
theorem lw_p17 : lw_okq (⟨"SoldWeatherModel", "clauseHere", "()V"⟩, 25) := ⟨⟨by decide +kernel, by decide +kernel⟩, List.mem_of_getElem? (i := 857) (by decide +kernel), List.mem_of_getElem? (i := 950) (by decide +kernel), List.mem_of_getElem? (i := 951) (by decide +kernel)⟩
theorem lw_p18 : lw_okq (⟨"SoldWeatherModel", "here", "()I"⟩, 25) := ⟨⟨by decide +kernel, by decide +kernel⟩, List.mem_of_getElem? (i := 857) (by decide +kernel), List.mem_of_getElem? (i := 954) (by decide +kernel), List.mem_of_getElem? (i := 955) (by decide +kernel)⟩
theorem lw_p19 : lw_okq (⟨"SoldWeatherModel", "much", "(ILjava/lang/String;)V"⟩, 25) := ⟨⟨by decide +kernel, by decide +kernel⟩, List.mem_of_getElem? (i := 857) (by decide +kernel), List.mem_of_getElem? (i := 959) (by decide +kernel), List.mem_of_getElem? (i := 960) (by decide +kernel)⟩
theorem lw_p20 : lw_okq (⟨"SoldWeatherModel", "spells", "(Ljava/lang/String;)V"⟩, 25) := ⟨⟨by decide +kernel, by decide +kernel⟩, List.mem_of_getElem? (i := 857) (by decide +kernel), List.mem_of_getElem? (i := 963) (by decide +kernel), List.mem_of_getElem? (i := 964) (by decide +kernel)⟩
theorem lw_p21 : lw_okq (⟨"SoldWeatherModel", "must", "(I)V"⟩, 25) := ⟨⟨by decide +kernel, by decide +kernel⟩, List.mem_of_getElem? (i := 857) (by decide +kernel), List.mem_of_getElem? (i := 969) (by decide +kernel), List.mem_of_getElem? (i := 970) (by decide +kernel)⟩
theorem lw_p22 : lw_okq (⟨"SoldWeatherModel", "figures", "()I"⟩, 25) := ⟨⟨by decide +kernel, by decide +kernel⟩, List.mem_of_getElem? (i := 857) (by decide +kernel), List.mem_of_getElem? (i := 973) (by decide +kernel), List.mem_of_getElem? (i := 974) (by decide +kernel)⟩
theorem lw_p23 : lw_okq (⟨"SoldWeatherModel", "some", "()V"⟩, 25) := ⟨⟨by decide +kernel, by decide +kernel⟩, List.mem_of_getElem? (i := 857) (by decide +kernel), List.mem_of_getElem? (i := 977) (by decide +kernel), List.mem_of_getElem? (i := 978) (by decide +kernel)⟩
theorem lw_p24 : lw_okq (⟨"SoldWeatherModel", "every", "()V"⟩, 25) := ⟨⟨by decide +kernel, by decide +kernel⟩, List.mem_of_getElem? (i := 857) (by decide +kernel), List.mem_of_getElem? (i := 981) (by decide +kernel), List.mem_of_getElem? (i := 982) (by decide +kernel)⟩
theorem lw_p25 : lw_okq (⟨"SoldWeatherModel", "factor", "()V"⟩, 25) := ⟨⟨by decide +kernel, by decide +kernel⟩, List.mem_of_getElem? (i := 857) (by decide +kernel), List.mem_of_getElem? (i := 985) (by decide +kernel), List.mem_of_getElem? (i := 986) (by decide +kernel)⟩
theorem lw_p26 : lw_okq (⟨"SoldWeatherModel", "emits", "(I)V"⟩, 25) := ⟨⟨by decide +kernel, by decide +kernel⟩, List.mem_of_getElem? (i := 857) (by decide +kernel), List.mem_of_getElem? (i := 989) (by decide +kernel), List.mem_of_getElem? (i := 990) (by decide +kernel)⟩
theorem lw_p27 : lw_okq (⟨"SoldWeatherModel", "among", "(Ljava/lang/String;)I"⟩, 25) := ⟨⟨by decide +kernel, by decide +kernel⟩, List.mem_of_getElem? (i := 857) (by decide +kernel), List.mem_of_getElem? (i := 994) (by decide +kernel), List.mem_of_getElem? (i := 995) (by decide +kernel)⟩
theorem lw_p28 : lw_okq (⟨"SoldWeatherModel", "ruleHere", "()V"⟩, 25) := ⟨⟨by decide +kernel, by decide +kernel⟩, List.mem_of_getElem? (i := 857) (by decide +kernel), List.mem_of_getElem? (i := 1000) (by decide +kernel), List.mem_of_getElem? (i := 1001) (by decide +kernel)⟩
theorem lw_p29 : lw_okq (⟨"SoldWeatherModel", "giftHere", "()V"⟩, 25) := ⟨⟨by decide +kernel, by decide +kernel⟩, List.mem_of_getElem? (i := 857) (by decide +kernel), List.mem_of_getElem? (i := 1005) (by decide +kernel), List.mem_of_getElem? (i := 1006) (by decide +kernel)⟩
theorem lw_p30 : lw_okq (⟨"SoldWeatherModel", "tellsOf", "(I)I"⟩, 25) := ⟨⟨by decide +kernel, by decide +kernel⟩, List.mem_of_getElem? (i := 857) (by decide +kernel), List.mem_of_getElem? (i := 1014) (by decide +kernel), List.mem_of_getElem? (i := 1015) (by decide +kernel)⟩
theorem lw_p31 : lw_okq (⟨"SoldWeatherModel", "fortuneNext", "()I"⟩, 25) := ⟨⟨by decide +kernel, by decide +kernel⟩, List.mem_of_getElem? (i := 857) (by decide +kernel), List.mem_of_getElem? (i := 1018) (by decide +kernel), List.mem_of_getElem? (i := 1019) (by decide +kernel)⟩
def lw_privs_2 : List (MethodName × Nat) := [(⟨"SoldWeather", "tallySpan", "()I"⟩, 8), (⟨"SoldWeatherModel", "clauseHere", "()V"⟩, 25), (⟨"SoldWeatherModel", "here", "()I"⟩, 25), (⟨"SoldWeatherModel", "much", "(ILjava/lang/String;)V"⟩, 25), (⟨"SoldWeatherModel", "spells", "(Ljava/lang/String;)V"⟩, 25), (⟨"SoldWeatherModel", "must", "(I)V"⟩, 25), (⟨"SoldWeatherModel", "figures", "()I"⟩, 25), (⟨"SoldWeatherModel", "some", "()V"⟩, 25), (⟨"SoldWeatherModel", "every", "()V"⟩, 25), (⟨"SoldWeatherModel", "factor", "()V"⟩, 25), (⟨"SoldWeatherModel", "emits", "(I)V"⟩, 25), (⟨"SoldWeatherModel", "among", "(Ljava/lang/String;)I"⟩, 25), (⟨"SoldWeatherModel", "ruleHere", "()V"⟩, 25), (⟨"SoldWeatherModel", "giftHere", "()V"⟩, 25), (⟨"SoldWeatherModel", "tellsOf", "(I)I"⟩, 25), (⟨"SoldWeatherModel", "fortuneNext", "()I"⟩, 25)]
theorem lw_r2 : ∀ q ∈ lw_privs_2, lw_okq q := List.forall_mem_cons.mpr ⟨lw_p16, List.forall_mem_cons.mpr ⟨lw_p17, List.forall_mem_cons.mpr ⟨lw_p18, List.forall_mem_cons.mpr ⟨lw_p19, List.forall_mem_cons.mpr ⟨lw_p20, List.forall_mem_cons.mpr ⟨lw_p21, List.forall_mem_cons.mpr ⟨lw_p22, List.forall_mem_cons.mpr ⟨lw_p23, List.forall_mem_cons.mpr ⟨lw_p24, List.forall_mem_cons.mpr ⟨lw_p25, List.forall_mem_cons.mpr ⟨lw_p26, List.forall_mem_cons.mpr ⟨lw_p27, List.forall_mem_cons.mpr ⟨lw_p28, List.forall_mem_cons.mpr ⟨lw_p29, List.forall_mem_cons.mpr ⟨lw_p30, List.forall_mem_cons.mpr ⟨lw_p31, fun _ h => absurd h List.not_mem_nil⟩⟩⟩⟩⟩⟩⟩⟩⟩⟩⟩⟩⟩⟩⟩⟩
theorem lw_p32 : lw_okq (⟨"SoldWeatherModel", "isPerson", "(I)Z"⟩, 25) := ⟨⟨by decide +kernel, by decide +kernel⟩, List.mem_of_getElem? (i := 857) (by decide +kernel), List.mem_of_getElem? (i := 1037) (by decide +kernel), List.mem_of_getElem? (i := 1038) (by decide +kernel)⟩
theorem lw_p33 : lw_okq (⟨"SoldWeatherModel", "bidOf", "(II)I"⟩, 25) := ⟨⟨by decide +kernel, by decide +kernel⟩, List.mem_of_getElem? (i := 857) (by decide +kernel), List.mem_of_getElem? (i := 1045) (by decide +kernel), List.mem_of_getElem? (i := 1046) (by decide +kernel)⟩
theorem lw_p34 : lw_okq (⟨"SoldWeatherModel", "worthNow", "(II)I"⟩, 25) := ⟨⟨by decide +kernel, by decide +kernel⟩, List.mem_of_getElem? (i := 857) (by decide +kernel), List.mem_of_getElem? (i := 1049) (by decide +kernel), List.mem_of_getElem? (i := 1050) (by decide +kernel)⟩
theorem lw_p35 : lw_okq (⟨"SoldWeatherModel", "worthOf", "(IIII)I"⟩, 25) := ⟨⟨by decide +kernel, by decide +kernel⟩, List.mem_of_getElem? (i := 857) (by decide +kernel), List.mem_of_getElem? (i := 1053) (by decide +kernel), List.mem_of_getElem? (i := 1054) (by decide +kernel)⟩
theorem lw_p36 : lw_okq (⟨"SoldWeatherModel", "kept", "(II)I"⟩, 25) := ⟨⟨by decide +kernel, by decide +kernel⟩, List.mem_of_getElem? (i := 857) (by decide +kernel), List.mem_of_getElem? (i := 1057) (by decide +kernel), List.mem_of_getElem? (i := 1058) (by decide +kernel)⟩
theorem lw_p37 : lw_okq (⟨"SoldWeatherModel", "league", "(II)I"⟩, 25) := ⟨⟨by decide +kernel, by decide +kernel⟩, List.mem_of_getElem? (i := 857) (by decide +kernel), List.mem_of_getElem? (i := 1061) (by decide +kernel), List.mem_of_getElem? (i := 1062) (by decide +kernel)⟩
theorem lw_p38 : lw_okq (⟨"SoldWeatherModel", "ahead", "(II)I"⟩, 25) := ⟨⟨by decide +kernel, by decide +kernel⟩, List.mem_of_getElem? (i := 857) (by decide +kernel), List.mem_of_getElem? (i := 1065) (by decide +kernel), List.mem_of_getElem? (i := 1066) (by decide +kernel)⟩
theorem lw_p39 : lw_okq (⟨"SoldWeatherModel", "sharing", "(II)I"⟩, 25) := ⟨⟨by decide +kernel, by decide +kernel⟩, List.mem_of_getElem? (i := 857) (by decide +kernel), List.mem_of_getElem? (i := 1069) (by decide +kernel), List.mem_of_getElem? (i := 1070) (by decide +kernel)⟩
theorem lw_p40 : lw_okq (⟨"SoldWeatherModel", "evening", "()V"⟩, 25) := ⟨⟨by decide +kernel, by decide +kernel⟩, List.mem_of_getElem? (i := 857) (by decide +kernel), List.mem_of_getElem? (i := 1077) (by decide +kernel), List.mem_of_getElem? (i := 1078) (by decide +kernel)⟩
theorem lw_p41 : lw_okq (⟨"SoldWeatherModel", "takesBids", "()V"⟩, 25) := ⟨⟨by decide +kernel, by decide +kernel⟩, List.mem_of_getElem? (i := 857) (by decide +kernel), List.mem_of_getElem? (i := 1081) (by decide +kernel), List.mem_of_getElem? (i := 1082) (by decide +kernel)⟩
theorem lw_p42 : lw_okq (⟨"SoldWeatherModel", "sells", "()V"⟩, 25) := ⟨⟨by decide +kernel, by decide +kernel⟩, List.mem_of_getElem? (i := 857) (by decide +kernel), List.mem_of_getElem? (i := 1085) (by decide +kernel), List.mem_of_getElem? (i := 1086) (by decide +kernel)⟩
theorem lw_p43 : lw_okq (⟨"SoldWeatherModel", "worthToAll", "(III)I"⟩, 25) := ⟨⟨by decide +kernel, by decide +kernel⟩, List.mem_of_getElem? (i := 857) (by decide +kernel), List.mem_of_getElem? (i := 1089) (by decide +kernel), List.mem_of_getElem? (i := 1090) (by decide +kernel)⟩
theorem lw_p44 : lw_okq (⟨"SoldWeatherModel", "paysOf", "(I)I"⟩, 25) := ⟨⟨by decide +kernel, by decide +kernel⟩, List.mem_of_getElem? (i := 857) (by decide +kernel), List.mem_of_getElem? (i := 1093) (by decide +kernel), List.mem_of_getElem? (i := 1094) (by decide +kernel)⟩
theorem lw_p45 : lw_okq (⟨"SoldWeatherModel", "harmOf", "(I)I"⟩, 25) := ⟨⟨by decide +kernel, by decide +kernel⟩, List.mem_of_getElem? (i := 857) (by decide +kernel), List.mem_of_getElem? (i := 1097) (by decide +kernel), List.mem_of_getElem? (i := 1098) (by decide +kernel)⟩
theorem lw_p46 : lw_okq (⟨"SoldWeatherModel", "keeps", "()V"⟩, 25) := ⟨⟨by decide +kernel, by decide +kernel⟩, List.mem_of_getElem? (i := 857) (by decide +kernel), List.mem_of_getElem? (i := 1109) (by decide +kernel), List.mem_of_getElem? (i := 1110) (by decide +kernel)⟩
theorem lw_p47 : lw_okq (⟨"SoldWeatherModel", "goesBack", "()V"⟩, 25) := ⟨⟨by decide +kernel, by decide +kernel⟩, List.mem_of_getElem? (i := 857) (by decide +kernel), List.mem_of_getElem? (i := 1113) (by decide +kernel), List.mem_of_getElem? (i := 1114) (by decide +kernel)⟩
def lw_privs_3 : List (MethodName × Nat) := [(⟨"SoldWeatherModel", "isPerson", "(I)Z"⟩, 25), (⟨"SoldWeatherModel", "bidOf", "(II)I"⟩, 25), (⟨"SoldWeatherModel", "worthNow", "(II)I"⟩, 25), (⟨"SoldWeatherModel", "worthOf", "(IIII)I"⟩, 25), (⟨"SoldWeatherModel", "kept", "(II)I"⟩, 25), (⟨"SoldWeatherModel", "league", "(II)I"⟩, 25), (⟨"SoldWeatherModel", "ahead", "(II)I"⟩, 25), (⟨"SoldWeatherModel", "sharing", "(II)I"⟩, 25), (⟨"SoldWeatherModel", "evening", "()V"⟩, 25), (⟨"SoldWeatherModel", "takesBids", "()V"⟩, 25), (⟨"SoldWeatherModel", "sells", "()V"⟩, 25), (⟨"SoldWeatherModel", "worthToAll", "(III)I"⟩, 25), (⟨"SoldWeatherModel", "paysOf", "(I)I"⟩, 25), (⟨"SoldWeatherModel", "harmOf", "(I)I"⟩, 25), (⟨"SoldWeatherModel", "keeps", "()V"⟩, 25), (⟨"SoldWeatherModel", "goesBack", "()V"⟩, 25)]
theorem lw_r3 : ∀ q ∈ lw_privs_3, lw_okq q := List.forall_mem_cons.mpr ⟨lw_p32, List.forall_mem_cons.mpr ⟨lw_p33, List.forall_mem_cons.mpr ⟨lw_p34, List.forall_mem_cons.mpr ⟨lw_p35, List.forall_mem_cons.mpr ⟨lw_p36, List.forall_mem_cons.mpr ⟨lw_p37, List.forall_mem_cons.mpr ⟨lw_p38, List.forall_mem_cons.mpr ⟨lw_p39, List.forall_mem_cons.mpr ⟨lw_p40, List.forall_mem_cons.mpr ⟨lw_p41, List.forall_mem_cons.mpr ⟨lw_p42, List.forall_mem_cons.mpr ⟨lw_p43, List.forall_mem_cons.mpr ⟨lw_p44, List.forall_mem_cons.mpr ⟨lw_p45, List.forall_mem_cons.mpr ⟨lw_p46, List.forall_mem_cons.mpr ⟨lw_p47, fun _ h => absurd h List.not_mem_nil⟩⟩⟩⟩⟩⟩⟩⟩⟩⟩⟩⟩⟩⟩⟩⟩
theorem lw_p48 : lw_okq (⟨"SoldWeatherModel", "withNext", "(III)I"⟩, 25) := ⟨⟨by decide +kernel, by decide +kernel⟩, List.mem_of_getElem? (i := 857) (by decide +kernel), List.mem_of_getElem? (i := 1121) (by decide +kernel), List.mem_of_getElem? (i := 1122) (by decide +kernel)⟩
theorem lw_p49 : lw_okq (⟨"SoldWeatherModel", "gainOf", "(I)I"⟩, 25) := ⟨⟨by decide +kernel, by decide +kernel⟩, List.mem_of_getElem? (i := 857) (by decide +kernel), List.mem_of_getElem? (i := 1129) (by decide +kernel), List.mem_of_getElem? (i := 1130) (by decide +kernel)⟩
theorem lw_p50 : lw_okq (⟨"SoldWeatherModel", "bidsActs", "(I)I"⟩, 25) := ⟨⟨by decide +kernel, by decide +kernel⟩, List.mem_of_getElem? (i := 857) (by decide +kernel), List.mem_of_getElem? (i := 1170) (by decide +kernel), List.mem_of_getElem? (i := 1171) (by decide +kernel)⟩
theorem lw_p51 : lw_okq (⟨"SoldWeatherModel", "ranBody", "(I)V"⟩, 25) := ⟨⟨by decide +kernel, by decide +kernel⟩, List.mem_of_getElem? (i := 857) (by decide +kernel), List.mem_of_getElem? (i := 1177) (by decide +kernel), List.mem_of_getElem? (i := 1178) (by decide +kernel)⟩
theorem lw_p52 : lw_okq (⟨"SoldWeatherModel", "plainBids", "(I)I"⟩, 25) := ⟨⟨by decide +kernel, by decide +kernel⟩, List.mem_of_getElem? (i := 857) (by decide +kernel), List.mem_of_getElem? (i := 1181) (by decide +kernel), List.mem_of_getElem? (i := 1182) (by decide +kernel)⟩
theorem lw_p53 : lw_okq (⟨"SoldWeatherModel", "paysActs", "(I)I"⟩, 25) := ⟨⟨by decide +kernel, by decide +kernel⟩, List.mem_of_getElem? (i := 857) (by decide +kernel), List.mem_of_getElem? (i := 1185) (by decide +kernel), List.mem_of_getElem? (i := 1186) (by decide +kernel)⟩
theorem lw_p54 : lw_okq (⟨"SoldWeatherModel", "leaguePays", "(I)I"⟩, 25) := ⟨⟨by decide +kernel, by decide +kernel⟩, List.mem_of_getElem? (i := 857) (by decide +kernel), List.mem_of_getElem? (i := 1189) (by decide +kernel), List.mem_of_getElem? (i := 1190) (by decide +kernel)⟩
theorem lw_p55 : lw_okq (⟨"SoldWeatherModel", "plainPays", "(I)I"⟩, 25) := ⟨⟨by decide +kernel, by decide +kernel⟩, List.mem_of_getElem? (i := 857) (by decide +kernel), List.mem_of_getElem? (i := 1193) (by decide +kernel), List.mem_of_getElem? (i := 1194) (by decide +kernel)⟩
theorem lw_p56 : lw_okq (⟨"SoldWeatherModel", "tellsActs", "(I)I"⟩, 25) := ⟨⟨by decide +kernel, by decide +kernel⟩, List.mem_of_getElem? (i := 857) (by decide +kernel), List.mem_of_getElem? (i := 1197) (by decide +kernel), List.mem_of_getElem? (i := 1198) (by decide +kernel)⟩
theorem lw_p57 : lw_okq (⟨"SoldWeatherModel", "plainTells", "(I)I"⟩, 25) := ⟨⟨by decide +kernel, by decide +kernel⟩, List.mem_of_getElem? (i := 857) (by decide +kernel), List.mem_of_getElem? (i := 1201) (by decide +kernel), List.mem_of_getElem? (i := 1202) (by decide +kernel)⟩
def lw_privs_4 : List (MethodName × Nat) := [(⟨"SoldWeatherModel", "withNext", "(III)I"⟩, 25), (⟨"SoldWeatherModel", "gainOf", "(I)I"⟩, 25), (⟨"SoldWeatherModel", "bidsActs", "(I)I"⟩, 25), (⟨"SoldWeatherModel", "ranBody", "(I)V"⟩, 25), (⟨"SoldWeatherModel", "plainBids", "(I)I"⟩, 25), (⟨"SoldWeatherModel", "paysActs", "(I)I"⟩, 25), (⟨"SoldWeatherModel", "leaguePays", "(I)I"⟩, 25), (⟨"SoldWeatherModel", "plainPays", "(I)I"⟩, 25), (⟨"SoldWeatherModel", "tellsActs", "(I)I"⟩, 25), (⟨"SoldWeatherModel", "plainTells", "(I)I"⟩, 25)]
theorem lw_r4 : ∀ q ∈ lw_privs_4, lw_okq q := List.forall_mem_cons.mpr ⟨lw_p48, List.forall_mem_cons.mpr ⟨lw_p49, List.forall_mem_cons.mpr ⟨lw_p50, List.forall_mem_cons.mpr ⟨lw_p51, List.forall_mem_cons.mpr ⟨lw_p52, List.forall_mem_cons.mpr ⟨lw_p53, List.forall_mem_cons.mpr ⟨lw_p54, List.forall_mem_cons.mpr ⟨lw_p55, List.forall_mem_cons.mpr ⟨lw_p56, List.forall_mem_cons.mpr ⟨lw_p57, fun _ h => absurd h List.not_mem_nil⟩⟩⟩⟩⟩⟩⟩⟩⟩⟩
def lw_privs : List (MethodName × Nat) := lw_privs_1 ++ (lw_privs_2 ++ (lw_privs_3 ++ (lw_privs_4)))
def lw_tbl : List Cond := k2_sels lw_privs ++ tables_1
theorem lw_privs_ok : ∀ q ∈ lw_privs, lw_okq q := by
  show ∀ q ∈ lw_privs_1 ++ (lw_privs_2 ++ (lw_privs_3 ++ (lw_privs_4))), lw_okq q
  exact List.forall_mem_append.mpr ⟨lw_r1, List.forall_mem_append.mpr ⟨lw_r2, List.forall_mem_append.mpr ⟨lw_r3, lw_r4⟩⟩⟩

def RX0 : String := "SoldWeather$Ahead"
def TX0 : u_T := fun k => match k with
  | 0 => ("SoldWeather$Bidder", "kind", "I", true)
  | 1 => ("SoldWeather$Bidder", "number", "I", true)
  | _ => ("SoldWeather$Bidder", "v", "I", true)
def tyX0 : Nat → FieldType := fun k => match k with
  | 0 => .int
  | 1 => .int
  | _ => .int
abbrev wsX00 : List Cond := u_ws RX0 TX0 3
theorem nmX0 : ∀ a, a < 3 → ∀ b, b < 3 → a ≠ b → (TX0 a).2.1 ≠ (TX0 b).2.1 := by decide +kernel
theorem tyX0_ok : ∀ k, k < 3 → parseFieldDescriptor (TX0 k).2.2.1 = some (tyX0 k) := by decide +kernel

def RX1 : String := "SoldWeather$Bidder"
def TX1 : u_T := fun k => match k with
  | 0 => ("SoldWeather$Bidder", "kind", "I", true)
  | 1 => ("SoldWeather$Bidder", "number", "I", true)
  | _ => ("SoldWeather$Bidder", "v", "I", true)
def tyX1 : Nat → FieldType := fun k => match k with
  | 0 => .int
  | 1 => .int
  | _ => .int
abbrev wsX10 : List Cond := u_ws RX1 TX1 3
theorem nmX1 : ∀ a, a < 3 → ∀ b, b < 3 → a ≠ b → (TX1 a).2.1 ≠ (TX1 b).2.1 := by decide +kernel
theorem tyX1_ok : ∀ k, k < 3 → parseFieldDescriptor (TX1 k).2.2.1 = some (tyX1 k) := by decide +kernel

def RX2 : String := "SoldWeather$Course"
def TX2 : u_T := fun k => match k with
  | 0 => ("SoldWeather$Course", "world", "LSoldWeather$World;", true)
  | 1 => ("SoldWeather$Course", "purses", "[I", true)
  | 2 => ("SoldWeather$Course", "bids", "[I", true)
  | 3 => ("SoldWeather$Course", "sums", "[I", true)
  | 4 => ("SoldWeather$Course", "given", "[I", true)
  | 5 => ("SoldWeather$Course", "anyBid", "Z", false)
  | 6 => ("SoldWeather$Course", "turn", "I", false)
  | 7 => ("SoldWeather$Course", "day", "I", false)
  | 8 => ("SoldWeather$Course", "ahead", "I", false)
  | _ => ("SoldWeather$Course", "sold", "I", false)
def tyX2 : Nat → FieldType := fun k => match k with
  | 0 => .object "SoldWeather$World"
  | 1 => .array .int
  | 2 => .array .int
  | 3 => .array .int
  | 4 => .array .int
  | 5 => .boolean
  | 6 => .int
  | 7 => .int
  | 8 => .int
  | _ => .int
abbrev wsX20 : List Cond := u_ws RX2 TX2 10
theorem nmX2 : ∀ a, a < 10 → ∀ b, b < 10 → a ≠ b → (TX2 a).2.1 ≠ (TX2 b).2.1 := by decide +kernel
theorem tyX2_ok : ∀ k, k < 10 → parseFieldDescriptor (TX2 k).2.2.1 = some (tyX2 k) := by decide +kernel

def RX3 : String := "SoldWeather$League"
def TX3 : u_T := fun k => match k with
  | 0 => ("SoldWeather$Bidder", "kind", "I", true)
  | 1 => ("SoldWeather$Bidder", "number", "I", true)
  | _ => ("SoldWeather$Bidder", "v", "I", true)
def tyX3 : Nat → FieldType := fun k => match k with
  | 0 => .int
  | 1 => .int
  | _ => .int
abbrev wsX30 : List Cond := u_ws RX3 TX3 3
theorem nmX3 : ∀ a, a < 3 → ∀ b, b < 3 → a ≠ b → (TX3 a).2.1 ≠ (TX3 b).2.1 := by decide +kernel
theorem tyX3_ok : ∀ k, k < 3 → parseFieldDescriptor (TX3 k).2.2.1 = some (tyX3 k) := by decide +kernel

def RX4 : String := "SoldWeather$Low"
def TX4 : u_T := fun k => match k with
  | 0 => ("SoldWeather$Bidder", "kind", "I", true)
  | 1 => ("SoldWeather$Bidder", "number", "I", true)
  | _ => ("SoldWeather$Bidder", "v", "I", true)
def tyX4 : Nat → FieldType := fun k => match k with
  | 0 => .int
  | 1 => .int
  | _ => .int
abbrev wsX40 : List Cond := u_ws RX4 TX4 3
theorem nmX4 : ∀ a, a < 3 → ∀ b, b < 3 → a ≠ b → (TX4 a).2.1 ≠ (TX4 b).2.1 := by decide +kernel
theorem tyX4_ok : ∀ k, k < 3 → parseFieldDescriptor (TX4 k).2.2.1 = some (tyX4 k) := by decide +kernel

def RX5 : String := "SoldWeather$Reader"
def TX5 : u_T := fun k => match k with
  | 0 => ("SoldWeather$Reader", "code", "[I", true)
  | 1 => ("SoldWeather$Reader", "ends", "[I", true)
  | 2 => ("SoldWeather$Reader", "amounts", "[I", true)
  | 3 => ("SoldWeather$Reader", "steps", "I", false)
  | 4 => ("SoldWeather$Reader", "valued", "I", false)
  | 5 => ("SoldWeather$Reader", "rule", "I", false)
  | 6 => ("SoldWeather$Reader", "gift", "I", false)
  | 7 => ("SoldWeather$Reader", "tape", "[I", true)
  | 8 => ("SoldWeather$Reader", "size", "I", false)
  | 9 => ("SoldWeather$Reader", "at", "I", false)
  | _ => ("SoldWeather$Reader", "next", "I", false)
def tyX5 : Nat → FieldType := fun k => match k with
  | 0 => .array .int
  | 1 => .array .int
  | 2 => .array .int
  | 3 => .int
  | 4 => .int
  | 5 => .int
  | 6 => .int
  | 7 => .array .int
  | 8 => .int
  | 9 => .int
  | _ => .int
abbrev wsX50 : List Cond := u_ws RX5 TX5 11
theorem nmX5 : ∀ a, a < 11 → ∀ b, b < 11 → a ≠ b → (TX5 a).2.1 ≠ (TX5 b).2.1 := by decide +kernel
theorem tyX5_ok : ∀ k, k < 11 → parseFieldDescriptor (TX5 k).2.2.1 = some (tyX5 k) := by decide +kernel

def RX6 : String := "SoldWeather$Saving"
def TX6 : u_T := fun k => match k with
  | 0 => ("SoldWeather$Bidder", "kind", "I", true)
  | 1 => ("SoldWeather$Bidder", "number", "I", true)
  | _ => ("SoldWeather$Bidder", "v", "I", true)
def tyX6 : Nat → FieldType := fun k => match k with
  | 0 => .int
  | 1 => .int
  | _ => .int
abbrev wsX60 : List Cond := u_ws RX6 TX6 3
theorem nmX6 : ∀ a, a < 3 → ∀ b, b < 3 → a ≠ b → (TX6 a).2.1 ≠ (TX6 b).2.1 := by decide +kernel
theorem tyX6_ok : ∀ k, k < 3 → parseFieldDescriptor (TX6 k).2.2.1 = some (tyX6 k) := by decide +kernel

def RX7 : String := "SoldWeather$Sharing"
def TX7 : u_T := fun k => match k with
  | 0 => ("SoldWeather$Bidder", "kind", "I", true)
  | 1 => ("SoldWeather$Bidder", "number", "I", true)
  | _ => ("SoldWeather$Bidder", "v", "I", true)
def tyX7 : Nat → FieldType := fun k => match k with
  | 0 => .int
  | 1 => .int
  | _ => .int
abbrev wsX70 : List Cond := u_ws RX7 TX7 3
theorem nmX7 : ∀ a, a < 3 → ∀ b, b < 3 → a ≠ b → (TX7 a).2.1 ≠ (TX7 b).2.1 := by decide +kernel
theorem tyX7_ok : ∀ k, k < 3 → parseFieldDescriptor (TX7 k).2.2.1 = some (tyX7 k) := by decide +kernel

def RX8 : String := "SoldWeather$Told"
def TX8 : u_T := fun k => match k with
  | 0 => ("SoldWeather$Bidder", "kind", "I", true)
  | 1 => ("SoldWeather$Bidder", "number", "I", true)
  | _ => ("SoldWeather$Bidder", "v", "I", true)
def tyX8 : Nat → FieldType := fun k => match k with
  | 0 => .int
  | 1 => .int
  | _ => .int
abbrev wsX80 : List Cond := u_ws RX8 TX8 3
theorem nmX8 : ∀ a, a < 3 → ∀ b, b < 3 → a ≠ b → (TX8 a).2.1 ≠ (TX8 b).2.1 := by decide +kernel
theorem tyX8_ok : ∀ k, k < 3 → parseFieldDescriptor (TX8 k).2.2.1 = some (tyX8 k) := by decide +kernel

def RX9 : String := "SoldWeather$Valley"
def TX9 : u_T := fun k => match k with
  | 0 => ("SoldWeather$Valley", "code", "[I", true)
  | 1 => ("SoldWeather$Valley", "ends", "[I", true)
  | 2 => ("SoldWeather$Valley", "amounts", "[I", true)
  | 3 => ("SoldWeather$Valley", "rule", "I", true)
  | _ => ("SoldWeather$Valley", "gift", "I", true)
def tyX9 : Nat → FieldType := fun k => match k with
  | 0 => .array .int
  | 1 => .array .int
  | 2 => .array .int
  | 3 => .int
  | _ => .int
abbrev wsX90 : List Cond := u_ws RX9 TX9 5
theorem nmX9 : ∀ a, a < 5 → ∀ b, b < 5 → a ≠ b → (TX9 a).2.1 ≠ (TX9 b).2.1 := by decide +kernel
theorem tyX9_ok : ∀ k, k < 5 → parseFieldDescriptor (TX9 k).2.2.1 = some (tyX9 k) := by decide +kernel

def RX10 : String := "SoldWeather$World"
def TX10 : u_T := fun k => match k with
  | 0 => ("SoldWeather$World", "tape", "[I", true)
  | 1 => ("SoldWeather$World", "signs", "I", false)
  | 2 => ("SoldWeather$World", "valleys", "I", false)
  | 3 => ("SoldWeather$World", "held", "LSoldWeather$Valley;", false)
  | 4 => ("SoldWeather$World", "day", "I", false)
  | 5 => ("SoldWeather$World", "ahead", "I", false)
  | 6 => ("SoldWeather$World", "fortune", "[I", true)
  | 7 => ("SoldWeather$World", "fortunes", "I", false)
  | 8 => ("SoldWeather$World", "turn", "I", false)
  | 9 => ("SoldWeather$World", "people", "[LSoldWeather$Bidder;", true)
  | 10 => ("SoldWeather$World", "purses", "[I", true)
  | 11 => ("SoldWeather$World", "rows", "[I", true)
  | 12 => ("SoldWeather$World", "size", "I", false)
  | 13 => ("SoldWeather$World", "beside", "[I", true)
  | 14 => ("SoldWeather$World", "besides", "I", false)
  | 15 => ("SoldWeather$World", "book", "[I", true)
  | _ => ("SoldWeather$World", "booked", "I", false)
def tyX10 : Nat → FieldType := fun k => match k with
  | 0 => .array .int
  | 1 => .int
  | 2 => .int
  | 3 => .object "SoldWeather$Valley"
  | 4 => .int
  | 5 => .int
  | 6 => .array .int
  | 7 => .int
  | 8 => .int
  | 9 => .array (.object "SoldWeather$Bidder")
  | 10 => .array .int
  | 11 => .array .int
  | 12 => .int
  | 13 => .array .int
  | 14 => .int
  | 15 => .array .int
  | _ => .int
abbrev wsX100 : List Cond := u_ws RX10 TX10 17
theorem nmX10 : ∀ a, a < 17 → ∀ b, b < 17 → a ≠ b → (TX10 a).2.1 ≠ (TX10 b).2.1 := by decide +kernel
theorem tyX10_ok : ∀ k, k < 17 → parseFieldDescriptor (TX10 k).2.2.1 = some (tyX10 k) := by decide +kernel

def RX11 : String := "SoldWeather"
def TX11 : u_T := fun k => match k with
  | 0 => ("SoldWeather", "now", "LSoldWeather$World;", true)
  | 1 => ("SoldWeather", "reader", "LSoldWeather$Reader;", true)
  | 2 => ("SoldWeather", "course", "LSoldWeather$Course;", true)
  | 3 => ("SoldWeather", "trail", "[I", true)
  | 4 => ("SoldWeather", "tally", "[I", true)
  | 5 => ("SoldWeather", "planned", "[I", true)
  | 6 => ("SoldWeather", "plannedWorth", "[I", true)
  | _ => ("SoldWeather", "kept", "LSoldWeather$World;", false)
def tyX11 : Nat → FieldType := fun k => match k with
  | 0 => .object "SoldWeather$World"
  | 1 => .object "SoldWeather$Reader"
  | 2 => .object "SoldWeather$Course"
  | 3 => .array .int
  | 4 => .array .int
  | 5 => .array .int
  | 6 => .array .int
  | _ => .object "SoldWeather$World"
abbrev wsX110 : List Cond := u_ws RX11 TX11 8
theorem nmX11 : ∀ a, a < 8 → ∀ b, b < 8 → a ≠ b → (TX11 a).2.1 ≠ (TX11 b).2.1 := by decide +kernel
theorem tyX11_ok : ∀ k, k < 8 → parseFieldDescriptor (TX11 k).2.2.1 = some (tyX11 k) := by decide +kernel

def RX12 : String := "SoldWeatherModel"
def TX12 : u_T := fun k => match k with
  | 0 => ("SoldWeatherModel", "thrown", "I", false)
  | 1 => ("SoldWeatherModel", "s", "[I", true)
  | 2 => ("SoldWeatherModel", "image", "[I", true)
  | 3 => ("SoldWeatherModel", "frame", "[I", true)
  | 4 => ("SoldWeatherModel", "hasImage", "Z", false)
  | 5 => ("SoldWeatherModel", "act", "I", false)
  | 6 => ("SoldWeatherModel", "spot", "I", false)
  | 7 => ("SoldWeatherModel", "end", "I", false)
  | 8 => ("SoldWeatherModel", "isWrong", "Z", false)
  | 9 => ("SoldWeatherModel", "open", "I", false)
  | 10 => ("SoldWeatherModel", "by", "[I", true)
  | 11 => ("SoldWeatherModel", "truths", "[Z", true)
  | 12 => ("SoldWeatherModel", "bids", "[I", true)
  | 13 => ("SoldWeatherModel", "sums", "[I", true)
  | 14 => ("SoldWeatherModel", "soldNow", "I", false)
  | 15 => ("SoldWeatherModel", "isFortune", "Z", false)
  | 16 => ("SoldWeatherModel", "worths", "I", false)
  | 17 => ("SoldWeatherModel", "paid", "I", false)
  | 18 => ("SoldWeatherModel", "follows", "[I", true)
  | 19 => ("SoldWeatherModel", "worthTo", "[I", true)
  | 20 => ("SoldWeatherModel", "bodies", "[I", true)
  | 21 => ("SoldWeatherModel", "ran", "I", false)
  | 22 => ("SoldWeatherModel", "kind", "I", false)
  | 23 => ("SoldWeatherModel", "number", "I", false)
  | _ => ("SoldWeatherModel", "tellsV", "I", false)
def tyX12 : Nat → FieldType := fun k => match k with
  | 0 => .int
  | 1 => .array .int
  | 2 => .array .int
  | 3 => .array .int
  | 4 => .boolean
  | 5 => .int
  | 6 => .int
  | 7 => .int
  | 8 => .boolean
  | 9 => .int
  | 10 => .array .int
  | 11 => .array .boolean
  | 12 => .array .int
  | 13 => .array .int
  | 14 => .int
  | 15 => .boolean
  | 16 => .int
  | 17 => .int
  | 18 => .array .int
  | 19 => .array .int
  | 20 => .array .int
  | 21 => .int
  | 22 => .int
  | 23 => .int
  | _ => .int
abbrev wsX120 : List Cond := u_ws RX12 TX12 25
theorem nmX12 : ∀ a, a < 25 → ∀ b, b < 25 → a ≠ b → (TX12 a).2.1 ≠ (TX12 b).2.1 := by decide +kernel
theorem tyX12_ok : ∀ k, k < 25 → parseFieldDescriptor (TX12 k).2.2.1 = some (tyX12 k) := by decide +kernel

/-- words that are not carried into a callee -/
def a_gk (w : Jvm.Cond) : Bool := match w with
  | .castable .. => false
  | .arrayOver .. => false
  | .declares .. => false
  | .privateMethod .. => false
  | .stringRef .. => false
  | .laysStatic .. => false
  | _ => true
def a_TB : List Jvm.Cond := (Jvm.Cond.code x code maxLocals ret :: lw_tbl).filter a_gk

def a_cl : List vw_C := [(RX0, TX0, 3), (RX1, TX1, 3), (RX2, TX2, 10), (RX3, TX3, 3), (RX4, TX4, 3), (RX5, TX5, 11), (RX6, TX6, 3), (RX7, TX7, 3), (RX8, TX8, 3), (RX9, TX9, 5), (RX10, TX10, 17), (RX11, TX11, 8), (RX12, TX12, 25)]

def a_df : List (List Value) := [[.int 0, .int 0, .int 0], [.int 0, .int 0, .int 0], [.null, .null, .null, .null, .null, .int 0, .int 0, .int 0, .int 0, .int 0], [.int 0, .int 0, .int 0], [.int 0, .int 0, .int 0], [.null, .null, .null, .int 0, .int 0, .int 0, .int 0, .null, .int 0, .int 0, .int 0], [.int 0, .int 0, .int 0], [.int 0, .int 0, .int 0], [.int 0, .int 0, .int 0], [.null, .null, .null, .int 0, .int 0], [.null, .int 0, .int 0, .null, .int 0, .int 0, .null, .int 0, .int 0, .null, .null, .null, .int 0, .null, .int 0, .null, .int 0], [.null, .null, .null, .null, .null, .null, .null, .null], [.int 0, .null, .null, .null, .int 0, .int 0, .int 0, .int 0, .int 0, .int 0, .null, .null, .null, .null, .int 0, .int 0, .int 0, .int 0, .null, .null, .null, .int 0, .int 0, .int 0, .int 0]]

def a_ty : Nat → Nat → FieldType := fun ci => match ci with
  | 0 => tyX0
  | 1 => tyX1
  | 2 => tyX2
  | 3 => tyX3
  | 4 => tyX4
  | 5 => tyX5
  | 6 => tyX6
  | 7 => tyX7
  | 8 => tyX8
  | 9 => tyX9
  | 10 => tyX10
  | 11 => tyX11
  | _ => tyX12

def a_NC : List (Bool × String × String) := [(false, "SoldWeather", "SoldWeather$Told"), (false, "SoldWeather$World", "SoldWeather$Told"), (false, "SoldWeather$Reader", "SoldWeather$Told"), (false, "SoldWeather$Course", "SoldWeather$Told"), (false, "SoldWeatherModel", "SoldWeather$Told"), (false, "SoldWeather$Valley", "SoldWeather$Told"), (false, "SoldWeather$Low", "SoldWeather$Told"), (false, "SoldWeather$League", "SoldWeather$Told"), (false, "SoldWeather$Ahead", "SoldWeather$Told"), (false, "SoldWeather$Saving", "SoldWeather$Told"), (false, "SoldWeather$Sharing", "SoldWeather$Told"), (false, "SoldWeather$Bidder", "SoldWeather$Told"), (false, "SoldWeather", "SoldWeather$League"), (false, "SoldWeather$World", "SoldWeather$League"), (false, "SoldWeather$Reader", "SoldWeather$League"), (false, "SoldWeather$Course", "SoldWeather$League"), (false, "SoldWeatherModel", "SoldWeather$League"), (false, "SoldWeather$Valley", "SoldWeather$League"), (false, "SoldWeather$Low", "SoldWeather$League"), (false, "SoldWeather$Ahead", "SoldWeather$League"), (false, "SoldWeather$Saving", "SoldWeather$League"), (false, "SoldWeather$Bidder", "SoldWeather$League"), (false, "SoldWeather", "SoldWeather$Low"), (false, "SoldWeather$World", "SoldWeather$Low"), (false, "SoldWeather$Reader", "SoldWeather$Low"), (false, "SoldWeather$Course", "SoldWeather$Low"), (false, "SoldWeatherModel", "SoldWeather$Low"), (false, "SoldWeather$Valley", "SoldWeather$Low"), (false, "SoldWeather$League", "SoldWeather$Low"), (false, "SoldWeather$Ahead", "SoldWeather$Low"), (false, "SoldWeather$Sharing", "SoldWeather$Low"), (false, "SoldWeather$Told", "SoldWeather$Low"), (false, "SoldWeather$Bidder", "SoldWeather$Low"), (false, "SoldWeather", "SoldWeather$Ahead"), (false, "SoldWeather$World", "SoldWeather$Ahead"), (false, "SoldWeather$Reader", "SoldWeather$Ahead"), (false, "SoldWeather$Course", "SoldWeather$Ahead"), (false, "SoldWeatherModel", "SoldWeather$Ahead"), (false, "SoldWeather$Valley", "SoldWeather$Ahead"), (false, "SoldWeather$Low", "SoldWeather$Ahead"), (false, "SoldWeather$League", "SoldWeather$Ahead"), (false, "SoldWeather$Saving", "SoldWeather$Ahead"), (false, "SoldWeather$Sharing", "SoldWeather$Ahead"), (false, "SoldWeather$Told", "SoldWeather$Ahead"), (false, "SoldWeather$Bidder", "SoldWeather$Ahead"), (false, "SoldWeather", "SoldWeather$Saving"), (false, "SoldWeather$World", "SoldWeather$Saving"), (false, "SoldWeather$Reader", "SoldWeather$Saving"), (false, "SoldWeather$Course", "SoldWeather$Saving"), (false, "SoldWeatherModel", "SoldWeather$Saving"), (false, "SoldWeather$Valley", "SoldWeather$Saving"), (false, "SoldWeather$Low", "SoldWeather$Saving"), (false, "SoldWeather$League", "SoldWeather$Saving"), (false, "SoldWeather$Ahead", "SoldWeather$Saving"), (false, "SoldWeather$Sharing", "SoldWeather$Saving"), (false, "SoldWeather$Told", "SoldWeather$Saving"), (false, "SoldWeather$Bidder", "SoldWeather$Saving"), (false, "SoldWeather", "SoldWeather$Sharing"), (false, "SoldWeather$World", "SoldWeather$Sharing"), (false, "SoldWeather$Reader", "SoldWeather$Sharing"), (false, "SoldWeather$Course", "SoldWeather$Sharing"), (false, "SoldWeatherModel", "SoldWeather$Sharing"), (false, "SoldWeather$Valley", "SoldWeather$Sharing"), (false, "SoldWeather$Low", "SoldWeather$Sharing"), (false, "SoldWeather$League", "SoldWeather$Sharing"), (false, "SoldWeather$Ahead", "SoldWeather$Sharing"), (false, "SoldWeather$Saving", "SoldWeather$Sharing"), (false, "SoldWeather$Told", "SoldWeather$Sharing"), (false, "SoldWeather$Bidder", "SoldWeather$Sharing"), (true, "SoldWeather$Sharing", "SoldWeather$League"), (true, "SoldWeather$Told", "SoldWeather$League"), (true, "SoldWeather$Saving", "SoldWeather$Low"), (true, "SoldWeather$Low", "SoldWeather$Bidder"), (true, "SoldWeather$League", "SoldWeather$Bidder"), (true, "SoldWeather$Ahead", "SoldWeather$Bidder"), (true, "SoldWeather$Saving", "SoldWeather$Bidder"), (true, "SoldWeather$Sharing", "SoldWeather$Bidder"), (true, "SoldWeather$Told", "SoldWeather$Bidder")]

def a_SR : List (String × Nat × String × Nat) := [("SoldWeather$Reader", 98, "harm ", 0), ("SoldWeather$Reader", 100, "rule ", 1), ("SoldWeather$Reader", 102, "gift ", 2), ("SoldWeather$Reader", 104, "worth ", 3), ("SoldWeather$Reader", 89, " ", 4), ("SoldWeather$Reader", 124, ")", 5), ("SoldWeatherModel", 113, "worth ", 3), ("SoldWeatherModel", 91, "wydpk", 6), ("SoldWeatherModel", 97, "<=>", 7), ("SoldWeatherModel", 119, "harm ", 0), ("SoldWeatherModel", 109, "rule ", 1), ("SoldWeatherModel", 111, "gift ", 2)]

def a_tx : List (List Int32) := [[104, 97, 114, 109, 32], [114, 117, 108, 101, 32], [103, 105, 102, 116, 32], [119, 111, 114, 116, 104, 32], [32], [41], [119, 121, 100, 112, 107], [60, 61, 62]]

def a_sv (fz : Value) : List (String × String × String × Value) := [("java/lang/String", "COMPACT_STRINGS", "Z", .int 1), ("jdk/internal/util/Preconditions", "SIOOBE_FORMATTER", "Ljava/util/function/BiFunction;", fz)]
end
section
/-! 13.rows: the methods as rows of our machine (by program) -/
/-- 0: SoldWeather$Ahead.<init>(III)V -/
def m_X0_init : List aI := [
  (0, .aload_n 0, 1, 0, []),
  (1, .iload_n 1, 1, 0, []),
  (2, .iload_n 2, 1, 0, []),
  (3, .iload_n 3, 1, 0, []),
  (4, .invokespecial 3, 3, 0, [[0, 3, 3], [503, 453, 72]]),
  (7, .return_, 1, 0, [])]
/-- 1: SoldWeather$Ahead.wish(LSoldWeather$Course;I)I -/
def m_X0_wish : List aI := [
  (0, .aload_n 1, 1, 0, []),
  (1, .aload_n 0, 1, 0, []),
  (2, .iconst 0, 1, 0, []),
  (3, .aload_n 1, 1, 0, []),
  (4, .getfield 9, 3, 0, [[7, 0], [2], [225, 0]]),
  (7, .iconst 1, 1, 1, []),
  (8, .iadd, 1, 0, []),
  (9, .iload_n 2, 1, 0, []),
  (10, .invokevirtual 15, 3, 0, [[0, 4], [2, 32, 0, 578, 579, 580, 63]]),
  (13, .istore_n 3, 1, 0, []),
  (14, .iconst 1, 1, 1, []),
  (15, .istore 4, 2, 0, []),
  (17, .iload 4, 2, 0, []),
  (19, .iconst 4, 1, 4, []),
  (20, .if_icmp .ge 28, 3, 0, [[29]]),
  (23, .iload_n 3, 1, 0, []),
  (24, .aload_n 1, 1, 0, []),
  (25, .aload_n 0, 1, 0, []),
  (26, .iload 4, 2, 0, []),
  (28, .aload_n 1, 1, 0, []),
  (29, .getfield 9, 3, 0, [[7, 0], [2], [225, 0]]),
  (32, .iconst 1, 1, 1, []),
  (33, .iadd, 1, 0, []),
  (34, .iload_n 2, 1, 0, []),
  (35, .invokevirtual 15, 3, 0, [[0, 4], [2, 32, 0, 578, 579, 580, 63]]),
  (38, .invokestatic 19, 3, 0, [[1], [589, 590, 65, 591]]),
  (41, .istore_n 3, 1, 0, []),
  (42, .iinc 4 1, 3, 1, []),
  (45, .goto (-28), 3, 0, [[12]]),
  (48, .aload_n 1, 1, 0, []),
  (49, .aload_n 0, 1, 0, []),
  (50, .iload_n 2, 1, 0, []),
  (51, .aload_n 1, 1, 0, []),
  (52, .getfield 9, 3, 0, [[7, 0], [2], [225, 0]]),
  (55, .aload_n 1, 1, 0, []),
  (56, .getfield 25, 3, 0, [[8, 0], [2], [233, 0]]),
  (59, .invokevirtual 15, 3, 0, [[0, 4], [2, 32, 0, 578, 579, 580, 63]]),
  (62, .aload_n 0, 1, 0, []),
  (63, .getfield 28, 3, 0, [[2, 0], [0, 1, 3, 4, 6, 7, 8], [476, 477]]),
  (66, .iload_n 3, 1, 0, []),
  (67, .imul, 1, 0, []),
  (68, .bipush 10, 2, 10, []),
  (70, .idiv, 1, 0, []),
  (71, .iadd, 1, 0, []),
  (72, .ireturn, 1, 0, [[0]])]
/-- 2: SoldWeather$Ahead.tells(I[I)I -/
def m_X0_tells : List aI := [
  (0, .aload_n 2, 1, 0, []),
  (1, .bipush 31, 2, 31, []),
  (3, .invokestatic 33, 3, 0, [[6, 8, 2], [836, 837, 793, 72]]),
  (6, .aload_n 0, 1, 0, []),
  (7, .iload_n 1, 1, 0, []),
  (8, .aload_n 2, 1, 0, []),
  (9, .invokespecial 37, 3, 0, [[2, 7, 2], [838, 832, 507, 830, 72]]),
  (12, .bipush 7, 2, 7, []),
  (14, .ixor, 1, 0, []),
  (15, .ireturn, 1, 0, [[0]])]
/-- 3: SoldWeather$Bidder.<init>(III)V -/
def m_X1_init : List aI := [
  (0, .aload_n 0, 1, 0, []),
  (1, .invokespecial 1, 3, 0, [[1], [455, 85, 86]]),
  (4, .aload_n 0, 1, 0, []),
  (5, .iload_n 1, 1, 0, []),
  (6, .putfield 7, 3, 0, [[0, 0], [0, 1, 3, 4, 6, 7, 8], [456, 0]]),
  (9, .aload_n 0, 1, 0, []),
  (10, .iload_n 2, 1, 0, []),
  (11, .putfield 13, 3, 0, [[1, 0], [0, 1, 3, 4, 6, 7, 8], [459, 0]]),
  (14, .aload_n 0, 1, 0, []),
  (15, .iload_n 3, 1, 0, []),
  (16, .putfield 16, 3, 0, [[2, 0], [0, 1, 3, 4, 6, 7, 8], [469, 0]]),
  (19, .return_, 1, 0, [])]
/-- 4: SoldWeather$Bidder.wish(LSoldWeather$Course;I)I -/
def m_X1_wish : List aI := [
  (0, .aload_n 1, 1, 0, []),
  (1, .aload_n 0, 1, 0, []),
  (2, .iload_n 2, 1, 0, []),
  (3, .aload_n 1, 1, 0, []),
  (4, .getfield 19, 3, 0, [[7, 0], [2], [224, 0]]),
  (7, .aload_n 1, 1, 0, []),
  (8, .getfield 24, 3, 0, [[8, 0], [2], [229, 0]]),
  (11, .invokevirtual 27, 3, 0, [[0, 4], [2, 32, 0, 625, 579, 580, 63]]),
  (14, .ireturn, 1, 0, [[0]])]
/-- 5: SoldWeather$Bidder.bids(I[I)I -/
def m_X1_bids : List aI := [
  (0, .aload_n 2, 1, 0, []),
  (1, .iconst 1, 1, 1, []),
  (2, .invokestatic 31, 3, 0, [[0, 8, 2], [806, 793, 72]]),
  (5, .iload_n 1, 1, 0, []),
  (6, .aload_n 0, 1, 0, []),
  (7, .getfield 13, 3, 0, [[1, 0], [0, 1, 3, 4, 6, 7, 8], [459, 0]]),
  (10, .iadd, 1, 0, []),
  (11, .ireturn, 1, 0, [[0]])]
/-- 6: SoldWeather$Bidder.pays(I[I)I -/
def m_X1_pays : List aI := [
  (0, .aload_n 2, 1, 0, []),
  (1, .iconst 2, 1, 2, []),
  (2, .invokestatic 31, 3, 0, [[0, 8, 2], [806, 793, 72]]),
  (5, .aload_n 0, 1, 0, []),
  (6, .iload_n 1, 1, 0, []),
  (7, .aload_n 2, 1, 0, []),
  (8, .invokevirtual 35, 3, 0, [[0, 2], [0, 5, 1, 828, 785, 786, 783, 72], [1, 5, 0, 828, 783, 784, 72], [3, 5, 1, 828, 785, 787, 783, 72], [4, 38, 2, 828, 785, 788, 789, 73, 783, 805], [6, 38, 2, 828, 785, 796, 789, 73, 783, 805], [7, 60, 2, 828, 785, 797, 798, 77, 783, 805], [8, 5, 1, 828, 785, 804, 783, 72]]),
  (11, .aload_n 0, 1, 0, []),
  (12, .getfield 16, 3, 0, [[2, 0], [0, 1, 3, 4, 6, 7, 8], [469, 0]]),
  (15, .isub, 1, 0, []),
  (16, .ireturn, 1, 0, [[0]])]
/-- 7: SoldWeather$Bidder.tells(I[I)I -/
def m_X1_tells : List aI := [
  (0, .aload_n 2, 1, 0, []),
  (1, .iconst 3, 1, 3, []),
  (2, .invokestatic 31, 3, 0, [[0, 8, 2], [806, 793, 72]]),
  (5, .aload_n 0, 1, 0, []),
  (6, .iload_n 1, 1, 0, []),
  (7, .aload_n 2, 1, 0, []),
  (8, .invokevirtual 39, 3, 0, [[0, 2], [0, 6, 1, 854, 810, 811, 808, 72], [1, 6, 0, 854, 808, 809, 72], [3, 35, 2, 854, 810, 812, 813, 74, 808, 827], [4, 6, 1, 854, 810, 818, 808, 72], [6, 6, 1, 854, 810, 819, 808, 72], [7, 35, 2, 854, 810, 820, 813, 74, 808, 827], [8, 63, 2, 854, 810, 821, 822, 78, 808, 827]]),
  (11, .iconst 2, 1, 2, []),
  (12, .imul, 1, 0, []),
  (13, .ireturn, 1, 0, [[0]])]
/-- 8: SoldWeather$Bidder.began([II)V -/
def m_X1_began : List aI := [
  (0, .aload_n 0, 1, 0, []),
  (1, .iconst 0, 1, 0, []),
  (2, .dup2, 1, 0, []),
  (3, .iaload, 1, 0, []),
  (4, .iconst 1, 1, 1, []),
  (5, .iadd, 1, 0, []),
  (6, .iastore, 1, 0, []),
  (7, .aload_n 0, 1, 0, []),
  (8, .iconst 0, 1, 0, []),
  (9, .iaload, 1, 0, []),
  (10, .ifCond .le 17, 3, 0, [[23]]),
  (13, .aload_n 0, 1, 0, []),
  (14, .iconst 0, 1, 0, []),
  (15, .iaload, 1, 0, []),
  (16, .aload_n 0, 1, 0, []),
  (17, .arraylength, 1, 0, []),
  (18, .if_icmp .ge 9, 3, 0, [[23]]),
  (21, .aload_n 0, 1, 0, []),
  (22, .aload_n 0, 1, 0, []),
  (23, .iconst 0, 1, 0, []),
  (24, .iaload, 1, 0, []),
  (25, .iload_n 1, 1, 0, []),
  (26, .iastore, 1, 0, []),
  (27, .return_, 1, 0, [])]
/-- 9: SoldWeather$Course.<init>(LSoldWeather$World;)V -/
def m_X2_init : List aI := [
  (0, .aload_n 0, 1, 0, []),
  (1, .invokespecial 3, 3, 0, [[1], [216, 85, 86]]),
  (4, .aload_n 0, 1, 0, []),
  (5, .bipush 8, 2, 8, []),
  (7, .newarray .int, 2, 0, [[170]]),
  (9, .putfield 9, 3, 0, [[1, 2], [2], [218, 0]]),
  (12, .aload_n 0, 1, 0, []),
  (13, .bipush 32, 2, 32, []),
  (15, .newarray .int, 2, 0, [[170]]),
  (17, .putfield 15, 3, 0, [[2, 2], [2], [219, 0]]),
  (20, .aload_n 0, 1, 0, []),
  (21, .iconst 4, 1, 4, []),
  (22, .newarray .int, 2, 0, [[170]]),
  (24, .putfield 18, 3, 0, [[3, 2], [2], [220, 0]]),
  (27, .aload_n 0, 1, 0, []),
  (28, .iconst 5, 1, 5, []),
  (29, .newarray .int, 2, 0, [[170]]),
  (31, .putfield 21, 3, 0, [[4, 2], [2], [221, 0]]),
  (34, .aload_n 0, 1, 0, []),
  (35, .aload_n 1, 1, 0, []),
  (36, .putfield 24, 3, 0, [[0, 2], [2], [217, 0]]),
  (39, .return_, 1, 0, [])]
/-- 10: SoldWeather$Course.begin()V -/
def m_X2_begin : List aI := [
  (0, .aload_n 0, 1, 0, []),
  (1, .aload_n 0, 1, 0, []),
  (2, .getfield 24, 3, 0, [[0, 0], [2], [217, 0]]),
  (5, .getfield 28, 3, 0, [[4, 0], [10], [103, 0]]),
  (8, .putfield 34, 3, 0, [[7, 0], [2], [228, 0]]),
  (11, .aload_n 0, 1, 0, []),
  (12, .aload_n 0, 1, 0, []),
  (13, .getfield 24, 3, 0, [[0, 0], [2], [217, 0]]),
  (16, .getfield 35, 3, 0, [[5, 0], [10], [106, 0]]),
  (19, .putfield 38, 3, 0, [[8, 0], [2], [232, 0]]),
  (22, .aload_n 0, 1, 0, []),
  (23, .aload_n 0, 1, 0, []),
  (24, .getfield 24, 3, 0, [[0, 0], [2], [217, 0]]),
  (27, .getfield 39, 3, 0, [[8, 0], [10], [113, 0]]),
  (30, .putfield 42, 3, 0, [[6, 0], [2], [223, 0]]),
  (33, .aload_n 0, 1, 0, []),
  (34, .getfield 24, 3, 0, [[0, 0], [2], [217, 0]]),
  (37, .getfield 43, 3, 0, [[10, 0], [10], [119, 0]]),
  (40, .iconst 0, 1, 0, []),
  (41, .aload_n 0, 1, 0, []),
  (42, .getfield 9, 3, 0, [[1, 0], [2], [218, 0]]),
  (45, .iconst 0, 1, 0, []),
  (46, .bipush 8, 2, 8, []),
  (48, .invokestatic 44, 3, 0, [[3], [565, 387, 386, 71]]),
  (51, .return_, 1, 0, [])]
/-- 11: SoldWeather$Course.keep()V -/
def m_X2_keep : List aI := [
  (0, .aload_n 0, 1, 0, []),
  (1, .getfield 24, 3, 0, [[0, 0], [2], [217, 0]]),
  (4, .aload_n 0, 1, 0, []),
  (5, .getfield 34, 3, 0, [[7, 0], [2], [228, 0]]),
  (8, .putfield 28, 3, 0, [[4, 0], [10], [103, 0]]),
  (11, .aload_n 0, 1, 0, []),
  (12, .getfield 24, 3, 0, [[0, 0], [2], [217, 0]]),
  (15, .aload_n 0, 1, 0, []),
  (16, .getfield 38, 3, 0, [[8, 0], [2], [232, 0]]),
  (19, .putfield 35, 3, 0, [[5, 0], [10], [106, 0]]),
  (22, .aload_n 0, 1, 0, []),
  (23, .getfield 24, 3, 0, [[0, 0], [2], [217, 0]]),
  (26, .aload_n 0, 1, 0, []),
  (27, .getfield 42, 3, 0, [[6, 0], [2], [223, 0]]),
  (30, .putfield 39, 3, 0, [[8, 0], [10], [113, 0]]),
  (33, .aload_n 0, 1, 0, []),
  (34, .getfield 9, 3, 0, [[1, 0], [2], [218, 0]]),
  (37, .iconst 0, 1, 0, []),
  (38, .aload_n 0, 1, 0, []),
  (39, .getfield 24, 3, 0, [[0, 0], [2], [217, 0]]),
  (42, .getfield 43, 3, 0, [[10, 0], [10], [119, 0]]),
  (45, .iconst 0, 1, 0, []),
  (46, .bipush 8, 2, 8, []),
  (48, .invokestatic 44, 3, 0, [[3], [565, 387, 386, 71]]),
  (51, .return_, 1, 0, [])]
/-- 12: SoldWeather$Course.open()V -/
def m_X2_open : List aI := [
  (0, .iconst 0, 1, 0, []),
  (1, .istore_n 1, 1, 0, []),
  (2, .iload_n 1, 1, 0, []),
  (3, .aload_n 0, 1, 0, []),
  (4, .getfield 24, 3, 0, [[0, 0], [2], [217, 0]]),
  (7, .getfield 50, 3, 0, [[12, 0], [10], [125, 0]]),
  (10, .if_icmp .ge 14, 3, 0, [[12]]),
  (13, .aload_n 0, 1, 0, []),
  (14, .iload_n 1, 1, 0, []),
  (15, .invokevirtual 53, 3, 0, [[0, 1], [2, 13, 0, 648, 567, 568, 63]]),
  (18, .iinc 1 1, 3, 1, []),
  (21, .goto (-19), 3, 0, [[2]]),
  (24, .aload_n 0, 1, 0, []),
  (25, .invokevirtual 57, 3, 0, [[0, 0], [2, 15, 0, 649, 650, 13, 63]]),
  (28, .return_, 1, 0, [])]
/-- 13: SoldWeather$Course.ask(I)V -/
def m_X2_ask : List aI := [
  (0, .aload_n 0, 1, 0, []),
  (1, .getfield 24, 3, 0, [[0, 0], [2], [217, 0]]),
  (4, .iload_n 1, 1, 0, []),
  (5, .invokevirtual 60, 3, 0, [[0, 1], [10, 70, 0, 570, 550, 551, 61]]),
  (8, .astore_n 2, 1, 0, []),
  (9, .aload_n 2, 1, 0, []),
  (10, .ifnonnull 4, 3, 0, [[8]]),
  (13, .return_, 1, 0, []),
  (14, .iconst 0, 1, 0, []),
  (15, .istore_n 3, 1, 0, []),
  (16, .iload_n 3, 1, 0, []),
  (17, .iconst 4, 1, 4, []),
  (18, .if_icmp .ge 21, 3, 0, [[23]]),
  (21, .aload_n 0, 1, 0, []),
  (22, .iload_n 1, 1, 0, []),
  (23, .iload_n 3, 1, 0, []),
  (24, .aload_n 2, 1, 0, []),
  (25, .aload_n 0, 1, 0, []),
  (26, .iload_n 3, 1, 0, []),
  (27, .invokevirtual 64, 3, 0, [[0, 2], [0, 1, 2, 571, 574, 575, 576, 75, 572, 624], [1, 4, 0, 571, 572, 573, 72], [3, 34, 2, 571, 574, 592, 593, 74, 572, 624], [4, 37, 2, 571, 574, 601, 602, 73, 572, 624], [6, 56, 2, 571, 574, 605, 606, 76, 572, 624], [7, 59, 2, 571, 574, 613, 614, 77, 572, 624], [8, 62, 2, 571, 574, 617, 618, 78, 572, 624]]),
  (30, .invokevirtual 70, 3, 0, [[0, 3], [2, 14, 0, 626, 627, 12, 63]]),
  (33, .iinc 3 1, 3, 1, []),
  (36, .goto (-20), 3, 0, [[10]]),
  (39, .return_, 1, 0, [])]
/-- 14: SoldWeather$Course.putBid(III)V -/
def m_X2_putBid : List aI := [
  (0, .aload_n 0, 1, 0, []),
  (1, .getfield 15, 3, 0, [[2, 0], [2], [219, 0]]),
  (4, .iload_n 1, 1, 0, []),
  (5, .iconst 4, 1, 4, []),
  (6, .imul, 1, 0, []),
  (7, .iload_n 2, 1, 0, []),
  (8, .iadd, 1, 0, []),
  (9, .iconst 0, 1, 0, []),
  (10, .aload_n 0, 1, 0, []),
  (11, .getfield 9, 3, 0, [[1, 0], [2], [218, 0]]),
  (14, .iload_n 1, 1, 0, []),
  (15, .iaload, 1, 0, []),
  (16, .iload_n 3, 1, 0, []),
  (17, .invokestatic 74, 3, 0, [[2], [629, 295, 65, 296]]),
  (20, .invokestatic 80, 3, 0, [[1], [630, 590, 65, 591]]),
  (23, .iastore, 1, 0, []),
  (24, .return_, 1, 0, [])]
/-- 15: SoldWeather$Course.settle()V -/
def m_X2_settle : List aI := [
  (0, .iconst 0, 1, 0, []),
  (1, .istore_n 1, 1, 0, []),
  (2, .iconst 0, 1, 0, []),
  (3, .istore_n 2, 1, 0, []),
  (4, .iload_n 2, 1, 0, []),
  (5, .iconst 4, 1, 4, []),
  (6, .if_icmp .ge 71, 3, 0, [[49]]),
  (9, .aload_n 0, 1, 0, []),
  (10, .getfield 18, 3, 0, [[3, 0], [2], [220, 0]]),
  (13, .iload_n 2, 1, 0, []),
  (14, .iconst 0, 1, 0, []),
  (15, .iastore, 1, 0, []),
  (16, .iconst 0, 1, 0, []),
  (17, .istore_n 3, 1, 0, []),
  (18, .iload_n 3, 1, 0, []),
  (19, .aload_n 0, 1, 0, []),
  (20, .getfield 24, 3, 0, [[0, 0], [2], [217, 0]]),
  (23, .getfield 50, 3, 0, [[12, 0], [10], [125, 0]]),
  (26, .if_icmp .ge 28, 3, 0, [[36]]),
  (29, .aload_n 0, 1, 0, []),
  (30, .getfield 18, 3, 0, [[3, 0], [2], [220, 0]]),
  (33, .iload_n 2, 1, 0, []),
  (34, .dup2, 1, 0, []),
  (35, .iaload, 1, 0, []),
  (36, .aload_n 0, 1, 0, []),
  (37, .getfield 15, 3, 0, [[2, 0], [2], [219, 0]]),
  (40, .iload_n 3, 1, 0, []),
  (41, .iconst 4, 1, 4, []),
  (42, .imul, 1, 0, []),
  (43, .iload_n 2, 1, 0, []),
  (44, .iadd, 1, 0, []),
  (45, .iaload, 1, 0, []),
  (46, .iadd, 1, 0, []),
  (47, .iastore, 1, 0, []),
  (48, .iinc 3 1, 3, 1, []),
  (51, .goto (-33), 3, 0, [[14]]),
  (54, .aload_n 0, 1, 0, []),
  (55, .getfield 18, 3, 0, [[3, 0], [2], [220, 0]]),
  (58, .iload_n 2, 1, 0, []),
  (59, .iaload, 1, 0, []),
  (60, .aload_n 0, 1, 0, []),
  (61, .getfield 18, 3, 0, [[3, 0], [2], [220, 0]]),
  (64, .iload_n 1, 1, 0, []),
  (65, .iaload, 1, 0, []),
  (66, .if_icmp .le 5, 3, 0, [[47]]),
  (69, .iload_n 2, 1, 0, []),
  (70, .istore_n 1, 1, 0, []),
  (71, .iinc 2 1, 3, 1, []),
  (74, .goto (-70), 3, 0, [[4]]),
  (77, .aload_n 0, 1, 0, []),
  (78, .aload_n 0, 1, 0, []),
  (79, .getfield 18, 3, 0, [[3, 0], [2], [220, 0]]),
  (82, .iload_n 1, 1, 0, []),
  (83, .iaload, 1, 0, []),
  (84, .ifCond .le 7, 3, 0, [[57]]),
  (87, .iconst 1, 1, 1, []),
  (88, .goto 4, 3, 0, [[58]]),
  (91, .iconst 0, 1, 0, []),
  (92, .putfield 83, 3, 0, [[5, 1], [2], [222, 0]]),
  (95, .aload_n 0, 1, 0, []),
  (96, .aload_n 0, 1, 0, []),
  (97, .getfield 83, 3, 0, [[5, 0], [2], [222, 0]]),
  (100, .ifCond .eq 7, 3, 0, [[65]]),
  (103, .iload_n 1, 1, 0, []),
  (104, .goto 7, 3, 0, [[67]]),
  (107, .aload_n 0, 1, 0, []),
  (108, .invokevirtual 87, 3, 0, [[0, 0], [2, 20, 0, 652, 653, 654, 63]]),
  (111, .putfield 91, 3, 0, [[9, 0], [2], [234, 0]]),
  (114, .return_, 1, 0, [])]
/-- 16: SoldWeather$Course.due(I)I -/
def m_X2_due : List aI := [
  (0, .aload_n 0, 1, 0, []),
  (1, .getfield 83, 3, 0, [[5, 0], [2], [222, 0]]),
  (4, .ifCond .ne 5, 3, 0, [[5]]),
  (7, .iconst 0, 1, 0, []),
  (8, .ireturn, 1, 0, [[0]]),
  (9, .aload_n 0, 1, 0, []),
  (10, .iload_n 1, 1, 0, []),
  (11, .aload_n 0, 1, 0, []),
  (12, .getfield 91, 3, 0, [[9, 0], [2], [234, 0]]),
  (15, .invokevirtual 94, 3, 0, [[0, 2], [2, 22, 0, 666, 632, 633, 63]]),
  (18, .istore_n 2, 1, 0, []),
  (19, .aload_n 0, 1, 0, []),
  (20, .getfield 24, 3, 0, [[0, 0], [2], [217, 0]]),
  (23, .invokevirtual 97, 3, 0, [[0, 0], [10, 71, 0, 667, 416, 417, 61]]),
  (26, .lookupswitch 43 #[(1, 26), (2, 32)], 26, 0, [[26], [15, 19]]),
  (52, .aload_n 0, 1, 0, []),
  (53, .iload_n 1, 1, 0, []),
  (54, .invokevirtual 100, 3, 0, [[0, 1], [2, 17, 0, 668, 669, 670, 63]]),
  (57, .ireturn, 1, 0, [[0]]),
  (58, .iconst 0, 1, 0, []),
  (59, .iload_n 2, 1, 0, []),
  (60, .aload_n 0, 1, 0, []),
  (61, .invokevirtual 104, 3, 0, [[0, 0], [2, 18, 0, 672, 673, 14, 63]]),
  (64, .isub, 1, 0, []),
  (65, .invokestatic 80, 3, 0, [[1], [630, 590, 65, 591]]),
  (68, .ireturn, 1, 0, [[0]]),
  (69, .iload_n 2, 1, 0, []),
  (70, .ireturn, 1, 0, [[0]])]
/-- 17: SoldWeather$Course.harmBy(I)I -/
def m_X2_harmBy : List aI := [
  (0, .iconst 0, 1, 0, []),
  (1, .istore_n 2, 1, 0, []),
  (2, .iconst 0, 1, 0, []),
  (3, .istore_n 3, 1, 0, []),
  (4, .iload_n 3, 1, 0, []),
  (5, .iconst 4, 1, 4, []),
  (6, .if_icmp .ge 27, 3, 0, [[21]]),
  (9, .iload_n 2, 1, 0, []),
  (10, .aload_n 0, 1, 0, []),
  (11, .getfield 18, 3, 0, [[3, 0], [2], [220, 0]]),
  (14, .iload_n 3, 1, 0, []),
  (15, .iaload, 1, 0, []),
  (16, .aload_n 0, 1, 0, []),
  (17, .iload_n 1, 1, 0, []),
  (18, .iload_n 3, 1, 0, []),
  (19, .invokevirtual 94, 3, 0, [[0, 2], [2, 22, 0, 666, 632, 633, 63]]),
  (22, .isub, 1, 0, []),
  (23, .invokestatic 80, 3, 0, [[1], [630, 590, 65, 591]]),
  (26, .istore_n 2, 1, 0, []),
  (27, .iinc 3 1, 3, 1, []),
  (30, .goto (-26), 3, 0, [[4]]),
  (33, .iload_n 2, 1, 0, []),
  (34, .aload_n 0, 1, 0, []),
  (35, .getfield 18, 3, 0, [[3, 0], [2], [220, 0]]),
  (38, .aload_n 0, 1, 0, []),
  (39, .getfield 91, 3, 0, [[9, 0], [2], [234, 0]]),
  (42, .iaload, 1, 0, []),
  (43, .aload_n 0, 1, 0, []),
  (44, .iload_n 1, 1, 0, []),
  (45, .aload_n 0, 1, 0, []),
  (46, .getfield 91, 3, 0, [[9, 0], [2], [234, 0]]),
  (49, .invokevirtual 94, 3, 0, [[0, 2], [2, 22, 0, 666, 632, 633, 63]]),
  (52, .isub, 1, 0, []),
  (53, .isub, 1, 0, []),
  (54, .ireturn, 1, 0, [[0]])]
/-- 18: SoldWeather$Course.rebate()I -/
def m_X2_rebate : List aI := [
  (0, .iconst 0, 1, 0, []),
  (1, .istore_n 1, 1, 0, []),
  (2, .iconst 0, 1, 0, []),
  (3, .istore_n 2, 1, 0, []),
  (4, .iload_n 2, 1, 0, []),
  (5, .aload_n 0, 1, 0, []),
  (6, .getfield 24, 3, 0, [[0, 0], [2], [217, 0]]),
  (9, .getfield 50, 3, 0, [[12, 0], [10], [125, 0]]),
  (12, .if_icmp .ge 24, 3, 0, [[18]]),
  (15, .aload_n 0, 1, 0, []),
  (16, .iload_n 2, 1, 0, []),
  (17, .aload_n 0, 1, 0, []),
  (18, .getfield 91, 3, 0, [[9, 0], [2], [234, 0]]),
  (21, .invokevirtual 94, 3, 0, [[0, 2], [2, 22, 0, 666, 632, 633, 63]]),
  (24, .ifCond .le 6, 3, 0, [[16]]),
  (27, .iinc 1 1, 3, 1, []),
  (30, .iinc 2 1, 3, 1, []),
  (33, .goto (-29), 3, 0, [[4]]),
  (36, .iconst 0, 1, 0, []),
  (37, .istore_n 2, 1, 0, []),
  (38, .iconst 0, 1, 0, []),
  (39, .istore_n 3, 1, 0, []),
  (40, .iload_n 3, 1, 0, []),
  (41, .iconst 4, 1, 4, []),
  (42, .if_icmp .ge 28, 3, 0, [[38]]),
  (45, .iload_n 3, 1, 0, []),
  (46, .aload_n 0, 1, 0, []),
  (47, .getfield 91, 3, 0, [[9, 0], [2], [234, 0]]),
  (50, .if_icmp .eq 14, 3, 0, [[36]]),
  (53, .iload_n 2, 1, 0, []),
  (54, .aload_n 0, 1, 0, []),
  (55, .getfield 18, 3, 0, [[3, 0], [2], [220, 0]]),
  (58, .iload_n 3, 1, 0, []),
  (59, .iaload, 1, 0, []),
  (60, .invokestatic 80, 3, 0, [[1], [630, 590, 65, 591]]),
  (63, .istore_n 2, 1, 0, []),
  (64, .iinc 3 1, 3, 1, []),
  (67, .goto (-27), 3, 0, [[22]]),
  (70, .iload_n 1, 1, 0, []),
  (71, .ifCond .ne 7, 3, 0, [[42]]),
  (74, .iconst 0, 1, 0, []),
  (75, .goto 16, 3, 0, [[51]]),
  (78, .aload_n 0, 1, 0, []),
  (79, .getfield 18, 3, 0, [[3, 0], [2], [220, 0]]),
  (82, .aload_n 0, 1, 0, []),
  (83, .getfield 91, 3, 0, [[9, 0], [2], [234, 0]]),
  (86, .iaload, 1, 0, []),
  (87, .iload_n 2, 1, 0, []),
  (88, .isub, 1, 0, []),
  (89, .iload_n 1, 1, 0, []),
  (90, .idiv, 1, 0, []),
  (91, .ireturn, 1, 0, [[0]])]
/-- 19: SoldWeather$Course.close()I -/
def m_X2_close : List aI := [
  (0, .iconst 0, 1, 0, []),
  (1, .istore_n 1, 1, 0, []),
  (2, .aload_n 0, 1, 0, []),
  (3, .getfield 24, 3, 0, [[0, 0], [2], [217, 0]]),
  (6, .invokevirtual 107, 3, 0, [[0, 0], [10, 72, 0, 661, 420, 421, 61]]),
  (9, .istore_n 2, 1, 0, []),
  (10, .iconst 0, 1, 0, []),
  (11, .istore_n 3, 1, 0, []),
  (12, .iload_n 3, 1, 0, []),
  (13, .aload_n 0, 1, 0, []),
  (14, .getfield 24, 3, 0, [[0, 0], [2], [217, 0]]),
  (17, .getfield 50, 3, 0, [[12, 0], [10], [125, 0]]),
  (20, .if_icmp .ge 48, 3, 0, [[39]]),
  (23, .aload_n 0, 1, 0, []),
  (24, .iload_n 3, 1, 0, []),
  (25, .invokevirtual 110, 3, 0, [[0, 1], [2, 16, 0, 662, 663, 664, 63]]),
  (28, .istore 4, 2, 0, []),
  (30, .iload_n 1, 1, 0, []),
  (31, .iload 4, 2, 0, []),
  (33, .iadd, 1, 0, []),
  (34, .istore_n 1, 1, 0, []),
  (35, .aload_n 0, 1, 0, []),
  (36, .getfield 9, 3, 0, [[1, 0], [2], [218, 0]]),
  (39, .iload_n 3, 1, 0, []),
  (40, .sipush 999, 3, 999, []),
  (43, .iconst 0, 1, 0, []),
  (44, .aload_n 0, 1, 0, []),
  (45, .getfield 9, 3, 0, [[1, 0], [2], [218, 0]]),
  (48, .iload_n 3, 1, 0, []),
  (49, .iaload, 1, 0, []),
  (50, .iload 4, 2, 0, []),
  (52, .isub, 1, 0, []),
  (53, .invokestatic 80, 3, 0, [[1], [630, 590, 65, 591]]),
  (56, .iload_n 2, 1, 0, []),
  (57, .iadd, 1, 0, []),
  (58, .invokestatic 74, 3, 0, [[2], [629, 295, 65, 296]]),
  (61, .iastore, 1, 0, []),
  (62, .iinc 3 1, 3, 1, []),
  (65, .goto (-53), 3, 0, [[8]]),
  (68, .aload_n 0, 1, 0, []),
  (69, .getfield 83, 3, 0, [[5, 0], [2], [222, 0]]),
  (72, .ifCond .ne 18, 3, 0, [[49]]),
  (75, .aload_n 0, 1, 0, []),
  (76, .aload_n 0, 1, 0, []),
  (77, .getfield 24, 3, 0, [[0, 0], [2], [217, 0]]),
  (80, .aload_n 0, 1, 0, []),
  (81, .getfield 42, 3, 0, [[6, 0], [2], [223, 0]]),
  (84, .invokevirtual 113, 3, 0, [[0, 1], [10, 74, 0, 675, 676, 677, 61]]),
  (87, .putfield 42, 3, 0, [[6, 0], [2], [223, 0]]),
  (90, .aload_n 0, 1, 0, []),
  (91, .dup, 1, 0, []),
  (92, .getfield 34, 3, 0, [[7, 0], [2], [228, 0]]),
  (95, .iconst 1, 1, 1, []),
  (96, .iadd, 1, 0, []),
  (97, .putfield 34, 3, 0, [[7, 0], [2], [228, 0]]),
  (100, .aload_n 0, 1, 0, []),
  (101, .aload_n 0, 1, 0, []),
  (102, .getfield 91, 3, 0, [[9, 0], [2], [234, 0]]),
  (105, .putfield 38, 3, 0, [[8, 0], [2], [232, 0]]),
  (108, .iload_n 1, 1, 0, []),
  (109, .ireturn, 1, 0, [[0]])]
/-- 20: SoldWeather$Course.fortuneNext()I -/
def m_X2_fortuneNext : List aI := [
  (0, .aload_n 0, 1, 0, []),
  (1, .getfield 24, 3, 0, [[0, 0], [2], [217, 0]]),
  (4, .aload_n 0, 1, 0, []),
  (5, .getfield 42, 3, 0, [[6, 0], [2], [223, 0]]),
  (8, .invokevirtual 116, 3, 0, [[0, 1], [10, 73, 0, 656, 424, 425, 61]]),
  (11, .ireturn, 1, 0, [[0]])]
/-- 21: SoldWeather$Course.purseOf(I)I -/
def m_X2_purseOf : List aI := [
  (0, .aload_n 0, 1, 0, []),
  (1, .getfield 9, 3, 0, [[1, 0], [2], [218, 0]]),
  (4, .iload_n 1, 1, 0, []),
  (5, .iaload, 1, 0, []),
  (6, .ireturn, 1, 0, [[0]])]
/-- 22: SoldWeather$Course.bidOf(II)I -/
def m_X2_bidOf : List aI := [
  (0, .aload_n 0, 1, 0, []),
  (1, .getfield 15, 3, 0, [[2, 0], [2], [219, 0]]),
  (4, .iload_n 1, 1, 0, []),
  (5, .iconst 4, 1, 4, []),
  (6, .imul, 1, 0, []),
  (7, .iload_n 2, 1, 0, []),
  (8, .iadd, 1, 0, []),
  (9, .iaload, 1, 0, []),
  (10, .ireturn, 1, 0, [[0]])]
/-- 23: SoldWeather$Course.bidsFor(I)I -/
def m_X2_bidsFor : List aI := [
  (0, .aload_n 0, 1, 0, []),
  (1, .getfield 18, 3, 0, [[3, 0], [2], [220, 0]]),
  (4, .iload_n 1, 1, 0, []),
  (5, .iaload, 1, 0, []),
  (6, .ireturn, 1, 0, [[0]])]
/-- 24: SoldWeather$Course.gain(I)I -/
def m_X2_gain : List aI := [
  (0, .aload_n 0, 1, 0, []),
  (1, .iload_n 1, 1, 0, []),
  (2, .aload_n 0, 1, 0, []),
  (3, .getfield 91, 3, 0, [[9, 0], [2], [234, 0]]),
  (6, .invokevirtual 119, 3, 0, [[0, 2], [2, 29, 0, 722, 636, 637, 63]]),
  (9, .aload_n 0, 1, 0, []),
  (10, .iload_n 1, 1, 0, []),
  (11, .invokevirtual 110, 3, 0, [[0, 1], [2, 16, 0, 662, 663, 664, 63]]),
  (14, .isub, 1, 0, []),
  (15, .ireturn, 1, 0, [[0]])]
/-- 25: SoldWeather$Course.gainByLie(III)I -/
def m_X2_gainByLie : List aI := [
  (0, .iload_n 1, 1, 0, []),
  (1, .iconst 4, 1, 4, []),
  (2, .imul, 1, 0, []),
  (3, .iload_n 2, 1, 0, []),
  (4, .iadd, 1, 0, []),
  (5, .istore 4, 2, 0, []),
  (7, .aload_n 0, 1, 0, []),
  (8, .getfield 15, 3, 0, [[2, 0], [2], [219, 0]]),
  (11, .iload 4, 2, 0, []),
  (13, .iaload, 1, 0, []),
  (14, .istore 5, 2, 0, []),
  (16, .aload_n 0, 1, 0, []),
  (17, .getfield 15, 3, 0, [[2, 0], [2], [219, 0]]),
  (20, .iload 4, 2, 0, []),
  (22, .iload_n 3, 1, 0, []),
  (23, .iastore, 1, 0, []),
  (24, .aload_n 0, 1, 0, []),
  (25, .invokevirtual 57, 3, 0, [[0, 0], [2, 15, 0, 649, 650, 13, 63]]),
  (28, .aload_n 0, 1, 0, []),
  (29, .iload_n 1, 1, 0, []),
  (30, .invokevirtual 122, 3, 0, [[0, 1], [2, 24, 0, 728, 719, 720, 63]]),
  (33, .istore 6, 2, 0, []),
  (35, .aload_n 0, 1, 0, []),
  (36, .getfield 15, 3, 0, [[2, 0], [2], [219, 0]]),
  (39, .iload 4, 2, 0, []),
  (41, .iload 5, 2, 0, []),
  (43, .iastore, 1, 0, []),
  (44, .iload 6, 2, 0, []),
  (46, .ireturn, 1, 0, [[0]])]
/-- 26: SoldWeather$Course.gainTogether(II)I -/
def m_X2_gainTogether : List aI := [
  (0, .iconst 0, 1, 0, []),
  (1, .istore_n 3, 1, 0, []),
  (2, .iload_n 3, 1, 0, []),
  (3, .iconst 4, 1, 4, []),
  (4, .if_icmp .ge 42, 3, 0, [[29]]),
  (7, .aload_n 0, 1, 0, []),
  (8, .iload_n 1, 1, 0, []),
  (9, .iload_n 3, 1, 0, []),
  (10, .invokevirtual 119, 3, 0, [[0, 2], [2, 29, 0, 722, 636, 637, 63]]),
  (13, .aload_n 0, 1, 0, []),
  (14, .iload_n 2, 1, 0, []),
  (15, .iload_n 3, 1, 0, []),
  (16, .invokevirtual 119, 3, 0, [[0, 2], [2, 29, 0, 722, 636, 637, 63]]),
  (19, .iadd, 1, 0, []),
  (20, .iconst 2, 1, 2, []),
  (21, .idiv, 1, 0, []),
  (22, .istore 4, 2, 0, []),
  (24, .aload_n 0, 1, 0, []),
  (25, .iload_n 1, 1, 0, []),
  (26, .iload_n 3, 1, 0, []),
  (27, .iload 4, 2, 0, []),
  (29, .invokevirtual 70, 3, 0, [[0, 3], [2, 14, 0, 626, 627, 12, 63]]),
  (32, .aload_n 0, 1, 0, []),
  (33, .iload_n 2, 1, 0, []),
  (34, .iload_n 3, 1, 0, []),
  (35, .iload 4, 2, 0, []),
  (37, .invokevirtual 70, 3, 0, [[0, 3], [2, 14, 0, 626, 627, 12, 63]]),
  (40, .iinc 3 1, 3, 1, []),
  (43, .goto (-41), 3, 0, [[2]]),
  (46, .aload_n 0, 1, 0, []),
  (47, .invokevirtual 57, 3, 0, [[0, 0], [2, 15, 0, 649, 650, 13, 63]]),
  (50, .aload_n 0, 1, 0, []),
  (51, .iload_n 1, 1, 0, []),
  (52, .invokevirtual 122, 3, 0, [[0, 1], [2, 24, 0, 728, 719, 720, 63]]),
  (55, .aload_n 0, 1, 0, []),
  (56, .iload_n 2, 1, 0, []),
  (57, .invokevirtual 122, 3, 0, [[0, 1], [2, 24, 0, 728, 719, 720, 63]]),
  (60, .iadd, 1, 0, []),
  (61, .istore_n 3, 1, 0, []),
  (62, .aload_n 0, 1, 0, []),
  (63, .iload_n 1, 1, 0, []),
  (64, .invokevirtual 53, 3, 0, [[0, 1], [2, 13, 0, 648, 567, 568, 63]]),
  (67, .aload_n 0, 1, 0, []),
  (68, .iload_n 2, 1, 0, []),
  (69, .invokevirtual 53, 3, 0, [[0, 1], [2, 13, 0, 648, 567, 568, 63]]),
  (72, .iload_n 3, 1, 0, []),
  (73, .ireturn, 1, 0, [[0]])]
/-- 27: SoldWeather$Course.rowOf(II)I -/
def m_X2_rowOf : List aI := [
  (0, .aload_n 0, 1, 0, []),
  (1, .getfield 24, 3, 0, [[0, 0], [2], [217, 0]]),
  (4, .getfield 125, 3, 0, [[11, 0], [10], [123, 0]]),
  (7, .iload_n 1, 1, 0, []),
  (8, .iconst 4, 1, 4, []),
  (9, .imul, 1, 0, []),
  (10, .iload_n 2, 1, 0, []),
  (11, .iadd, 1, 0, []),
  (12, .iaload, 1, 0, []),
  (13, .ireturn, 1, 0, [[0]])]
/-- 28: SoldWeather$Course.one(I)LSoldWeather$Bidder; -/
def m_X2_one : List aI := [
  (0, .aload_n 0, 1, 0, []),
  (1, .getfield 24, 3, 0, [[0, 0], [2], [217, 0]]),
  (4, .iload_n 1, 1, 0, []),
  (5, .invokevirtual 60, 3, 0, [[0, 1], [10, 70, 0, 570, 550, 551, 61]]),
  (8, .areturn, 1, 0, [])]
/-- 29: SoldWeather$Course.worthTo(II)I -/
def m_X2_worthTo : List aI := [
  (0, .aload_n 0, 1, 0, []),
  (1, .aload_n 0, 1, 0, []),
  (2, .getfield 24, 3, 0, [[0, 0], [2], [217, 0]]),
  (5, .iload_n 1, 1, 0, []),
  (6, .invokevirtual 60, 3, 0, [[0, 1], [10, 70, 0, 570, 550, 551, 61]]),
  (9, .iload_n 2, 1, 0, []),
  (10, .aload_n 0, 1, 0, []),
  (11, .getfield 34, 3, 0, [[7, 0], [2], [228, 0]]),
  (14, .aload_n 0, 1, 0, []),
  (15, .getfield 38, 3, 0, [[8, 0], [2], [232, 0]]),
  (18, .invokevirtual 128, 3, 0, [[0, 4], [2, 32, 0, 639, 579, 580, 63]]),
  (21, .ireturn, 1, 0, [[0]])]
/-- 30: SoldWeather$Course.worthToAll(I)I -/
def m_X2_worthToAll : List aI := [
  (0, .aload_n 0, 1, 0, []),
  (1, .iload_n 1, 1, 0, []),
  (2, .aload_n 0, 1, 0, []),
  (3, .getfield 34, 3, 0, [[7, 0], [2], [228, 0]]),
  (6, .aload_n 0, 1, 0, []),
  (7, .getfield 38, 3, 0, [[8, 0], [2], [232, 0]]),
  (10, .invokevirtual 132, 3, 0, [[0, 3], [2, 31, 0, 701, 702, 703, 63]]),
  (13, .ireturn, 1, 0, [[0]])]
/-- 31: SoldWeather$Course.worthToAllOn(III)I -/
def m_X2_worthToAllOn : List aI := [
  (0, .iconst 0, 1, 0, []),
  (1, .istore 4, 2, 0, []),
  (3, .iconst 0, 1, 0, []),
  (4, .istore 5, 2, 0, []),
  (6, .iload 5, 2, 0, []),
  (8, .aload_n 0, 1, 0, []),
  (9, .getfield 24, 3, 0, [[0, 0], [2], [217, 0]]),
  (12, .getfield 50, 3, 0, [[12, 0], [10], [125, 0]]),
  (15, .if_icmp .ge 30, 3, 0, [[23]]),
  (18, .iload 4, 2, 0, []),
  (20, .aload_n 0, 1, 0, []),
  (21, .aload_n 0, 1, 0, []),
  (22, .getfield 24, 3, 0, [[0, 0], [2], [217, 0]]),
  (25, .iload 5, 2, 0, []),
  (27, .invokevirtual 60, 3, 0, [[0, 1], [10, 70, 0, 570, 550, 551, 61]]),
  (30, .iload_n 1, 1, 0, []),
  (31, .iload_n 2, 1, 0, []),
  (32, .iload_n 3, 1, 0, []),
  (33, .invokevirtual 128, 3, 0, [[0, 4], [2, 32, 0, 639, 579, 580, 63]]),
  (36, .iadd, 1, 0, []),
  (37, .istore 4, 2, 0, []),
  (39, .iinc 5 1, 3, 1, []),
  (42, .goto (-36), 3, 0, [[4]]),
  (45, .iload 4, 2, 0, []),
  (47, .ireturn, 1, 0, [[0]])]
/-- 32: SoldWeather$Course.worth(LSoldWeather$Bidder;III)I -/
def m_X2_worth : List aI := [
  (0, .aload_n 0, 1, 0, []),
  (1, .getfield 24, 3, 0, [[0, 0], [2], [217, 0]]),
  (4, .getfield 136, 3, 0, [[3, 0], [10], [102, 0]]),
  (7, .astore 5, 2, 0, []),
  (9, .aload 5, 2, 0, []),
  (11, .ifnull 7, 3, 0, [[8]]),
  (14, .aload_n 1, 1, 0, []),
  (15, .ifnonnull 5, 3, 0, [[10]]),
  (18, .iconst 0, 1, 0, []),
  (19, .ireturn, 1, 0, [[0]]),
  (20, .aload_n 0, 1, 0, []),
  (21, .getfield 21, 3, 0, [[4, 0], [2], [221, 0]]),
  (24, .iconst 0, 1, 0, []),
  (25, .iload_n 2, 1, 0, []),
  (26, .iastore, 1, 0, []),
  (27, .aload_n 0, 1, 0, []),
  (28, .getfield 21, 3, 0, [[4, 0], [2], [221, 0]]),
  (31, .iconst 1, 1, 1, []),
  (32, .iload 4, 2, 0, []),
  (34, .iastore, 1, 0, []),
  (35, .aload_n 0, 1, 0, []),
  (36, .getfield 21, 3, 0, [[4, 0], [2], [221, 0]]),
  (39, .iconst 2, 1, 2, []),
  (40, .iload_n 3, 1, 0, []),
  (41, .bipush 7, 2, 7, []),
  (43, .irem, 1, 0, []),
  (44, .iastore, 1, 0, []),
  (45, .aload_n 0, 1, 0, []),
  (46, .getfield 21, 3, 0, [[4, 0], [2], [221, 0]]),
  (49, .iconst 3, 1, 3, []),
  (50, .aload_n 1, 1, 0, []),
  (51, .getfield 140, 3, 0, [[1, 0], [0, 1, 3, 4, 6, 7, 8], [468, 0]]),
  (54, .iastore, 1, 0, []),
  (55, .aload_n 0, 1, 0, []),
  (56, .getfield 21, 3, 0, [[4, 0], [2], [221, 0]]),
  (59, .iconst 4, 1, 4, []),
  (60, .aload_n 1, 1, 0, []),
  (61, .getfield 143, 3, 0, [[0, 0], [0, 1, 3, 4, 6, 7, 8], [458, 0]]),
  (64, .iastore, 1, 0, []),
  (65, .aload 5, 2, 0, []),
  (67, .aload_n 0, 1, 0, []),
  (68, .getfield 21, 3, 0, [[4, 0], [2], [221, 0]]),
  (71, .invokevirtual 146, 3, 0, [[0, 1], [9, 65, 0, 582, 583, 584, 70]]),
  (74, .ireturn, 1, 0, [[0]])]
/-- 33: SoldWeather$League.<init>(III)V -/
def m_X3_init : List aI := [
  (0, .aload_n 0, 1, 0, []),
  (1, .iload_n 1, 1, 0, []),
  (2, .iload_n 2, 1, 0, []),
  (3, .iload_n 3, 1, 0, []),
  (4, .invokespecial 1, 3, 0, [[0, 3, 3], [493, 453, 72]]),
  (7, .return_, 1, 0, [])]
/-- 34: SoldWeather$League.wish(LSoldWeather$Course;I)I -/
def m_X3_wish : List aI := [
  (0, .aload_n 1, 1, 0, []),
  (1, .aload_n 0, 1, 0, []),
  (2, .iload_n 2, 1, 0, []),
  (3, .aload_n 1, 1, 0, []),
  (4, .getfield 7, 3, 0, [[7, 0], [2], [226, 0]]),
  (7, .aload_n 1, 1, 0, []),
  (8, .getfield 13, 3, 0, [[8, 0], [2], [230, 0]]),
  (11, .invokevirtual 16, 3, 0, [[0, 4], [2, 32, 0, 595, 579, 580, 63]]),
  (14, .istore_n 3, 1, 0, []),
  (15, .aload_n 1, 1, 0, []),
  (16, .aload_n 0, 1, 0, []),
  (17, .getfield 20, 3, 0, [[2, 0], [0, 1, 3, 4, 6, 7, 8], [474, 475]]),
  (20, .invokevirtual 25, 3, 0, [[0, 1], [2, 28, 0, 596, 597, 598, 63]]),
  (23, .astore 4, 2, 0, []),
  (25, .aload_n 0, 1, 0, []),
  (26, .getfield 20, 3, 0, [[2, 0], [0, 1, 3, 4, 6, 7, 8], [474, 475]]),
  (29, .aload_n 0, 1, 0, []),
  (30, .getfield 29, 3, 0, [[1, 0], [0, 1, 3, 4, 6, 7, 8], [464, 465]]),
  (33, .if_icmp .eq 11, 3, 0, [[22]]),
  (36, .aload 4, 2, 0, []),
  (38, .instanceof 21, 3, 0, [[3, 7, 8], [0, 1, 4, 6], [600]]),
  (41, .ifCond .ne 5, 3, 0, [[24]]),
  (44, .iload_n 3, 1, 0, []),
  (45, .ireturn, 1, 0, [[0]]),
  (46, .iload_n 3, 1, 0, []),
  (47, .aload_n 1, 1, 0, []),
  (48, .aload 4, 2, 0, []),
  (50, .iload_n 2, 1, 0, []),
  (51, .aload_n 1, 1, 0, []),
  (52, .getfield 7, 3, 0, [[7, 0], [2], [226, 0]]),
  (55, .aload_n 1, 1, 0, []),
  (56, .getfield 13, 3, 0, [[8, 0], [2], [230, 0]]),
  (59, .invokevirtual 16, 3, 0, [[0, 4], [2, 32, 0, 595, 579, 580, 63]]),
  (62, .iadd, 1, 0, []),
  (63, .iconst 2, 1, 2, []),
  (64, .idiv, 1, 0, []),
  (65, .ireturn, 1, 0, [[0]])]
/-- 35: SoldWeather$League.pays(I[I)I -/
def m_X3_pays : List aI := [
  (0, .aload_n 2, 1, 0, []),
  (1, .bipush 21, 2, 21, []),
  (3, .invokestatic 32, 3, 0, [[6, 8, 2], [815, 816, 793, 72]]),
  (6, .aload_n 0, 1, 0, []),
  (7, .iload_n 1, 1, 0, []),
  (8, .aload_n 2, 1, 0, []),
  (9, .invokespecial 36, 3, 0, [[2, 6, 2], [817, 810, 497, 808, 72]]),
  (12, .ineg, 1, 0, []),
  (13, .ireturn, 1, 0, [[0]])]
/-- 36: SoldWeather$Low.<init>(III)V -/
def m_X4_init : List aI := [
  (0, .aload_n 0, 1, 0, []),
  (1, .iload_n 1, 1, 0, []),
  (2, .iload_n 2, 1, 0, []),
  (3, .iload_n 3, 1, 0, []),
  (4, .invokespecial 1, 3, 0, [[0, 3, 3], [452, 453, 72]]),
  (7, .return_, 1, 0, [])]
/-- 37: SoldWeather$Low.wish(LSoldWeather$Course;I)I -/
def m_X4_wish : List aI := [
  (0, .aload_n 1, 1, 0, []),
  (1, .aload_n 0, 1, 0, []),
  (2, .iload_n 2, 1, 0, []),
  (3, .aload_n 1, 1, 0, []),
  (4, .getfield 7, 3, 0, [[7, 0], [2], [227, 0]]),
  (7, .aload_n 1, 1, 0, []),
  (8, .getfield 13, 3, 0, [[8, 0], [2], [231, 0]]),
  (11, .invokevirtual 16, 3, 0, [[0, 4], [2, 32, 0, 604, 579, 580, 63]]),
  (14, .istore_n 3, 1, 0, []),
  (15, .aload_n 0, 1, 0, []),
  (16, .getfield 20, 3, 0, [[2, 0], [0, 1, 3, 4, 6, 7, 8], [472, 473]]),
  (19, .ifCond .ge 7, 3, 0, [[14]]),
  (22, .iload_n 3, 1, 0, []),
  (23, .goto 11, 3, 0, [[20]]),
  (26, .iload_n 3, 1, 0, []),
  (27, .aload_n 0, 1, 0, []),
  (28, .getfield 20, 3, 0, [[2, 0], [0, 1, 3, 4, 6, 7, 8], [472, 473]]),
  (31, .iconst 1, 1, 1, []),
  (32, .iadd, 1, 0, []),
  (33, .idiv, 1, 0, []),
  (34, .ireturn, 1, 0, [[0]])]
/-- 38: SoldWeather$Low.bids(I[I)I -/
def m_X4_bids : List aI := [
  (0, .aload_n 2, 1, 0, []),
  (1, .bipush 11, 2, 11, []),
  (3, .invokestatic 25, 3, 0, [[6, 8, 2], [791, 792, 793, 72]]),
  (6, .aload_n 0, 1, 0, []),
  (7, .iload_n 1, 1, 0, []),
  (8, .iconst 3, 1, 3, []),
  (9, .imul, 1, 0, []),
  (10, .aload_n 2, 1, 0, []),
  (11, .invokespecial 29, 3, 0, [[2, 5, 2], [795, 785, 487, 783, 72]]),
  (14, .ireturn, 1, 0, [[0]])]
/-- 39: SoldWeather$Reader.<init>([I)V -/
def m_X5_init : List aI := [
  (0, .aload_n 0, 1, 0, []),
  (1, .invokespecial 3, 3, 0, [[1], [176, 85, 86]]),
  (4, .aload_n 0, 1, 0, []),
  (5, .bipush 120, 2, 120, []),
  (7, .newarray .int, 2, 0, [[170]]),
  (9, .putfield 9, 3, 0, [[0, 2], [5], [177, 0]]),
  (12, .aload_n 0, 1, 0, []),
  (13, .bipush 10, 2, 10, []),
  (15, .newarray .int, 2, 0, [[170]]),
  (17, .putfield 15, 3, 0, [[1, 2], [5], [178, 0]]),
  (20, .aload_n 0, 1, 0, []),
  (21, .bipush 10, 2, 10, []),
  (23, .newarray .int, 2, 0, [[170]]),
  (25, .putfield 18, 3, 0, [[2, 2], [5], [179, 0]]),
  (28, .aload_n 0, 1, 0, []),
  (29, .aload_n 1, 1, 0, []),
  (30, .putfield 21, 3, 0, [[7, 2], [5], [184, 0]]),
  (33, .return_, 1, 0, [])]
/-- 40: SoldWeather$Reader.faultOf(I)I -/
def m_X5_faultOf : List aI := [
  (0, .aload_n 0, 1, 0, []),
  (1, .iload_n 1, 1, 0, []),
  (2, .aload_n 0, 1, 0, []),
  (3, .getfield 21, 3, 0, [[7, 0], [5], [184, 0]]),
  (6, .arraylength, 1, 0, []),
  (7, .invokestatic 24, 3, 0, [[2], [294, 295, 65, 296]]),
  (10, .putfield 30, 3, 0, [[8, 0], [5], [185, 0]]),
  (13, .aload_n 0, 1, 0, []),
  (14, .iconst (-1), 1, (-1), []),
  (15, .putfield 34, 3, 0, [[9, 0], [5], [186, 0]]),
  (18, .aload_n 0, 1, 0, []),
  (19, .invokevirtual 37, 3, 0, [[0, 0], [5, 43, 0, 297, 298, 1, 62]]),
  (22, .aload_n 0, 1, 0, []),
  (23, .iconst 0, 1, 0, []),
  (24, .putfield 40, 3, 0, [[3, 0], [5], [180, 0]]),
  (27, .aload_n 0, 1, 0, []),
  (28, .iconst 0, 1, 0, []),
  (29, .putfield 43, 3, 0, [[4, 0], [5], [181, 0]]),
  (32, .aload_n 0, 1, 0, []),
  (33, .iconst 0, 1, 0, []),
  (34, .putfield 46, 3, 0, [[5, 0], [5], [182, 0]]),
  (37, .aload_n 0, 1, 0, []),
  (38, .iconst 0, 1, 0, []),
  (39, .putfield 49, 3, 0, [[6, 0], [5], [183, 0]]),
  (42, .iconst 0, 1, 0, []),
  (43, .istore_n 2, 1, 0, []),
  (44, .iload_n 2, 1, 0, []),
  (45, .bipush 10, 2, 10, []),
  (47, .if_icmp .ge 55, 3, 0, [[55]]),
  (50, .aload_n 0, 1, 0, []),
  (51, .invokevirtual 52, 3, 0, [[0, 0], [5, 44, 0, 300, 301, 2, 62]]),
  (54, .ifCond .ne 8, 3, 0, [[35]]),
  (57, .aload_n 0, 1, 0, []),
  (58, .getfield 34, 3, 0, [[9, 0], [5], [186, 0]]),
  (61, .ireturn, 1, 0, [[0]]),
  (62, .aload_n 0, 1, 0, []),
  (63, .getfield 56, 3, 0, [[10, 0], [5], [187, 0]]),
  (66, .iconst (-1), 1, (-1), []),
  (67, .if_icmp .ne 5, 3, 0, [[41]]),
  (70, .iconst (-1), 1, (-1), []),
  (71, .ireturn, 1, 0, [[0]]),
  (72, .aload_n 0, 1, 0, []),
  (73, .getfield 56, 3, 0, [[10, 0], [5], [187, 0]]),
  (76, .bipush 59, 2, 59, []),
  (78, .if_icmp .ne 9, 3, 0, [[48]]),
  (81, .iload_n 2, 1, 0, []),
  (82, .bipush 9, 2, 9, []),
  (84, .if_icmp .ne 8, 3, 0, [[51]]),
  (87, .aload_n 0, 1, 0, []),
  (88, .getfield 34, 3, 0, [[9, 0], [5], [186, 0]]),
  (91, .ireturn, 1, 0, [[0]]),
  (92, .aload_n 0, 1, 0, []),
  (93, .invokevirtual 37, 3, 0, [[0, 0], [5, 43, 0, 297, 298, 1, 62]]),
  (96, .iinc 2 1, 3, 1, []),
  (99, .goto (-55), 3, 0, [[26]]),
  (102, .aload_n 0, 1, 0, []),
  (103, .getfield 34, 3, 0, [[9, 0], [5], [186, 0]]),
  (106, .ireturn, 1, 0, [[0]])]
/-- 41: SoldWeather$Reader.made()LSoldWeather$Valley; -/
def m_X5_made : List aI := [
  (0, .new 59, 3, 0, [[9], [380, 381, 70]]),
  (3, .dup, 1, 0, []),
  (4, .aload_n 0, 1, 0, []),
  (5, .getfield 9, 3, 0, [[0, 0], [5], [177, 0]]),
  (8, .aload_n 0, 1, 0, []),
  (9, .getfield 40, 3, 0, [[3, 0], [5], [180, 0]]),
  (12, .invokestatic 61, 3, 0, [[0, 42, 2], [382, 383, 62]]),
  (15, .aload_n 0, 1, 0, []),
  (16, .getfield 15, 3, 0, [[1, 0], [5], [178, 0]]),
  (19, .aload_n 0, 1, 0, []),
  (20, .getfield 43, 3, 0, [[4, 0], [5], [181, 0]]),
  (23, .invokestatic 61, 3, 0, [[0, 42, 2], [382, 383, 62]]),
  (26, .aload_n 0, 1, 0, []),
  (27, .getfield 18, 3, 0, [[2, 0], [5], [179, 0]]),
  (30, .aload_n 0, 1, 0, []),
  (31, .getfield 43, 3, 0, [[4, 0], [5], [181, 0]]),
  (34, .invokestatic 61, 3, 0, [[0, 42, 2], [382, 383, 62]]),
  (37, .aload_n 0, 1, 0, []),
  (38, .getfield 46, 3, 0, [[5, 0], [5], [182, 0]]),
  (41, .aload_n 0, 1, 0, []),
  (42, .getfield 49, 3, 0, [[6, 0], [5], [183, 0]]),
  (45, .invokespecial 65, 3, 0, [[0, 64, 5], [388, 389, 70]]),
  (48, .areturn, 1, 0, [])]
/-- 42: SoldWeather$Reader.head([II)[I -/
def m_X5_head : List aI := [
  (0, .iload_n 1, 1, 0, []),
  (1, .newarray .int, 2, 0, [[170]]),
  (3, .astore_n 2, 1, 0, []),
  (4, .aload_n 0, 1, 0, []),
  (5, .iconst 0, 1, 0, []),
  (6, .aload_n 2, 1, 0, []),
  (7, .iconst 0, 1, 0, []),
  (8, .iload_n 1, 1, 0, []),
  (9, .invokestatic 68, 3, 0, [[3], [385, 387, 386, 71]]),
  (12, .aload_n 2, 1, 0, []),
  (13, .areturn, 1, 0, [])]
/-- 43: SoldWeather$Reader.step()V -/
def m_X5_step : List aI := [
  (0, .aload_n 0, 1, 0, []),
  (1, .dup, 1, 0, []),
  (2, .getfield 34, 3, 0, [[9, 0], [5], [186, 0]]),
  (5, .iconst 1, 1, 1, []),
  (6, .iadd, 1, 0, []),
  (7, .putfield 34, 3, 0, [[9, 0], [5], [186, 0]]),
  (10, .aload_n 0, 1, 0, []),
  (11, .aload_n 0, 1, 0, []),
  (12, .getfield 34, 3, 0, [[9, 0], [5], [186, 0]]),
  (15, .aload_n 0, 1, 0, []),
  (16, .getfield 30, 3, 0, [[8, 0], [5], [185, 0]]),
  (19, .if_icmp .ge 15, 3, 0, [[18]]),
  (22, .aload_n 0, 1, 0, []),
  (23, .getfield 21, 3, 0, [[7, 0], [5], [184, 0]]),
  (26, .aload_n 0, 1, 0, []),
  (27, .getfield 34, 3, 0, [[9, 0], [5], [186, 0]]),
  (30, .iaload, 1, 0, []),
  (31, .goto 4, 3, 0, [[19]]),
  (34, .iconst (-1), 1, (-1), []),
  (35, .putfield 56, 3, 0, [[10, 0], [5], [187, 0]]),
  (38, .return_, 1, 0, [])]
/-- 44: SoldWeather$Reader.clause()Z -/
def m_X5_clause : List aI := [
  (0, .aload_n 0, 1, 0, []),
  (1, .getfield 56, 3, 0, [[10, 0], [5], [187, 0]]),
  (4, .istore_n 1, 1, 0, []),
  (5, .aload_n 0, 1, 0, []),
  (6, .iload_n 1, 1, 0, []),
  (7, .invokestatic 74, 3, 0, [[0, 45, 1], [303, 304, 62]]),
  (10, .invokevirtual 78, 3, 0, [[0, 1], [5, 46, 0, 306, 307, 3, 62]]),
  (13, .ifCond .ne 5, 3, 0, [[10]]),
  (16, .iconst 0, 1, 0, []),
  (17, .ireturn, 1, 0, [[1]]),
  (18, .iload_n 1, 1, 0, []),
  (19, .bipush 114, 2, 114, []),
  (21, .if_icmp .ne 10, 3, 0, [[16]]),
  (24, .aload_n 0, 1, 0, []),
  (25, .invokevirtual 82, 3, 0, [[0, 0], [5, 47, 0, 352, 353, 4, 62]]),
  (28, .goto 7, 3, 0, [[18]]),
  (31, .aload_n 0, 1, 0, []),
  (32, .invokevirtual 86, 3, 0, [[0, 0], [5, 48, 0, 355, 356, 5, 62]]),
  (35, .istore_n 2, 1, 0, []),
  (36, .iload_n 2, 1, 0, []),
  (37, .ifCond .ge 5, 3, 0, [[23]]),
  (40, .iconst 0, 1, 0, []),
  (41, .ireturn, 1, 0, [[1]]),
  (42, .iload_n 1, 1, 0, []),
  (43, .bipush 114, 2, 114, []),
  (45, .if_icmp .ne 10, 3, 0, [[31]]),
  (48, .aload_n 0, 1, 0, []),
  (49, .iload_n 2, 1, 0, []),
  (50, .putfield 46, 3, 0, [[5, 0], [5], [182, 0]]),
  (53, .iconst 1, 1, 1, []),
  (54, .ireturn, 1, 0, [[1]]),
  (55, .iload_n 1, 1, 0, []),
  (56, .bipush 103, 2, 103, []),
  (58, .if_icmp .ne 10, 3, 0, [[39]]),
  (61, .aload_n 0, 1, 0, []),
  (62, .iload_n 2, 1, 0, []),
  (63, .putfield 49, 3, 0, [[6, 0], [5], [183, 0]]),
  (66, .iconst 1, 1, 1, []),
  (67, .ireturn, 1, 0, [[1]]),
  (68, .aload_n 0, 1, 0, []),
  (69, .ldc 89, 2, 0, [[4], [4]]),
  (71, .invokevirtual 78, 3, 0, [[0, 1], [5, 46, 0, 306, 307, 3, 62]]),
  (74, .ifCond .eq 34, 3, 0, [[59]]),
  (77, .aload_n 0, 1, 0, []),
  (78, .iconst 0, 1, 0, []),
  (79, .invokevirtual 91, 3, 0, [[0, 1], [5, 50, 0, 358, 359, 6, 62]]),
  (82, .ifCond .eq 26, 3, 0, [[59]]),
  (85, .aload_n 0, 1, 0, []),
  (86, .iload_n 1, 1, 0, []),
  (87, .bipush 119, 2, 119, []),
  (89, .if_icmp .ne 7, 3, 0, [[53]]),
  (92, .iload_n 2, 1, 0, []),
  (93, .goto 5, 3, 0, [[55]]),
  (96, .iload_n 2, 1, 0, []),
  (97, .ineg, 1, 0, []),
  (98, .invokevirtual 95, 3, 0, [[0, 1], [5, 49, 0, 373, 374, 10, 62]]),
  (101, .ifCond .eq 7, 3, 0, [[59]]),
  (104, .iconst 1, 1, 1, []),
  (105, .goto 4, 3, 0, [[60]]),
  (108, .iconst 0, 1, 0, []),
  (109, .ireturn, 1, 0, [[1]])]
/-- 45: SoldWeather$Reader.wordOf(I)Ljava/lang/String; -/
def m_X5_wordOf : List aI := [
  (0, .iload_n 0, 1, 0, []),
  (1, .lookupswitch 44 #[(103, 41), (104, 35), (114, 38)], 35, 0, [[8], [6, 2, 4]]),
  (36, .ldc 98, 2, 0, [[0], [0]]),
  (38, .areturn, 1, 0, []),
  (39, .ldc 100, 2, 0, [[1], [1]]),
  (41, .areturn, 1, 0, []),
  (42, .ldc 102, 2, 0, [[2], [2]]),
  (44, .areturn, 1, 0, []),
  (45, .ldc 104, 2, 0, [[3], [3]]),
  (47, .areturn, 1, 0, [])]
/-- 46: SoldWeather$Reader.word(Ljava/lang/String;)Z -/
def m_X5_word : List aI := [
  (0, .iconst 0, 1, 0, []),
  (1, .istore_n 2, 1, 0, []),
  (2, .iload_n 2, 1, 0, []),
  (3, .aload_n 1, 1, 0, []),
  (4, .invokevirtual 106, 3, 0, [[5, 182, 0], [309, 310, 311, 66]]),
  (7, .if_icmp .ge 27, 3, 0, [[18]]),
  (10, .aload_n 0, 1, 0, []),
  (11, .getfield 56, 3, 0, [[10, 0], [5], [187, 0]]),
  (14, .aload_n 1, 1, 0, []),
  (15, .iload_n 2, 1, 0, []),
  (16, .invokevirtual 111, 3, 0, [[5, 183, 1], [318, 319, 320, 66]]),
  (19, .if_icmp .eq 5, 3, 0, [[14]]),
  (22, .iconst 0, 1, 0, []),
  (23, .ireturn, 1, 0, [[1]]),
  (24, .aload_n 0, 1, 0, []),
  (25, .invokevirtual 37, 3, 0, [[0, 0], [5, 43, 0, 297, 298, 1, 62]]),
  (28, .iinc 2 1, 3, 1, []),
  (31, .goto (-29), 3, 0, [[2]]),
  (34, .iconst 1, 1, 1, []),
  (35, .ireturn, 1, 0, [[1]])]
/-- 47: SoldWeather$Reader.ruleNumber()I -/
def m_X5_ruleNumber : List aI := [
  (0, .aload_n 0, 1, 0, []),
  (1, .getfield 56, 3, 0, [[10, 0], [5], [187, 0]]),
  (4, .bipush 48, 2, 48, []),
  (6, .if_icmp .lt 12, 3, 0, [[8]]),
  (9, .aload_n 0, 1, 0, []),
  (10, .getfield 56, 3, 0, [[10, 0], [5], [187, 0]]),
  (13, .bipush 50, 2, 50, []),
  (15, .if_icmp .le 5, 3, 0, [[10]]),
  (18, .iconst (-1), 1, (-1), []),
  (19, .ireturn, 1, 0, [[0]]),
  (20, .aload_n 0, 1, 0, []),
  (21, .getfield 56, 3, 0, [[10, 0], [5], [187, 0]]),
  (24, .bipush 48, 2, 48, []),
  (26, .isub, 1, 0, []),
  (27, .istore_n 1, 1, 0, []),
  (28, .aload_n 0, 1, 0, []),
  (29, .invokevirtual 37, 3, 0, [[0, 0], [5, 43, 0, 297, 298, 1, 62]]),
  (32, .iload_n 1, 1, 0, []),
  (33, .ireturn, 1, 0, [[0]])]
/-- 48: SoldWeather$Reader.number()I -/
def m_X5_number : List aI := [
  (0, .aload_n 0, 1, 0, []),
  (1, .getfield 56, 3, 0, [[10, 0], [5], [187, 0]]),
  (4, .bipush 48, 2, 48, []),
  (6, .if_icmp .lt 12, 3, 0, [[8]]),
  (9, .aload_n 0, 1, 0, []),
  (10, .getfield 56, 3, 0, [[10, 0], [5], [187, 0]]),
  (13, .bipush 57, 2, 57, []),
  (15, .if_icmp .le 5, 3, 0, [[10]]),
  (18, .iconst (-1), 1, (-1), []),
  (19, .ireturn, 1, 0, [[0]]),
  (20, .aload_n 0, 1, 0, []),
  (21, .getfield 56, 3, 0, [[10, 0], [5], [187, 0]]),
  (24, .bipush 48, 2, 48, []),
  (26, .isub, 1, 0, []),
  (27, .istore_n 1, 1, 0, []),
  (28, .aload_n 0, 1, 0, []),
  (29, .invokevirtual 37, 3, 0, [[0, 0], [5, 43, 0, 297, 298, 1, 62]]),
  (32, .iload_n 1, 1, 0, []),
  (33, .ifCond .eq 21, 3, 0, [[27]]),
  (36, .aload_n 0, 1, 0, []),
  (37, .getfield 56, 3, 0, [[10, 0], [5], [187, 0]]),
  (40, .bipush 48, 2, 48, []),
  (42, .if_icmp .lt 12, 3, 0, [[27]]),
  (45, .aload_n 0, 1, 0, []),
  (46, .getfield 56, 3, 0, [[10, 0], [5], [187, 0]]),
  (49, .bipush 57, 2, 57, []),
  (51, .if_icmp .le 5, 3, 0, [[29]]),
  (54, .iload_n 1, 1, 0, []),
  (55, .ireturn, 1, 0, [[0]]),
  (56, .iload_n 1, 1, 0, []),
  (57, .bipush 10, 2, 10, []),
  (59, .imul, 1, 0, []),
  (60, .aload_n 0, 1, 0, []),
  (61, .getfield 56, 3, 0, [[10, 0], [5], [187, 0]]),
  (64, .iadd, 1, 0, []),
  (65, .bipush 48, 2, 48, []),
  (67, .isub, 1, 0, []),
  (68, .istore_n 1, 1, 0, []),
  (69, .aload_n 0, 1, 0, []),
  (70, .invokevirtual 37, 3, 0, [[0, 0], [5, 43, 0, 297, 298, 1, 62]]),
  (73, .iload_n 1, 1, 0, []),
  (74, .ireturn, 1, 0, [[0]])]
/-- 49: SoldWeather$Reader.keepClause(I)Z -/
def m_X5_keepClause : List aI := [
  (0, .aload_n 0, 1, 0, []),
  (1, .getfield 43, 3, 0, [[4, 0], [5], [181, 0]]),
  (4, .bipush 10, 2, 10, []),
  (6, .if_icmp .lt 5, 3, 0, [[6]]),
  (9, .iconst 0, 1, 0, []),
  (10, .ireturn, 1, 0, [[1]]),
  (11, .aload_n 0, 1, 0, []),
  (12, .getfield 18, 3, 0, [[2, 0], [5], [179, 0]]),
  (15, .aload_n 0, 1, 0, []),
  (16, .getfield 43, 3, 0, [[4, 0], [5], [181, 0]]),
  (19, .iload_n 1, 1, 0, []),
  (20, .iastore, 1, 0, []),
  (21, .aload_n 0, 1, 0, []),
  (22, .getfield 15, 3, 0, [[1, 0], [5], [178, 0]]),
  (25, .aload_n 0, 1, 0, []),
  (26, .getfield 43, 3, 0, [[4, 0], [5], [181, 0]]),
  (29, .aload_n 0, 1, 0, []),
  (30, .getfield 40, 3, 0, [[3, 0], [5], [180, 0]]),
  (33, .iastore, 1, 0, []),
  (34, .aload_n 0, 1, 0, []),
  (35, .dup, 1, 0, []),
  (36, .getfield 43, 3, 0, [[4, 0], [5], [181, 0]]),
  (39, .iconst 1, 1, 1, []),
  (40, .iadd, 1, 0, []),
  (41, .putfield 43, 3, 0, [[4, 0], [5], [181, 0]]),
  (44, .iconst 1, 1, 1, []),
  (45, .ireturn, 1, 0, [[1]])]
/-- 50: SoldWeather$Reader.expression(I)Z -/
def m_X5_expression : List aI := [
  (0, .iconst 0, 1, 0, []),
  (1, .istore_n 2, 1, 0, []),
  (2, .iconst 0, 1, 0, []),
  (3, .istore_n 3, 1, 0, []),
  (4, .iconst 0, 1, 0, []),
  (5, .istore 4, 2, 0, []),
  (7, .iload 4, 2, 0, []),
  (9, .bipush 120, 2, 120, []),
  (11, .if_icmp .ge 97, 3, 0, [[59]]),
  (14, .aload_n 0, 1, 0, []),
  (15, .iload_n 1, 1, 0, []),
  (16, .invokevirtual 115, 3, 0, [[0, 1], [5, 51, 0, 361, 362, 7, 62]]),
  (19, .ifCond .ne 5, 3, 0, [[15]]),
  (22, .iconst 0, 1, 0, []),
  (23, .ireturn, 1, 0, [[1]]),
  (24, .iload_n 2, 1, 0, []),
  (25, .ifCond .eq 10, 3, 0, [[21]]),
  (28, .aload_n 0, 1, 0, []),
  (29, .bipush (-2), 2, (-2), []),
  (31, .invokevirtual 118, 3, 0, [[0, 1], [5, 54, 0, 370, 371, 9, 62]]),
  (34, .pop, 1, 0, []),
  (35, .aload_n 0, 1, 0, []),
  (36, .getfield 56, 3, 0, [[10, 0], [5], [187, 0]]),
  (39, .bipush 38, 2, 38, []),
  (41, .if_icmp .ne 7, 3, 0, [[27]]),
  (44, .iconst 1, 1, 1, []),
  (45, .goto 4, 3, 0, [[28]]),
  (48, .iconst 0, 1, 0, []),
  (49, .istore_n 2, 1, 0, []),
  (50, .iload_n 2, 1, 0, []),
  (51, .ifCond .ne 14, 3, 0, [[37]]),
  (54, .iload_n 3, 1, 0, []),
  (55, .ifCond .eq 10, 3, 0, [[37]]),
  (58, .aload_n 0, 1, 0, []),
  (59, .bipush (-3), 2, (-3), []),
  (61, .invokevirtual 118, 3, 0, [[0, 1], [5, 54, 0, 370, 371, 9, 62]]),
  (64, .pop, 1, 0, []),
  (65, .iload_n 2, 1, 0, []),
  (66, .ifCond .eq 7, 3, 0, [[41]]),
  (69, .iload_n 3, 1, 0, []),
  (70, .goto 17, 3, 0, [[48]]),
  (73, .aload_n 0, 1, 0, []),
  (74, .getfield 56, 3, 0, [[10, 0], [5], [187, 0]]),
  (77, .bipush 124, 2, 124, []),
  (79, .if_icmp .ne 7, 3, 0, [[47]]),
  (82, .iconst 1, 1, 1, []),
  (83, .goto 4, 3, 0, [[48]]),
  (86, .iconst 0, 1, 0, []),
  (87, .istore_n 3, 1, 0, []),
  (88, .iload_n 2, 1, 0, []),
  (89, .ifCond .ne 9, 3, 0, [[55]]),
  (92, .iload_n 3, 1, 0, []),
  (93, .ifCond .ne 5, 3, 0, [[55]]),
  (96, .iconst 1, 1, 1, []),
  (97, .ireturn, 1, 0, [[1]]),
  (98, .aload_n 0, 1, 0, []),
  (99, .invokevirtual 37, 3, 0, [[0, 0], [5, 43, 0, 297, 298, 1, 62]]),
  (102, .iinc 4 1, 3, 1, []),
  (105, .goto (-98), 3, 0, [[6]]),
  (108, .iconst 0, 1, 0, []),
  (109, .ireturn, 1, 0, [[1]])]
/-- 51: SoldWeather$Reader.factor(I)Z -/
def m_X5_factor : List aI := [
  (0, .aload_n 0, 1, 0, []),
  (1, .getfield 56, 3, 0, [[10, 0], [5], [187, 0]]),
  (4, .bipush 33, 2, 33, []),
  (6, .if_icmp .eq 17, 3, 0, [[11]]),
  (9, .aload_n 0, 1, 0, []),
  (10, .getfield 56, 3, 0, [[10, 0], [5], [187, 0]]),
  (13, .bipush 40, 2, 40, []),
  (15, .if_icmp .eq 8, 3, 0, [[11]]),
  (18, .aload_n 0, 1, 0, []),
  (19, .invokevirtual 121, 3, 0, [[0, 0], [5, 52, 0, 364, 365, 8, 62]]),
  (22, .ireturn, 1, 0, [[1]]),
  (23, .iload_n 1, 1, 0, []),
  (24, .iconst 5, 1, 5, []),
  (25, .if_icmp .lt 5, 3, 0, [[16]]),
  (28, .iconst 0, 1, 0, []),
  (29, .ireturn, 1, 0, [[1]]),
  (30, .aload_n 0, 1, 0, []),
  (31, .getfield 56, 3, 0, [[10, 0], [5], [187, 0]]),
  (34, .bipush 33, 2, 33, []),
  (36, .if_icmp .ne 7, 3, 0, [[22]]),
  (39, .iconst 1, 1, 1, []),
  (40, .goto 4, 3, 0, [[23]]),
  (43, .iconst 0, 1, 0, []),
  (44, .istore_n 2, 1, 0, []),
  (45, .aload_n 0, 1, 0, []),
  (46, .invokevirtual 37, 3, 0, [[0, 0], [5, 43, 0, 297, 298, 1, 62]]),
  (49, .iload_n 2, 1, 0, []),
  (50, .ifCond .eq 27, 3, 0, [[42]]),
  (53, .aload_n 0, 1, 0, []),
  (54, .iload_n 1, 1, 0, []),
  (55, .iconst 1, 1, 1, []),
  (56, .iadd, 1, 0, []),
  (57, .invokevirtual 115, 3, 0, [[0, 1], [5, 51, 0, 361, 362, 7, 62]]),
  (60, .ifCond .eq 15, 3, 0, [[40]]),
  (63, .aload_n 0, 1, 0, []),
  (64, .iconst (-1), 1, (-1), []),
  (65, .invokevirtual 118, 3, 0, [[0, 1], [5, 54, 0, 370, 371, 9, 62]]),
  (68, .ifCond .eq 7, 3, 0, [[40]]),
  (71, .iconst 1, 1, 1, []),
  (72, .goto 4, 3, 0, [[41]]),
  (75, .iconst 0, 1, 0, []),
  (76, .ireturn, 1, 0, [[1]]),
  (77, .aload_n 0, 1, 0, []),
  (78, .iload_n 1, 1, 0, []),
  (79, .iconst 1, 1, 1, []),
  (80, .iadd, 1, 0, []),
  (81, .invokevirtual 91, 3, 0, [[0, 1], [5, 50, 0, 358, 359, 6, 62]]),
  (84, .ifCond .eq 16, 3, 0, [[54]]),
  (87, .aload_n 0, 1, 0, []),
  (88, .ldc 124, 2, 0, [[5], [5]]),
  (90, .invokevirtual 78, 3, 0, [[0, 1], [5, 46, 0, 306, 307, 3, 62]]),
  (93, .ifCond .eq 7, 3, 0, [[54]]),
  (96, .iconst 1, 1, 1, []),
  (97, .goto 4, 3, 0, [[55]]),
  (100, .iconst 0, 1, 0, []),
  (101, .ireturn, 1, 0, [[1]])]
/-- 52: SoldWeather$Reader.test()Z -/
def m_X5_test : List aI := [
  (0, .aload_n 0, 1, 0, []),
  (1, .getfield 56, 3, 0, [[10, 0], [5], [187, 0]]),
  (4, .invokestatic 126, 3, 0, [[0, 53, 1], [367, 368, 62]]),
  (7, .istore_n 1, 1, 0, []),
  (8, .iload_n 1, 1, 0, []),
  (9, .ifCond .ge 5, 3, 0, [[8]]),
  (12, .iconst 0, 1, 0, []),
  (13, .ireturn, 1, 0, [[1]]),
  (14, .aload_n 0, 1, 0, []),
  (15, .invokevirtual 37, 3, 0, [[0, 0], [5, 43, 0, 297, 298, 1, 62]]),
  (18, .aload_n 0, 1, 0, []),
  (19, .getfield 56, 3, 0, [[10, 0], [5], [187, 0]]),
  (22, .bipush 60, 2, 60, []),
  (24, .if_icmp .lt 12, 3, 0, [[18]]),
  (27, .aload_n 0, 1, 0, []),
  (28, .getfield 56, 3, 0, [[10, 0], [5], [187, 0]]),
  (31, .bipush 62, 2, 62, []),
  (33, .if_icmp .le 5, 3, 0, [[20]]),
  (36, .iconst 0, 1, 0, []),
  (37, .ireturn, 1, 0, [[1]]),
  (38, .aload_n 0, 1, 0, []),
  (39, .getfield 56, 3, 0, [[10, 0], [5], [187, 0]]),
  (42, .bipush 60, 2, 60, []),
  (44, .isub, 1, 0, []),
  (45, .istore_n 2, 1, 0, []),
  (46, .aload_n 0, 1, 0, []),
  (47, .invokevirtual 37, 3, 0, [[0, 0], [5, 43, 0, 297, 298, 1, 62]]),
  (50, .aload_n 0, 1, 0, []),
  (51, .invokevirtual 86, 3, 0, [[0, 0], [5, 48, 0, 355, 356, 5, 62]]),
  (54, .istore_n 3, 1, 0, []),
  (55, .iload_n 3, 1, 0, []),
  (56, .ifCond .lt 24, 3, 0, [[46]]),
  (59, .aload_n 0, 1, 0, []),
  (60, .iload_n 1, 1, 0, []),
  (61, .iconst 3, 1, 3, []),
  (62, .imul, 1, 0, []),
  (63, .iload_n 2, 1, 0, []),
  (64, .iadd, 1, 0, []),
  (65, .bipush 100, 2, 100, []),
  (67, .imul, 1, 0, []),
  (68, .iload_n 3, 1, 0, []),
  (69, .iadd, 1, 0, []),
  (70, .invokevirtual 118, 3, 0, [[0, 1], [5, 54, 0, 370, 371, 9, 62]]),
  (73, .ifCond .eq 7, 3, 0, [[46]]),
  (76, .iconst 1, 1, 1, []),
  (77, .goto 4, 3, 0, [[47]]),
  (80, .iconst 0, 1, 0, []),
  (81, .ireturn, 1, 0, [[1]])]
/-- 53: SoldWeather$Reader.askedBy(I)I -/
def m_X5_askedBy : List aI := [
  (0, .iload_n 0, 1, 0, []),
  (1, .lookupswitch 61 #[(100, 55), (107, 59), (112, 57), (119, 51), (121, 53)], 51, 0, [[12], [6, 10, 8, 2, 4]]),
  (52, .iconst 0, 1, 0, []),
  (53, .ireturn, 1, 0, [[0]]),
  (54, .iconst 1, 1, 1, []),
  (55, .ireturn, 1, 0, [[0]]),
  (56, .iconst 2, 1, 2, []),
  (57, .ireturn, 1, 0, [[0]]),
  (58, .iconst 3, 1, 3, []),
  (59, .ireturn, 1, 0, [[0]]),
  (60, .iconst 4, 1, 4, []),
  (61, .ireturn, 1, 0, [[0]]),
  (62, .iconst (-1), 1, (-1), []),
  (63, .ireturn, 1, 0, [[0]])]
/-- 54: SoldWeather$Reader.put(I)Z -/
def m_X5_put : List aI := [
  (0, .aload_n 0, 1, 0, []),
  (1, .getfield 40, 3, 0, [[3, 0], [5], [180, 0]]),
  (4, .bipush 120, 2, 120, []),
  (6, .if_icmp .lt 5, 3, 0, [[6]]),
  (9, .iconst 0, 1, 0, []),
  (10, .ireturn, 1, 0, [[1]]),
  (11, .aload_n 0, 1, 0, []),
  (12, .getfield 9, 3, 0, [[0, 0], [5], [177, 0]]),
  (15, .aload_n 0, 1, 0, []),
  (16, .getfield 40, 3, 0, [[3, 0], [5], [180, 0]]),
  (19, .iload_n 1, 1, 0, []),
  (20, .iastore, 1, 0, []),
  (21, .aload_n 0, 1, 0, []),
  (22, .dup, 1, 0, []),
  (23, .getfield 40, 3, 0, [[3, 0], [5], [180, 0]]),
  (26, .iconst 1, 1, 1, []),
  (27, .iadd, 1, 0, []),
  (28, .putfield 40, 3, 0, [[3, 0], [5], [180, 0]]),
  (31, .iconst 1, 1, 1, []),
  (32, .ireturn, 1, 0, [[1]])]
/-- 55: SoldWeather$Saving.<init>(III)V -/
def m_X6_init : List aI := [
  (0, .aload_n 0, 1, 0, []),
  (1, .iload_n 1, 1, 0, []),
  (2, .iload_n 2, 1, 0, []),
  (3, .iload_n 3, 1, 0, []),
  (4, .invokespecial 1, 3, 0, [[0, 36, 3], [513, 450, 73]]),
  (7, .return_, 1, 0, [])]
/-- 56: SoldWeather$Saving.wish(LSoldWeather$Course;I)I -/
def m_X6_wish : List aI := [
  (0, .aload_n 1, 1, 0, []),
  (1, .aload_n 0, 1, 0, []),
  (2, .getfield 7, 3, 0, [[1, 0], [0, 1, 3, 4, 6, 7, 8], [460, 461]]),
  (5, .invokevirtual 13, 3, 0, [[0, 1], [2, 21, 0, 608, 609, 610, 63]]),
  (8, .bipush 10, 2, 10, []),
  (10, .aload_n 0, 1, 0, []),
  (11, .getfield 19, 3, 0, [[2, 0], [0, 1, 3, 4, 6, 7, 8], [470, 471]]),
  (14, .imul, 1, 0, []),
  (15, .if_icmp .ge 7, 3, 0, [[11]]),
  (18, .iconst 0, 1, 0, []),
  (19, .goto 9, 3, 0, [[15]]),
  (22, .aload_n 0, 1, 0, []),
  (23, .aload_n 1, 1, 0, []),
  (24, .iload_n 2, 1, 0, []),
  (25, .invokespecial 22, 3, 0, [[2, 37, 2], [612, 1204, 517, 602, 73]]),
  (28, .ireturn, 1, 0, [[0]])]
/-- 57: SoldWeather$Saving.tells(I[I)I -/
def m_X6_tells : List aI := [
  (0, .aload_n 2, 1, 0, []),
  (1, .bipush 41, 2, 41, []),
  (3, .invokestatic 26, 3, 0, [[6, 8, 2], [844, 845, 793, 72]]),
  (6, .aload_n 0, 1, 0, []),
  (7, .iload_n 1, 1, 0, []),
  (8, .iconst 1, 1, 1, []),
  (9, .isub, 1, 0, []),
  (10, .aload_n 2, 1, 0, []),
  (11, .invokespecial 30, 3, 0, [[7, 7, 2], [846, 847, 517, 487, 830, 72]]),
  (14, .istore_n 3, 1, 0, []),
  (15, .iload_n 3, 1, 0, []),
  (16, .aload_n 0, 1, 0, []),
  (17, .iconst 2, 1, 2, []),
  (18, .aload_n 2, 1, 0, []),
  (19, .invokevirtual 34, 3, 0, [[0, 2], [6, 38, 1, 848, 849, 850, 789, 73]]),
  (22, .iadd, 1, 0, []),
  (23, .ireturn, 1, 0, [[0]])]
/-- 58: SoldWeather$Sharing.<init>(III)V -/
def m_X7_init : List aI := [
  (0, .aload_n 0, 1, 0, []),
  (1, .iload_n 1, 1, 0, []),
  (2, .iload_n 2, 1, 0, []),
  (3, .iload_n 3, 1, 0, []),
  (4, .invokespecial 3, 3, 0, [[0, 33, 3], [523, 491, 74]]),
  (7, .return_, 1, 0, [])]
/-- 59: SoldWeather$Sharing.wish(LSoldWeather$Course;I)I -/
def m_X7_wish : List aI := [
  (0, .aload_n 0, 1, 0, []),
  (1, .aload_n 1, 1, 0, []),
  (2, .iload_n 2, 1, 0, []),
  (3, .invokespecial 9, 3, 0, [[2, 34, 2], [616, 1205, 527, 593, 74]]),
  (6, .istore_n 3, 1, 0, []),
  (7, .iconst 0, 1, 0, []),
  (8, .istore 4, 2, 0, []),
  (10, .iload 4, 2, 0, []),
  (12, .iconst 4, 1, 4, []),
  (13, .if_icmp .ge 38, 3, 0, [[28]]),
  (16, .aload_n 0, 1, 0, []),
  (17, .aload_n 1, 1, 0, []),
  (18, .iload 4, 2, 0, []),
  (20, .invokespecial 9, 3, 0, [[2, 34, 2], [616, 1205, 527, 593, 74]]),
  (23, .istore 5, 2, 0, []),
  (25, .iload 5, 2, 0, []),
  (27, .iload_n 3, 1, 0, []),
  (28, .if_icmp .gt 15, 3, 0, [[24]]),
  (31, .iload 5, 2, 0, []),
  (33, .iload_n 3, 1, 0, []),
  (34, .if_icmp .ne 11, 3, 0, [[26]]),
  (37, .iload 4, 2, 0, []),
  (39, .iload_n 2, 1, 0, []),
  (40, .if_icmp .ge 5, 3, 0, [[26]]),
  (43, .iconst 0, 1, 0, []),
  (44, .ireturn, 1, 0, [[0]]),
  (45, .iinc 4 1, 3, 1, []),
  (48, .goto (-38), 3, 0, [[7]]),
  (51, .iload_n 3, 1, 0, []),
  (52, .ireturn, 1, 0, [[0]])]
/-- 60: SoldWeather$Sharing.bids(I[I)I -/
def m_X7_bids : List aI := [
  (0, .aload_n 2, 1, 0, []),
  (1, .bipush 51, 2, 51, []),
  (3, .invokestatic 13, 3, 0, [[6, 8, 2], [800, 801, 793, 72]]),
  (6, .aload_n 0, 1, 0, []),
  (7, .iload_n 1, 1, 0, []),
  (8, .aload_n 2, 1, 0, []),
  (9, .invokespecial 19, 3, 0, [[7, 5, 2], [802, 803, 527, 497, 783, 72]]),
  (12, .aload_n 0, 1, 0, []),
  (13, .getfield 23, 3, 0, [[1, 0], [0, 1, 3, 4, 6, 7, 8], [466, 467]]),
  (16, .ixor, 1, 0, []),
  (17, .ireturn, 1, 0, [[0]])]
/-- 61: SoldWeather$Told.<init>(III)V -/
def m_X8_init : List aI := [
  (0, .aload_n 0, 1, 0, []),
  (1, .iload_n 1, 1, 0, []),
  (2, .iload_n 2, 1, 0, []),
  (3, .iload_n 3, 1, 0, []),
  (4, .invokespecial 1, 3, 0, [[0, 33, 3], [533, 491, 74]]),
  (7, .return_, 1, 0, [])]
/-- 62: SoldWeather$Told.wish(LSoldWeather$Course;I)I -/
def m_X8_wish : List aI := [
  (0, .aload_n 1, 1, 0, []),
  (1, .aload_n 0, 1, 0, []),
  (2, .getfield 7, 3, 0, [[1, 0], [0, 1, 3, 4, 6, 7, 8], [462, 463]]),
  (5, .iload_n 2, 1, 0, []),
  (6, .invokevirtual 13, 3, 0, [[0, 2], [2, 27, 0, 620, 621, 622, 63]]),
  (9, .ireturn, 1, 0, [[0]])]
/-- 63: SoldWeather$Told.pays(I[I)I -/
def m_X8_pays : List aI := [
  (0, .aload_n 2, 1, 0, []),
  (1, .bipush 61, 2, 61, []),
  (3, .invokestatic 19, 3, 0, [[6, 8, 2], [824, 825, 793, 72]]),
  (6, .aload_n 0, 1, 0, []),
  (7, .iload_n 1, 1, 0, []),
  (8, .aload_n 2, 1, 0, []),
  (9, .invokespecial 23, 3, 0, [[2, 35, 2], [826, 1206, 537, 813, 74]]),
  (12, .aload_n 0, 1, 0, []),
  (13, .getfield 27, 3, 0, [[2, 0], [0, 1, 3, 4, 6, 7, 8], [478, 479]]),
  (16, .iadd, 1, 0, []),
  (17, .ireturn, 1, 0, [[0]])]
/-- 64: SoldWeather$Valley.<init>([I[I[III)V -/
def m_X9_init : List aI := [
  (0, .aload_n 0, 1, 0, []),
  (1, .invokespecial 1, 3, 0, [[1], [391, 85, 86]]),
  (4, .aload_n 0, 1, 0, []),
  (5, .aload_n 1, 1, 0, []),
  (6, .putfield 7, 3, 0, [[0, 2], [9], [392, 0]]),
  (9, .aload_n 0, 1, 0, []),
  (10, .aload_n 2, 1, 0, []),
  (11, .putfield 13, 3, 0, [[1, 2], [9], [393, 0]]),
  (14, .aload_n 0, 1, 0, []),
  (15, .aload_n 3, 1, 0, []),
  (16, .putfield 16, 3, 0, [[2, 2], [9], [394, 0]]),
  (19, .aload_n 0, 1, 0, []),
  (20, .iload 4, 2, 0, []),
  (22, .putfield 19, 3, 0, [[3, 0], [9], [395, 0]]),
  (25, .aload_n 0, 1, 0, []),
  (26, .iload 5, 2, 0, []),
  (28, .putfield 23, 3, 0, [[4, 0], [9], [397, 0]]),
  (31, .return_, 1, 0, [])]
/-- 65: SoldWeather$Valley.worth([I)I -/
def m_X9_worth : List aI := [
  (0, .iconst 0, 1, 0, []),
  (1, .istore_n 2, 1, 0, []),
  (2, .iconst 0, 1, 0, []),
  (3, .istore_n 3, 1, 0, []),
  (4, .iconst 0, 1, 0, []),
  (5, .istore 4, 2, 0, []),
  (7, .iload 4, 2, 0, []),
  (9, .aload_n 0, 1, 0, []),
  (10, .getfield 13, 3, 0, [[1, 0], [9], [393, 0]]),
  (13, .arraylength, 1, 0, []),
  (14, .if_icmp .ge 43, 3, 0, [[34]]),
  (17, .aload_n 0, 1, 0, []),
  (18, .iload_n 3, 1, 0, []),
  (19, .aload_n 0, 1, 0, []),
  (20, .getfield 13, 3, 0, [[1, 0], [9], [393, 0]]),
  (23, .iload 4, 2, 0, []),
  (25, .iaload, 1, 0, []),
  (26, .aload_n 1, 1, 0, []),
  (27, .invokevirtual 26, 3, 0, [[0, 3], [9, 66, 0, 586, 587, 11, 70]]),
  (30, .ifCond .eq 13, 3, 0, [[27]]),
  (33, .iload_n 2, 1, 0, []),
  (34, .aload_n 0, 1, 0, []),
  (35, .getfield 16, 3, 0, [[2, 0], [9], [394, 0]]),
  (38, .iload 4, 2, 0, []),
  (40, .iaload, 1, 0, []),
  (41, .iadd, 1, 0, []),
  (42, .istore_n 2, 1, 0, []),
  (43, .aload_n 0, 1, 0, []),
  (44, .getfield 13, 3, 0, [[1, 0], [9], [393, 0]]),
  (47, .iload 4, 2, 0, []),
  (49, .iaload, 1, 0, []),
  (50, .istore_n 3, 1, 0, []),
  (51, .iinc 4 1, 3, 1, []),
  (54, .goto (-47), 3, 0, [[6]]),
  (57, .iload_n 2, 1, 0, []),
  (58, .ireturn, 1, 0, [[0]])]
/-- 66: SoldWeather$Valley.holds(II[I)Z -/
def m_X9_holds : List aI := [
  (0, .iconst 0, 1, 0, []),
  (1, .istore 4, 2, 0, []),
  (3, .iload_n 1, 1, 0, []),
  (4, .istore 5, 2, 0, []),
  (6, .iload 5, 2, 0, []),
  (8, .iload_n 2, 1, 0, []),
  (9, .if_icmp .ge 144, 3, 0, [[83]]),
  (12, .aload_n 0, 1, 0, []),
  (13, .getfield 7, 3, 0, [[0, 0], [9], [392, 0]]),
  (16, .iload 5, 2, 0, []),
  (18, .iaload, 1, 0, []),
  (19, .istore 6, 2, 0, []),
  (21, .iload 6, 2, 0, []),
  (23, .ifCond .lt 72, 3, 0, [[52]]),
  (26, .aload_n 3, 1, 0, []),
  (27, .iload 6, 2, 0, []),
  (29, .sipush 300, 3, 300, []),
  (32, .idiv, 1, 0, []),
  (33, .iaload, 1, 0, []),
  (34, .istore 7, 2, 0, []),
  (36, .iload 6, 2, 0, []),
  (38, .bipush 100, 2, 100, []),
  (40, .irem, 1, 0, []),
  (41, .istore 8, 2, 0, []),
  (43, .iload 7, 2, 0, []),
  (45, .iload 8, 2, 0, []),
  (47, .if_icmp .ge 7, 3, 0, [[29]]),
  (50, .iconst 0, 1, 0, []),
  (51, .goto 15, 3, 0, [[35]]),
  (54, .iload 7, 2, 0, []),
  (56, .iload 8, 2, 0, []),
  (58, .if_icmp .le 7, 3, 0, [[34]]),
  (61, .iconst 2, 1, 2, []),
  (62, .goto 4, 3, 0, [[35]]),
  (65, .iconst 1, 1, 1, []),
  (66, .istore 9, 2, 0, []),
  (68, .iload 4, 2, 0, []),
  (70, .iconst 1, 1, 1, []),
  (71, .ishl, 1, 0, []),
  (72, .iload 6, 2, 0, []),
  (74, .bipush 100, 2, 100, []),
  (76, .idiv, 1, 0, []),
  (77, .iconst 3, 1, 3, []),
  (78, .irem, 1, 0, []),
  (79, .iload 9, 2, 0, []),
  (81, .if_icmp .ne 7, 3, 0, [[48]]),
  (84, .iconst 1, 1, 1, []),
  (85, .goto 4, 3, 0, [[49]]),
  (88, .iconst 0, 1, 0, []),
  (89, .ior, 1, 0, []),
  (90, .istore 4, 2, 0, []),
  (92, .goto 55, 3, 0, [[81]]),
  (95, .iload 6, 2, 0, []),
  (97, .iconst (-1), 1, (-1), []),
  (98, .if_icmp .ne 12, 3, 0, [[60]]),
  (101, .iload 4, 2, 0, []),
  (103, .iconst 1, 1, 1, []),
  (104, .ixor, 1, 0, []),
  (105, .istore 4, 2, 0, []),
  (107, .goto 40, 3, 0, [[81]]),
  (110, .iload 4, 2, 0, []),
  (112, .iconst 1, 1, 1, []),
  (113, .iand, 1, 0, []),
  (114, .istore 7, 2, 0, []),
  (116, .iload 4, 2, 0, []),
  (118, .iconst 1, 1, 1, []),
  (119, .ishr, 1, 0, []),
  (120, .istore 4, 2, 0, []),
  (122, .iload 6, 2, 0, []),
  (124, .bipush (-2), 2, (-2), []),
  (126, .if_icmp .ne 14, 3, 0, [[77]]),
  (129, .iload 4, 2, 0, []),
  (131, .iload 7, 2, 0, []),
  (133, .bipush (-2), 2, (-2), []),
  (135, .ior, 1, 0, []),
  (136, .iand, 1, 0, []),
  (137, .goto 8, 3, 0, [[80]]),
  (140, .iload 4, 2, 0, []),
  (142, .iload 7, 2, 0, []),
  (144, .ior, 1, 0, []),
  (145, .istore 4, 2, 0, []),
  (147, .iinc 5 1, 3, 1, []),
  (150, .goto (-144), 3, 0, [[4]]),
  (153, .iload 4, 2, 0, []),
  (155, .iconst 1, 1, 1, []),
  (156, .iand, 1, 0, []),
  (157, .iconst 1, 1, 1, []),
  (158, .if_icmp .ne 7, 3, 0, [[90]]),
  (161, .iconst 1, 1, 1, []),
  (162, .goto 4, 3, 0, [[91]]),
  (165, .iconst 0, 1, 0, []),
  (166, .ireturn, 1, 0, [[1]])]
/-- 67: SoldWeather$World.<init>()V -/
def m_X10_init : List aI := [
  (0, .aload_n 0, 1, 0, []),
  (1, .invokespecial 3, 3, 0, [[1], [92, 85, 86]]),
  (4, .aload_n 0, 1, 0, []),
  (5, .bipush 120, 2, 120, []),
  (7, .newarray .int, 2, 0, [[170]]),
  (9, .putfield 9, 3, 0, [[0, 2], [10], [94, 0]]),
  (12, .aload_n 0, 1, 0, []),
  (13, .bipush 12, 2, 12, []),
  (15, .newarray .int, 2, 0, [[170]]),
  (17, .putfield 15, 3, 0, [[6, 2], [10], [109, 0]]),
  (20, .aload_n 0, 1, 0, []),
  (21, .bipush 8, 2, 8, []),
  (23, .anewarray 18, 3, 0, [[93]]),
  (26, .putfield 20, 3, 0, [[9, 2], [10], [116, 0]]),
  (29, .aload_n 0, 1, 0, []),
  (30, .bipush 8, 2, 8, []),
  (32, .newarray .int, 2, 0, [[170]]),
  (34, .putfield 24, 3, 0, [[10, 2], [10], [118, 0]]),
  (37, .aload_n 0, 1, 0, []),
  (38, .bipush 32, 2, 32, []),
  (40, .newarray .int, 2, 0, [[170]]),
  (42, .putfield 27, 3, 0, [[11, 2], [10], [121, 0]]),
  (45, .aload_n 0, 1, 0, []),
  (46, .bipush 20, 2, 20, []),
  (48, .newarray .int, 2, 0, [[170]]),
  (50, .putfield 30, 3, 0, [[13, 2], [10], [127, 0]]),
  (53, .aload_n 0, 1, 0, []),
  (54, .bipush 12, 2, 12, []),
  (56, .newarray .int, 2, 0, [[170]]),
  (58, .putfield 33, 3, 0, [[15, 2], [10], [131, 0]]),
  (61, .iconst 0, 1, 0, []),
  (62, .istore_n 1, 1, 0, []),
  (63, .iload_n 1, 1, 0, []),
  (64, .iconst 4, 1, 4, []),
  (65, .if_icmp .ge 16, 3, 0, [[42]]),
  (68, .aload_n 0, 1, 0, []),
  (69, .getfield 15, 3, 0, [[6, 0], [10], [109, 0]]),
  (72, .iload_n 1, 1, 0, []),
  (73, .iload_n 1, 1, 0, []),
  (74, .iastore, 1, 0, []),
  (75, .iinc 1 1, 3, 1, []),
  (78, .goto (-15), 3, 0, [[32]]),
  (81, .aload_n 0, 1, 0, []),
  (82, .iconst 4, 1, 4, []),
  (83, .putfield 36, 3, 0, [[7, 0], [10], [111, 0]]),
  (86, .return_, 1, 0, [])]
/-- 68: SoldWeather$World.becomeLike(LSoldWeather$World;)V -/
def m_X10_becomeLike : List aI := [
  (0, .aload_n 1, 1, 0, []),
  (1, .getfield 9, 3, 0, [[0, 0], [10], [94, 0]]),
  (4, .iconst 0, 1, 0, []),
  (5, .aload_n 0, 1, 0, []),
  (6, .getfield 9, 3, 0, [[0, 0], [10], [94, 0]]),
  (9, .iconst 0, 1, 0, []),
  (10, .bipush 120, 2, 120, []),
  (12, .invokestatic 40, 3, 0, [[3], [874, 387, 386, 71]]),
  (15, .aload_n 0, 1, 0, []),
  (16, .aload_n 1, 1, 0, []),
  (17, .getfield 46, 3, 0, [[1, 0], [10], [97, 0]]),
  (20, .putfield 46, 3, 0, [[1, 0], [10], [97, 0]]),
  (23, .aload_n 0, 1, 0, []),
  (24, .aload_n 1, 1, 0, []),
  (25, .getfield 49, 3, 0, [[2, 0], [10], [98, 0]]),
  (28, .putfield 49, 3, 0, [[2, 0], [10], [98, 0]]),
  (31, .aload_n 0, 1, 0, []),
  (32, .aload_n 1, 1, 0, []),
  (33, .getfield 52, 3, 0, [[3, 0], [10], [100, 0]]),
  (36, .putfield 52, 3, 0, [[3, 2], [10], [100, 0]]),
  (39, .aload_n 0, 1, 0, []),
  (40, .aload_n 1, 1, 0, []),
  (41, .getfield 56, 3, 0, [[4, 0], [10], [104, 0]]),
  (44, .putfield 56, 3, 0, [[4, 0], [10], [104, 0]]),
  (47, .aload_n 0, 1, 0, []),
  (48, .aload_n 1, 1, 0, []),
  (49, .getfield 59, 3, 0, [[5, 0], [10], [107, 0]]),
  (52, .putfield 59, 3, 0, [[5, 0], [10], [107, 0]]),
  (55, .aload_n 1, 1, 0, []),
  (56, .getfield 15, 3, 0, [[6, 0], [10], [109, 0]]),
  (59, .iconst 0, 1, 0, []),
  (60, .aload_n 0, 1, 0, []),
  (61, .getfield 15, 3, 0, [[6, 0], [10], [109, 0]]),
  (64, .iconst 0, 1, 0, []),
  (65, .bipush 12, 2, 12, []),
  (67, .invokestatic 40, 3, 0, [[3], [874, 387, 386, 71]]),
  (70, .aload_n 0, 1, 0, []),
  (71, .aload_n 1, 1, 0, []),
  (72, .getfield 36, 3, 0, [[7, 0], [10], [111, 0]]),
  (75, .putfield 36, 3, 0, [[7, 0], [10], [111, 0]]),
  (78, .aload_n 0, 1, 0, []),
  (79, .aload_n 1, 1, 0, []),
  (80, .getfield 62, 3, 0, [[8, 0], [10], [114, 0]]),
  (83, .putfield 62, 3, 0, [[8, 0], [10], [114, 0]]),
  (86, .iconst 0, 1, 0, []),
  (87, .istore_n 2, 1, 0, []),
  (88, .iload_n 2, 1, 0, []),
  (89, .bipush 8, 2, 8, []),
  (91, .if_icmp .ge 21, 3, 0, [[59]]),
  (94, .aload_n 0, 1, 0, []),
  (95, .getfield 20, 3, 0, [[9, 0], [10], [116, 0]]),
  (98, .iload_n 2, 1, 0, []),
  (99, .aload_n 1, 1, 0, []),
  (100, .getfield 20, 3, 0, [[9, 0], [10], [116, 0]]),
  (103, .iload_n 2, 1, 0, []),
  (104, .aaload, 1, 0, []),
  (105, .aastore, 1, 0, [[0, 1, 3, 4, 6, 7, 8]]),
  (106, .iinc 2 1, 3, 1, []),
  (109, .goto (-21), 3, 0, [[46]]),
  (112, .aload_n 1, 1, 0, []),
  (113, .getfield 24, 3, 0, [[10, 0], [10], [118, 0]]),
  (116, .iconst 0, 1, 0, []),
  (117, .aload_n 0, 1, 0, []),
  (118, .getfield 24, 3, 0, [[10, 0], [10], [118, 0]]),
  (121, .iconst 0, 1, 0, []),
  (122, .bipush 8, 2, 8, []),
  (124, .invokestatic 40, 3, 0, [[3], [874, 387, 386, 71]]),
  (127, .aload_n 1, 1, 0, []),
  (128, .getfield 27, 3, 0, [[11, 0], [10], [121, 0]]),
  (131, .iconst 0, 1, 0, []),
  (132, .aload_n 0, 1, 0, []),
  (133, .getfield 27, 3, 0, [[11, 0], [10], [121, 0]]),
  (136, .iconst 0, 1, 0, []),
  (137, .bipush 32, 2, 32, []),
  (139, .invokestatic 40, 3, 0, [[3], [874, 387, 386, 71]]),
  (142, .aload_n 0, 1, 0, []),
  (143, .aload_n 1, 1, 0, []),
  (144, .getfield 65, 3, 0, [[12, 0], [10], [124, 0]]),
  (147, .putfield 65, 3, 0, [[12, 0], [10], [124, 0]]),
  (150, .aload_n 1, 1, 0, []),
  (151, .getfield 30, 3, 0, [[13, 0], [10], [127, 0]]),
  (154, .iconst 0, 1, 0, []),
  (155, .aload_n 0, 1, 0, []),
  (156, .getfield 30, 3, 0, [[13, 0], [10], [127, 0]]),
  (159, .iconst 0, 1, 0, []),
  (160, .bipush 20, 2, 20, []),
  (162, .invokestatic 40, 3, 0, [[3], [874, 387, 386, 71]]),
  (165, .aload_n 0, 1, 0, []),
  (166, .aload_n 1, 1, 0, []),
  (167, .getfield 68, 3, 0, [[14, 0], [10], [129, 0]]),
  (170, .putfield 68, 3, 0, [[14, 0], [10], [129, 0]]),
  (173, .aload_n 1, 1, 0, []),
  (174, .getfield 33, 3, 0, [[15, 0], [10], [131, 0]]),
  (177, .iconst 0, 1, 0, []),
  (178, .aload_n 0, 1, 0, []),
  (179, .getfield 33, 3, 0, [[15, 0], [10], [131, 0]]),
  (182, .iconst 0, 1, 0, []),
  (183, .bipush 12, 2, 12, []),
  (185, .invokestatic 40, 3, 0, [[3], [874, 387, 386, 71]]),
  (188, .aload_n 0, 1, 0, []),
  (189, .aload_n 1, 1, 0, []),
  (190, .getfield 71, 3, 0, [[16, 0], [10], [133, 0]]),
  (193, .putfield 71, 3, 0, [[16, 0], [10], [133, 0]]),
  (196, .return_, 1, 0, [])]
/-- 69: SoldWeather$World.isOne(I)Z -/
def m_X10_isOne : List aI := [
  (0, .iload_n 1, 1, 0, []),
  (1, .ifCond .lt 15, 3, 0, [[8]]),
  (4, .iload_n 1, 1, 0, []),
  (5, .aload_n 0, 1, 0, []),
  (6, .getfield 65, 3, 0, [[12, 0], [10], [124, 0]]),
  (9, .if_icmp .ge 7, 3, 0, [[8]]),
  (12, .iconst 1, 1, 1, []),
  (13, .goto 4, 3, 0, [[9]]),
  (16, .iconst 0, 1, 0, []),
  (17, .ireturn, 1, 0, [[1]])]
/-- 70: SoldWeather$World.one(I)LSoldWeather$Bidder; -/
def m_X10_one : List aI := [
  (0, .aload_n 0, 1, 0, []),
  (1, .iload_n 1, 1, 0, []),
  (2, .invokevirtual 74, 3, 0, [[0, 1], [10, 69, 0, 553, 554, 555, 61]]),
  (5, .ifCond .eq 12, 3, 0, [[9]]),
  (8, .aload_n 0, 1, 0, []),
  (9, .getfield 20, 3, 0, [[9, 0], [10], [116, 0]]),
  (12, .iload_n 1, 1, 0, []),
  (13, .aaload, 1, 0, []),
  (14, .goto 4, 3, 0, [[10]]),
  (17, .aconst_null, 1, 0, []),
  (18, .areturn, 1, 0, [])]
/-- 71: SoldWeather$World.payRule()I -/
def m_X10_payRule : List aI := [
  (0, .aload_n 0, 1, 0, []),
  (1, .getfield 52, 3, 0, [[3, 0], [10], [100, 0]]),
  (4, .ifnonnull 7, 3, 0, [[5]]),
  (7, .iconst 0, 1, 0, []),
  (8, .goto 10, 3, 0, [[8]]),
  (11, .aload_n 0, 1, 0, []),
  (12, .getfield 52, 3, 0, [[3, 0], [10], [100, 0]]),
  (15, .getfield 78, 3, 0, [[3, 0], [9], [396, 0]]),
  (18, .ireturn, 1, 0, [[0]])]
/-- 72: SoldWeather$World.giftEach()I -/
def m_X10_giftEach : List aI := [
  (0, .aload_n 0, 1, 0, []),
  (1, .getfield 52, 3, 0, [[3, 0], [10], [100, 0]]),
  (4, .ifnonnull 7, 3, 0, [[5]]),
  (7, .iconst 0, 1, 0, []),
  (8, .goto 10, 3, 0, [[8]]),
  (11, .aload_n 0, 1, 0, []),
  (12, .getfield 52, 3, 0, [[3, 0], [10], [100, 0]]),
  (15, .getfield 83, 3, 0, [[4, 0], [9], [398, 0]]),
  (18, .ireturn, 1, 0, [[0]])]
/-- 73: SoldWeather$World.fortuneAt(I)I -/
def m_X10_fortuneAt : List aI := [
  (0, .iload_n 1, 1, 0, []),
  (1, .ifCond .lt 20, 3, 0, [[11]]),
  (4, .iload_n 1, 1, 0, []),
  (5, .aload_n 0, 1, 0, []),
  (6, .getfield 36, 3, 0, [[7, 0], [10], [111, 0]]),
  (9, .if_icmp .ge 12, 3, 0, [[11]]),
  (12, .aload_n 0, 1, 0, []),
  (13, .getfield 15, 3, 0, [[6, 0], [10], [109, 0]]),
  (16, .iload_n 1, 1, 0, []),
  (17, .iaload, 1, 0, []),
  (18, .goto 4, 3, 0, [[12]]),
  (21, .iconst 0, 1, 0, []),
  (22, .ireturn, 1, 0, [[0]])]
/-- 74: SoldWeather$World.turnBehind(I)I -/
def m_X10_turnBehind : List aI := [
  (0, .iload_n 1, 1, 0, []),
  (1, .iconst 1, 1, 1, []),
  (2, .iadd, 1, 0, []),
  (3, .aload_n 0, 1, 0, []),
  (4, .getfield 36, 3, 0, [[7, 0], [10], [111, 0]]),
  (7, .if_icmp .ge 9, 3, 0, [[10]]),
  (10, .iload_n 1, 1, 0, []),
  (11, .iconst 1, 1, 1, []),
  (12, .iadd, 1, 0, []),
  (13, .goto 4, 3, 0, [[11]]),
  (16, .iconst 0, 1, 0, []),
  (17, .ireturn, 1, 0, [[0]])]
/-- 75: SoldWeather.<init>()V -/
def m_X11_init : List aI := [
  (0, .aload_n 0, 1, 0, []),
  (1, .invokespecial 1, 3, 0, [[1], [84, 85, 86]]),
  (4, .aload_n 0, 1, 0, []),
  (5, .new 7, 3, 0, [[10], [87, 88, 61]]),
  (8, .dup, 1, 0, []),
  (9, .invokespecial 9, 3, 0, [[0, 67, 0], [89, 90, 61]]),
  (12, .putfield 10, 3, 0, [[0, 2], [11], [257, 0]]),
  (15, .aload_n 0, 1, 0, []),
  (16, .new 16, 3, 0, [[5], [171, 172, 62]]),
  (19, .dup, 1, 0, []),
  (20, .aload_n 0, 1, 0, []),
  (21, .getfield 10, 3, 0, [[0, 0], [11], [257, 0]]),
  (24, .getfield 18, 3, 0, [[0, 0], [10], [95, 0]]),
  (27, .invokespecial 22, 3, 0, [[0, 39, 1], [173, 174, 62]]),
  (30, .putfield 25, 3, 0, [[1, 2], [11], [258, 0]]),
  (33, .aload_n 0, 1, 0, []),
  (34, .new 29, 3, 0, [[2], [211, 212, 63]]),
  (37, .dup, 1, 0, []),
  (38, .aload_n 0, 1, 0, []),
  (39, .getfield 10, 3, 0, [[0, 0], [11], [257, 0]]),
  (42, .invokespecial 31, 3, 0, [[0, 9, 1], [213, 214, 63]]),
  (45, .putfield 34, 3, 0, [[2, 2], [11], [259, 0]]),
  (48, .aload_n 0, 1, 0, []),
  (49, .bipush 21, 2, 21, []),
  (51, .newarray .int, 2, 0, [[170]]),
  (53, .putfield 38, 3, 0, [[3, 2], [11], [260, 0]]),
  (56, .aload_n 0, 1, 0, []),
  (57, .bipush 8, 2, 8, []),
  (59, .newarray .int, 2, 0, [[170]]),
  (61, .putfield 41, 3, 0, [[4, 2], [11], [261, 0]]),
  (64, .aload_n 0, 1, 0, []),
  (65, .bipush 32, 2, 32, []),
  (67, .newarray .int, 2, 0, [[170]]),
  (69, .putfield 44, 3, 0, [[5, 2], [11], [262, 0]]),
  (72, .aload_n 0, 1, 0, []),
  (73, .bipush 36, 2, 36, []),
  (75, .newarray .int, 2, 0, [[170]]),
  (77, .putfield 47, 3, 0, [[6, 2], [11], [263, 0]]),
  (80, .return_, 1, 0, [])]
/-- 76: SoldWeather.feed(I)I -/
def m_X11_feed : List aI := [
  (0, .iload_n 1, 1, 0, []),
  (1, .ifCond .lt 9, 3, 0, [[5]]),
  (4, .iload_n 1, 1, 0, []),
  (5, .bipush 127, 2, 127, []),
  (7, .if_icmp .le 6, 3, 0, [[7]]),
  (10, .bipush (-2), 2, (-2), []),
  (12, .ireturn, 1, 0, [[0]]),
  (13, .aload_n 0, 1, 0, []),
  (14, .getfield 10, 3, 0, [[0, 0], [11], [257, 0]]),
  (17, .getfield 50, 3, 0, [[1, 0], [10], [96, 0]]),
  (20, .bipush 120, 2, 120, []),
  (22, .if_icmp .lt 6, 3, 0, [[14]]),
  (25, .bipush (-4), 2, (-4), []),
  (27, .ireturn, 1, 0, [[0]]),
  (28, .aload_n 0, 1, 0, []),
  (29, .getfield 10, 3, 0, [[0, 0], [11], [257, 0]]),
  (32, .getfield 18, 3, 0, [[0, 0], [10], [95, 0]]),
  (35, .aload_n 0, 1, 0, []),
  (36, .getfield 10, 3, 0, [[0, 0], [11], [257, 0]]),
  (39, .getfield 50, 3, 0, [[1, 0], [10], [96, 0]]),
  (42, .iload_n 1, 1, 0, []),
  (43, .iastore, 1, 0, []),
  (44, .aload_n 0, 1, 0, []),
  (45, .getfield 10, 3, 0, [[0, 0], [11], [257, 0]]),
  (48, .dup, 1, 0, []),
  (49, .getfield 50, 3, 0, [[1, 0], [10], [96, 0]]),
  (52, .iconst 1, 1, 1, []),
  (53, .iadd, 1, 0, []),
  (54, .putfield 50, 3, 0, [[1, 0], [10], [96, 0]]),
  (57, .aload_n 0, 1, 0, []),
  (58, .getfield 10, 3, 0, [[0, 0], [11], [257, 0]]),
  (61, .getfield 50, 3, 0, [[1, 0], [10], [96, 0]]),
  (64, .ireturn, 1, 0, [[0]])]
/-- 77: SoldWeather.valley()I -/
def m_X11_valley : List aI := [
  (0, .aload_n 0, 1, 0, []),
  (1, .getfield 10, 3, 0, [[0, 0], [11], [257, 0]]),
  (4, .getfield 54, 3, 0, [[2, 0], [10], [99, 0]]),
  (7, .iconst 5, 1, 5, []),
  (8, .if_icmp .lt 6, 3, 0, [[7]]),
  (11, .bipush (-4), 2, (-4), []),
  (13, .ireturn, 1, 0, [[0]]),
  (14, .aload_n 0, 1, 0, []),
  (15, .getfield 25, 3, 0, [[1, 0], [11], [258, 0]]),
  (18, .aload_n 0, 1, 0, []),
  (19, .getfield 10, 3, 0, [[0, 0], [11], [257, 0]]),
  (22, .getfield 50, 3, 0, [[1, 0], [10], [96, 0]]),
  (25, .invokevirtual 57, 3, 0, [[0, 1], [5, 40, 0, 290, 291, 292, 62]]),
  (28, .istore_n 1, 1, 0, []),
  (29, .aload_n 0, 1, 0, []),
  (30, .getfield 10, 3, 0, [[0, 0], [11], [257, 0]]),
  (33, .iconst 0, 1, 0, []),
  (34, .putfield 50, 3, 0, [[1, 0], [10], [96, 0]]),
  (37, .iload_n 1, 1, 0, []),
  (38, .ifCond .lt 8, 3, 0, [[24]]),
  (41, .bipush (-10), 2, (-10), []),
  (43, .iload_n 1, 1, 0, []),
  (44, .isub, 1, 0, []),
  (45, .ireturn, 1, 0, [[0]]),
  (46, .aload_n 0, 1, 0, []),
  (47, .getfield 10, 3, 0, [[0, 0], [11], [257, 0]]),
  (50, .aload_n 0, 1, 0, []),
  (51, .getfield 25, 3, 0, [[1, 0], [11], [258, 0]]),
  (54, .invokevirtual 61, 3, 0, [[0, 0], [5, 41, 0, 376, 377, 378, 62]]),
  (57, .putfield 65, 3, 0, [[3, 2], [10], [101, 0]]),
  (60, .aload_n 0, 1, 0, []),
  (61, .getfield 10, 3, 0, [[0, 0], [11], [257, 0]]),
  (64, .dup, 1, 0, []),
  (65, .getfield 54, 3, 0, [[2, 0], [10], [99, 0]]),
  (68, .iconst 1, 1, 1, []),
  (69, .iadd, 1, 0, []),
  (70, .putfield 54, 3, 0, [[2, 0], [10], [99, 0]]),
  (73, .aload_n 0, 1, 0, []),
  (74, .getfield 10, 3, 0, [[0, 0], [11], [257, 0]]),
  (77, .getfield 54, 3, 0, [[2, 0], [10], [99, 0]]),
  (80, .iconst 1, 1, 1, []),
  (81, .isub, 1, 0, []),
  (82, .ireturn, 1, 0, [[0]])]
/-- 78: SoldWeather.told(I)I -/
def m_X11_told : List aI := [
  (0, .iload_n 1, 1, 0, []),
  (1, .tableswitch 82 0 4 #[35, 43, 51, 59, 67], 35, 0, [[25], [2, 6, 10, 14, 18]]),
  (36, .aload_n 0, 1, 0, []),
  (37, .getfield 10, 3, 0, [[0, 0], [11], [257, 0]]),
  (40, .invokevirtual 69, 3, 0, [[0, 0], [10, 71, 0, 415, 416, 417, 61]]),
  (43, .ireturn, 1, 0, [[0]]),
  (44, .aload_n 0, 1, 0, []),
  (45, .getfield 10, 3, 0, [[0, 0], [11], [257, 0]]),
  (48, .invokevirtual 73, 3, 0, [[0, 0], [10, 72, 0, 419, 420, 421, 61]]),
  (51, .ireturn, 1, 0, [[0]]),
  (52, .aload_n 0, 1, 0, []),
  (53, .getfield 10, 3, 0, [[0, 0], [11], [257, 0]]),
  (56, .getfield 76, 3, 0, [[4, 0], [10], [105, 0]]),
  (59, .ireturn, 1, 0, [[0]]),
  (60, .aload_n 0, 1, 0, []),
  (61, .getfield 10, 3, 0, [[0, 0], [11], [257, 0]]),
  (64, .getfield 79, 3, 0, [[5, 0], [10], [108, 0]]),
  (67, .ireturn, 1, 0, [[0]]),
  (68, .aload_n 0, 1, 0, []),
  (69, .getfield 10, 3, 0, [[0, 0], [11], [257, 0]]),
  (72, .aload_n 0, 1, 0, []),
  (73, .getfield 10, 3, 0, [[0, 0], [11], [257, 0]]),
  (76, .getfield 82, 3, 0, [[8, 0], [10], [115, 0]]),
  (79, .invokevirtual 85, 3, 0, [[0, 1], [10, 73, 0, 423, 424, 425, 61]]),
  (82, .ireturn, 1, 0, [[0]]),
  (83, .iconst (-1), 1, (-1), []),
  (84, .ireturn, 1, 0, [[0]])]
/-- 79: SoldWeather.fortune(I)I -/
def m_X11_fortune : List aI := [
  (0, .aload_n 0, 1, 0, []),
  (1, .getfield 10, 3, 0, [[0, 0], [11], [257, 0]]),
  (4, .getfield 88, 3, 0, [[6, 0], [10], [110, 0]]),
  (7, .aload_n 0, 1, 0, []),
  (8, .getfield 10, 3, 0, [[0, 0], [11], [257, 0]]),
  (11, .getfield 91, 3, 0, [[7, 0], [10], [112, 0]]),
  (14, .iload_n 1, 1, 0, []),
  (15, .invokestatic 94, 3, 0, [[0, 105, 3], [431, 432, 60]]),
  (18, .istore_n 2, 1, 0, []),
  (19, .iload_n 2, 1, 0, []),
  (20, .ifCond .lt 19, 3, 0, [[19]]),
  (23, .aload_n 0, 1, 0, []),
  (24, .getfield 10, 3, 0, [[0, 0], [11], [257, 0]]),
  (27, .iload_n 2, 1, 0, []),
  (28, .putfield 91, 3, 0, [[7, 0], [10], [112, 0]]),
  (31, .aload_n 0, 1, 0, []),
  (32, .getfield 10, 3, 0, [[0, 0], [11], [257, 0]]),
  (35, .iconst 0, 1, 0, []),
  (36, .putfield 82, 3, 0, [[8, 0], [10], [115, 0]]),
  (39, .iload_n 2, 1, 0, []),
  (40, .ireturn, 1, 0, [[0]])]
/-- 80: SoldWeather.person(III)I -/
def m_X11_person : List aI := [
  (0, .aload_n 0, 1, 0, []),
  (1, .getfield 10, 3, 0, [[0, 0], [11], [257, 0]]),
  (4, .getfield 98, 3, 0, [[12, 0], [10], [126, 0]]),
  (7, .istore 4, 2, 0, []),
  (9, .iload_n 1, 1, 0, []),
  (10, .invokestatic 101, 3, 0, [[0, 103, 1], [441, 442, 60]]),
  (13, .ifCond .ne 5, 3, 0, [[9]]),
  (16, .iconst (-1), 1, (-1), []),
  (17, .ireturn, 1, 0, [[0]]),
  (18, .iload_n 2, 1, 0, []),
  (19, .ifCond .lt 20, 3, 0, [[19]]),
  (22, .iload_n 2, 1, 0, []),
  (23, .bipush 9, 2, 9, []),
  (25, .if_icmp .gt 14, 3, 0, [[19]]),
  (28, .iload_n 3, 1, 0, []),
  (29, .ifCond .lt 10, 3, 0, [[19]]),
  (32, .iload_n 3, 1, 0, []),
  (33, .sipush 999, 3, 999, []),
  (36, .if_icmp .le 6, 3, 0, [[21]]),
  (39, .bipush (-2), 2, (-2), []),
  (41, .ireturn, 1, 0, [[0]]),
  (42, .iload 4, 2, 0, []),
  (44, .bipush 8, 2, 8, []),
  (46, .if_icmp .lt 6, 3, 0, [[26]]),
  (49, .bipush (-4), 2, (-4), []),
  (51, .ireturn, 1, 0, [[0]]),
  (52, .aload_n 0, 1, 0, []),
  (53, .getfield 10, 3, 0, [[0, 0], [11], [257, 0]]),
  (56, .getfield 105, 3, 0, [[9, 0], [10], [117, 0]]),
  (59, .iload 4, 2, 0, []),
  (61, .iload_n 1, 1, 0, []),
  (62, .iload 4, 2, 0, []),
  (64, .iload_n 2, 1, 0, []),
  (65, .invokestatic 109, 3, 0, [[0, 106, 3], [444, 445, 60]]),
  (68, .aastore, 1, 0, [[0, 1, 3, 4, 6, 7, 8]]),
  (69, .aload_n 0, 1, 0, []),
  (70, .getfield 10, 3, 0, [[0, 0], [11], [257, 0]]),
  (73, .getfield 113, 3, 0, [[10, 0], [10], [120, 0]]),
  (76, .iload 4, 2, 0, []),
  (78, .iload_n 3, 1, 0, []),
  (79, .iastore, 1, 0, []),
  (80, .aload_n 0, 1, 0, []),
  (81, .getfield 10, 3, 0, [[0, 0], [11], [257, 0]]),
  (84, .dup, 1, 0, []),
  (85, .getfield 98, 3, 0, [[12, 0], [10], [126, 0]]),
  (88, .iconst 1, 1, 1, []),
  (89, .iadd, 1, 0, []),
  (90, .putfield 98, 3, 0, [[12, 0], [10], [126, 0]]),
  (93, .iload 4, 2, 0, []),
  (95, .ireturn, 1, 0, [[0]])]
/-- 81: SoldWeather.row(III)I -/
def m_X11_row : List aI := [
  (0, .aload_n 0, 1, 0, []),
  (1, .getfield 10, 3, 0, [[0, 0], [11], [257, 0]]),
  (4, .iload_n 1, 1, 0, []),
  (5, .invokevirtual 116, 3, 0, [[0, 1], [10, 70, 0, 549, 550, 551, 61]]),
  (8, .astore 4, 2, 0, []),
  (10, .aload 4, 2, 0, []),
  (12, .ifnull 10, 3, 0, [[10]]),
  (15, .iload_n 2, 1, 0, []),
  (16, .invokestatic 120, 3, 0, [[0, 102, 1], [434, 435, 60]]),
  (19, .ifCond .ne 5, 3, 0, [[12]]),
  (22, .iconst (-1), 1, (-1), []),
  (23, .ireturn, 1, 0, [[0]]),
  (24, .iload_n 3, 1, 0, []),
  (25, .ifCond .lt 9, 3, 0, [[17]]),
  (28, .iload_n 3, 1, 0, []),
  (29, .bipush 99, 2, 99, []),
  (31, .if_icmp .le 6, 3, 0, [[19]]),
  (34, .bipush (-2), 2, (-2), []),
  (36, .ireturn, 1, 0, [[0]]),
  (37, .aload 4, 2, 0, []),
  (39, .instanceof 123, 3, 0, [[8], [0, 1, 3, 4, 6, 7], [528]]),
  (42, .ifCond .ne 6, 3, 0, [[24]]),
  (45, .bipush (-3), 2, (-3), []),
  (47, .ireturn, 1, 0, [[0]]),
  (48, .iload_n 1, 1, 0, []),
  (49, .iconst 4, 1, 4, []),
  (50, .imul, 1, 0, []),
  (51, .iload_n 2, 1, 0, []),
  (52, .iadd, 1, 0, []),
  (53, .istore 5, 2, 0, []),
  (55, .aload_n 0, 1, 0, []),
  (56, .getfield 10, 3, 0, [[0, 0], [11], [257, 0]]),
  (59, .getfield 125, 3, 0, [[11, 0], [10], [122, 0]]),
  (62, .iload 5, 2, 0, []),
  (64, .iaload, 1, 0, []),
  (65, .istore 6, 2, 0, []),
  (67, .aload_n 0, 1, 0, []),
  (68, .getfield 10, 3, 0, [[0, 0], [11], [257, 0]]),
  (71, .getfield 125, 3, 0, [[11, 0], [10], [122, 0]]),
  (74, .iload 5, 2, 0, []),
  (76, .iload_n 3, 1, 0, []),
  (77, .iastore, 1, 0, []),
  (78, .iload 6, 2, 0, []),
  (80, .ireturn, 1, 0, [[0]])]
/-- 82: SoldWeather.of(II)I -/
def m_X11_of : List aI := [
  (0, .aload_n 0, 1, 0, []),
  (1, .getfield 10, 3, 0, [[0, 0], [11], [257, 0]]),
  (4, .iload_n 1, 1, 0, []),
  (5, .invokevirtual 116, 3, 0, [[0, 1], [10, 70, 0, 549, 550, 551, 61]]),
  (8, .astore_n 3, 1, 0, []),
  (9, .aload_n 3, 1, 0, []),
  (10, .ifnonnull 7, 3, 0, [[9]]),
  (13, .sipush (-10001), 3, (-10001), []),
  (16, .ireturn, 1, 0, [[0]]),
  (17, .iload_n 2, 1, 0, []),
  (18, .bipush 10, 2, 10, []),
  (20, .isub, 1, 0, []),
  (21, .invokestatic 120, 3, 0, [[0, 102, 1], [434, 435, 60]]),
  (24, .ifCond .eq 31, 3, 0, [[29]]),
  (27, .aload_n 0, 1, 0, []),
  (28, .getfield 34, 3, 0, [[2, 0], [11], [259, 0]]),
  (31, .invokevirtual 128, 3, 0, [[0, 0], [2, 10, 0, 561, 562, 563, 63]]),
  (34, .aload_n 0, 1, 0, []),
  (35, .getfield 34, 3, 0, [[2, 0], [11], [259, 0]]),
  (38, .iload_n 1, 1, 0, []),
  (39, .invokevirtual 131, 3, 0, [[0, 1], [2, 13, 0, 566, 567, 568, 63]]),
  (42, .aload_n 0, 1, 0, []),
  (43, .getfield 34, 3, 0, [[2, 0], [11], [259, 0]]),
  (46, .iload_n 1, 1, 0, []),
  (47, .iload_n 2, 1, 0, []),
  (48, .bipush 10, 2, 10, []),
  (50, .isub, 1, 0, []),
  (51, .invokevirtual 135, 3, 0, [[0, 2], [2, 22, 0, 631, 632, 633, 63]]),
  (54, .ireturn, 1, 0, [[0]]),
  (55, .iload_n 2, 1, 0, []),
  (56, .bipush 20, 2, 20, []),
  (58, .isub, 1, 0, []),
  (59, .invokestatic 120, 3, 0, [[0, 102, 1], [434, 435, 60]]),
  (62, .ifCond .eq 23, 3, 0, [[45]]),
  (65, .aload_n 0, 1, 0, []),
  (66, .getfield 34, 3, 0, [[2, 0], [11], [259, 0]]),
  (69, .invokevirtual 128, 3, 0, [[0, 0], [2, 10, 0, 561, 562, 563, 63]]),
  (72, .aload_n 0, 1, 0, []),
  (73, .getfield 34, 3, 0, [[2, 0], [11], [259, 0]]),
  (76, .iload_n 1, 1, 0, []),
  (77, .iload_n 2, 1, 0, []),
  (78, .bipush 20, 2, 20, []),
  (80, .isub, 1, 0, []),
  (81, .invokevirtual 139, 3, 0, [[0, 2], [2, 29, 0, 635, 636, 637, 63]]),
  (84, .ireturn, 1, 0, [[0]]),
  (85, .iload_n 2, 1, 0, []),
  (86, .tableswitch 46 0 2 #[26, 31, 36], 26, 0, [[59], [47, 50, 53]]),
  (112, .aload_n 3, 1, 0, []),
  (113, .getfield 142, 3, 0, [[0, 0], [0, 1, 3, 4, 6, 7, 8], [457, 0]]),
  (116, .ireturn, 1, 0, [[0]]),
  (117, .aload_n 3, 1, 0, []),
  (118, .getfield 147, 3, 0, [[2, 0], [0, 1, 3, 4, 6, 7, 8], [480, 0]]),
  (121, .ireturn, 1, 0, [[0]]),
  (122, .aload_n 0, 1, 0, []),
  (123, .getfield 10, 3, 0, [[0, 0], [11], [257, 0]]),
  (126, .getfield 113, 3, 0, [[10, 0], [10], [120, 0]]),
  (129, .iload_n 1, 1, 0, []),
  (130, .iaload, 1, 0, []),
  (131, .ireturn, 1, 0, [[0]]),
  (132, .sipush (-10001), 3, (-10001), []),
  (135, .ireturn, 1, 0, [[0]])]
/-- 83: SoldWeather.go()I -/
def m_X11_go : List aI := [
  (0, .aload_n 0, 1, 0, []),
  (1, .getfield 10, 3, 0, [[0, 0], [11], [257, 0]]),
  (4, .getfield 76, 3, 0, [[4, 0], [10], [105, 0]]),
  (7, .bipush 99, 2, 99, []),
  (9, .if_icmp .lt 6, 3, 0, [[7]]),
  (12, .bipush (-3), 2, (-3), []),
  (14, .ireturn, 1, 0, [[0]]),
  (15, .aload_n 0, 1, 0, []),
  (16, .getfield 34, 3, 0, [[2, 0], [11], [259, 0]]),
  (19, .invokevirtual 128, 3, 0, [[0, 0], [2, 10, 0, 561, 562, 563, 63]]),
  (22, .aload_n 0, 1, 0, []),
  (23, .getfield 34, 3, 0, [[2, 0], [11], [259, 0]]),
  (26, .invokevirtual 150, 3, 0, [[0, 0], [2, 12, 0, 644, 645, 646, 63]]),
  (29, .aload_n 0, 1, 0, []),
  (30, .getfield 34, 3, 0, [[2, 0], [11], [259, 0]]),
  (33, .invokevirtual 153, 3, 0, [[0, 0], [2, 19, 0, 657, 658, 659, 63]]),
  (36, .pop, 1, 0, []),
  (37, .aload_n 0, 1, 0, []),
  (38, .getfield 34, 3, 0, [[2, 0], [11], [259, 0]]),
  (41, .invokevirtual 156, 3, 0, [[0, 0], [2, 11, 0, 679, 680, 681, 63]]),
  (44, .aload_n 0, 1, 0, []),
  (45, .getfield 10, 3, 0, [[0, 0], [11], [257, 0]]),
  (48, .getfield 79, 3, 0, [[5, 0], [10], [108, 0]]),
  (51, .ireturn, 1, 0, [[0]])]
/-- 84: SoldWeather.sold(I)I -/
def m_X11_sold : List aI := [
  (0, .aload_n 0, 1, 0, []),
  (1, .getfield 10, 3, 0, [[0, 0], [11], [257, 0]]),
  (4, .iload_n 1, 1, 0, []),
  (5, .bipush 10, 2, 10, []),
  (7, .isub, 1, 0, []),
  (8, .invokevirtual 159, 3, 0, [[0, 1], [10, 69, 0, 687, 554, 555, 61]]),
  (11, .istore_n 2, 1, 0, []),
  (12, .iload_n 1, 1, 0, []),
  (13, .ifCond .eq 16, 3, 0, [[16]]),
  (16, .iload_n 1, 1, 0, []),
  (17, .iconst 1, 1, 1, []),
  (18, .if_icmp .eq 11, 3, 0, [[16]]),
  (21, .iload_n 2, 1, 0, []),
  (22, .ifCond .ne 7, 3, 0, [[16]]),
  (25, .sipush (-10001), 3, (-10001), []),
  (28, .ireturn, 1, 0, [[0]]),
  (29, .aload_n 0, 1, 0, []),
  (30, .getfield 34, 3, 0, [[2, 0], [11], [259, 0]]),
  (33, .invokevirtual 128, 3, 0, [[0, 0], [2, 10, 0, 561, 562, 563, 63]]),
  (36, .aload_n 0, 1, 0, []),
  (37, .getfield 34, 3, 0, [[2, 0], [11], [259, 0]]),
  (40, .invokevirtual 150, 3, 0, [[0, 0], [2, 12, 0, 644, 645, 646, 63]]),
  (43, .iload_n 2, 1, 0, []),
  (44, .ifCond .eq 15, 3, 0, [[31]]),
  (47, .aload_n 0, 1, 0, []),
  (48, .getfield 34, 3, 0, [[2, 0], [11], [259, 0]]),
  (51, .iload_n 1, 1, 0, []),
  (52, .bipush 10, 2, 10, []),
  (54, .isub, 1, 0, []),
  (55, .invokevirtual 162, 3, 0, [[0, 1], [2, 16, 0, 688, 663, 664, 63]]),
  (58, .ireturn, 1, 0, [[0]]),
  (59, .iload_n 1, 1, 0, []),
  (60, .ifCond .ne 13, 3, 0, [[37]]),
  (63, .aload_n 0, 1, 0, []),
  (64, .getfield 34, 3, 0, [[2, 0], [11], [259, 0]]),
  (67, .getfield 165, 3, 0, [[9, 0], [2], [235, 0]]),
  (70, .goto 17, 3, 0, [[43]]),
  (73, .aload_n 0, 1, 0, []),
  (74, .getfield 34, 3, 0, [[2, 0], [11], [259, 0]]),
  (77, .aload_n 0, 1, 0, []),
  (78, .getfield 34, 3, 0, [[2, 0], [11], [259, 0]]),
  (81, .getfield 165, 3, 0, [[9, 0], [2], [235, 0]]),
  (84, .invokevirtual 168, 3, 0, [[0, 1], [2, 23, 0, 689, 690, 691, 63]]),
  (87, .ireturn, 1, 0, [[0]])]
/-- 85: SoldWeather.run(II)I -/
def m_X11_run : List aI := [
  (0, .aload_n 0, 1, 0, []),
  (1, .getfield 10, 3, 0, [[0, 0], [11], [257, 0]]),
  (4, .iload_n 2, 1, 0, []),
  (5, .bipush 10, 2, 10, []),
  (7, .isub, 1, 0, []),
  (8, .invokevirtual 159, 3, 0, [[0, 1], [10, 69, 0, 687, 554, 555, 61]]),
  (11, .istore_n 3, 1, 0, []),
  (12, .iload_n 3, 1, 0, []),
  (13, .ifCond .ne 16, 3, 0, [[16]]),
  (16, .iload_n 2, 1, 0, []),
  (17, .ifCond .lt 8, 3, 0, [[14]]),
  (20, .iload_n 2, 1, 0, []),
  (21, .iconst 2, 1, 2, []),
  (22, .if_icmp .le 7, 3, 0, [[16]]),
  (25, .sipush (-10001), 3, (-10001), []),
  (28, .ireturn, 1, 0, [[0]]),
  (29, .iload_n 1, 1, 0, []),
  (30, .ifCond .lt 9, 3, 0, [[21]]),
  (33, .iload_n 1, 1, 0, []),
  (34, .bipush 40, 2, 40, []),
  (36, .if_icmp .le 7, 3, 0, [[23]]),
  (39, .sipush (-10002), 3, (-10002), []),
  (42, .ireturn, 1, 0, [[0]]),
  (43, .bipush (-5), 2, (-5), []),
  (45, .istore 4, 2, 0, []),
  (47, .iconst 0, 1, 0, []),
  (48, .istore 5, 2, 0, []),
  (50, .iconst 0, 1, 0, []),
  (51, .istore 6, 2, 0, []),
  (53, .aload_n 0, 1, 0, []),
  (54, .getfield 34, 3, 0, [[2, 0], [11], [259, 0]]),
  (57, .invokevirtual 128, 3, 0, [[0, 0], [2, 10, 0, 561, 562, 563, 63]]),
  (60, .iconst 0, 1, 0, []),
  (61, .istore 7, 2, 0, []),
  (63, .iload 7, 2, 0, []),
  (65, .iload_n 1, 1, 0, []),
  (66, .if_icmp .ge 51, 3, 0, [[59]]),
  (69, .aload_n 0, 1, 0, []),
  (70, .getfield 34, 3, 0, [[2, 0], [11], [259, 0]]),
  (73, .invokevirtual 150, 3, 0, [[0, 0], [2, 12, 0, 644, 645, 646, 63]]),
  (76, .aload_n 0, 1, 0, []),
  (77, .getfield 34, 3, 0, [[2, 0], [11], [259, 0]]),
  (80, .getfield 165, 3, 0, [[9, 0], [2], [235, 0]]),
  (83, .istore 4, 2, 0, []),
  (85, .iload 5, 2, 0, []),
  (87, .aload_n 0, 1, 0, []),
  (88, .getfield 34, 3, 0, [[2, 0], [11], [259, 0]]),
  (91, .iload 4, 2, 0, []),
  (93, .invokevirtual 171, 3, 0, [[0, 1], [2, 30, 0, 697, 698, 699, 63]]),
  (96, .iadd, 1, 0, []),
  (97, .istore 5, 2, 0, []),
  (99, .iload 6, 2, 0, []),
  (101, .aload_n 0, 1, 0, []),
  (102, .getfield 34, 3, 0, [[2, 0], [11], [259, 0]]),
  (105, .invokevirtual 153, 3, 0, [[0, 0], [2, 19, 0, 657, 658, 659, 63]]),
  (108, .iadd, 1, 0, []),
  (109, .istore 6, 2, 0, []),
  (111, .iinc 7 1, 3, 1, []),
  (114, .goto (-51), 3, 0, [[34]]),
  (117, .iload_n 3, 1, 0, []),
  (118, .ifCond .eq 15, 3, 0, [[68]]),
  (121, .aload_n 0, 1, 0, []),
  (122, .getfield 34, 3, 0, [[2, 0], [11], [259, 0]]),
  (125, .iload_n 2, 1, 0, []),
  (126, .bipush 10, 2, 10, []),
  (128, .isub, 1, 0, []),
  (129, .invokevirtual 174, 3, 0, [[0, 1], [2, 21, 0, 705, 609, 610, 63]]),
  (132, .ireturn, 1, 0, [[0]]),
  (133, .iload_n 2, 1, 0, []),
  (134, .ifCond .ne 8, 3, 0, [[72]]),
  (137, .iload 4, 2, 0, []),
  (139, .goto 15, 3, 0, [[78]]),
  (142, .iload_n 2, 1, 0, []),
  (143, .iconst 1, 1, 1, []),
  (144, .if_icmp .ne 8, 3, 0, [[77]]),
  (147, .iload 5, 2, 0, []),
  (149, .goto 5, 3, 0, [[78]]),
  (152, .iload 6, 2, 0, []),
  (154, .ireturn, 1, 0, [[0]])]
/-- 86: SoldWeather.best(II)I -/
def m_X11_best : List aI := [
  (0, .iload_n 1, 1, 0, []),
  (1, .iconst 1, 1, 1, []),
  (2, .if_icmp .lt 9, 3, 0, [[6]]),
  (5, .iload_n 1, 1, 0, []),
  (6, .bipush 8, 2, 8, []),
  (8, .if_icmp .le 7, 3, 0, [[8]]),
  (11, .sipush (-10002), 3, (-10002), []),
  (14, .ireturn, 1, 0, [[0]]),
  (15, .iload_n 2, 1, 0, []),
  (16, .iconst (-1), 1, (-1), []),
  (17, .if_icmp .lt 8, 3, 0, [[14]]),
  (20, .iload_n 2, 1, 0, []),
  (21, .iload_n 1, 1, 0, []),
  (22, .if_icmp .lt 7, 3, 0, [[16]]),
  (25, .sipush (-10001), 3, (-10001), []),
  (28, .ireturn, 1, 0, [[0]]),
  (29, .iconst 0, 1, 0, []),
  (30, .istore_n 3, 1, 0, []),
  (31, .iload_n 3, 1, 0, []),
  (32, .iconst 4, 1, 4, []),
  (33, .if_icmp .ge 20, 3, 0, [[32]]),
  (36, .aload_n 0, 1, 0, []),
  (37, .getfield 47, 3, 0, [[6, 0], [11], [263, 0]]),
  (40, .iload_n 1, 1, 0, []),
  (41, .iconst 4, 1, 4, []),
  (42, .imul, 1, 0, []),
  (43, .iload_n 3, 1, 0, []),
  (44, .iadd, 1, 0, []),
  (45, .iconst 0, 1, 0, []),
  (46, .iastore, 1, 0, []),
  (47, .iinc 3 1, 3, 1, []),
  (50, .goto (-19), 3, 0, [[18]]),
  (53, .iload_n 1, 1, 0, []),
  (54, .iconst 1, 1, 1, []),
  (55, .isub, 1, 0, []),
  (56, .istore_n 3, 1, 0, []),
  (57, .iload_n 3, 1, 0, []),
  (58, .ifCond .lt 31, 3, 0, [[51]]),
  (61, .iconst 0, 1, 0, []),
  (62, .istore 4, 2, 0, []),
  (64, .iload 4, 2, 0, []),
  (66, .iconst 4, 1, 4, []),
  (67, .if_icmp .ge 16, 3, 0, [[49]]),
  (70, .aload_n 0, 1, 0, []),
  (71, .iload_n 3, 1, 0, []),
  (72, .iload 4, 2, 0, []),
  (74, .invokevirtual 177, 3, 0, [[0, 2], [11, 108, 0, 710, 711, 15, 60]]),
  (77, .iinc 4 1, 3, 1, []),
  (80, .goto (-16), 3, 0, [[40]]),
  (83, .iinc 3 (-1), 3, (-1), []),
  (86, .goto (-29), 3, 0, [[36]]),
  (89, .iload_n 2, 1, 0, []),
  (90, .ifCond .ge 16, 3, 0, [[60]]),
  (93, .aload_n 0, 1, 0, []),
  (94, .getfield 47, 3, 0, [[6, 0], [11], [263, 0]]),
  (97, .aload_n 0, 1, 0, []),
  (98, .getfield 10, 3, 0, [[0, 0], [11], [257, 0]]),
  (101, .getfield 79, 3, 0, [[5, 0], [10], [108, 0]]),
  (104, .iaload, 1, 0, []),
  (105, .ireturn, 1, 0, [[0]]),
  (106, .aload_n 0, 1, 0, []),
  (107, .getfield 10, 3, 0, [[0, 0], [11], [257, 0]]),
  (110, .getfield 79, 3, 0, [[5, 0], [10], [108, 0]]),
  (113, .istore_n 3, 1, 0, []),
  (114, .iconst 0, 1, 0, []),
  (115, .istore 4, 2, 0, []),
  (117, .iload 4, 2, 0, []),
  (119, .iload_n 2, 1, 0, []),
  (120, .if_icmp .gt 21, 3, 0, [[80]]),
  (123, .aload_n 0, 1, 0, []),
  (124, .getfield 44, 3, 0, [[5, 0], [11], [262, 0]]),
  (127, .iload 4, 2, 0, []),
  (129, .iconst 4, 1, 4, []),
  (130, .imul, 1, 0, []),
  (131, .iload_n 3, 1, 0, []),
  (132, .iadd, 1, 0, []),
  (133, .iaload, 1, 0, []),
  (134, .istore_n 3, 1, 0, []),
  (135, .iinc 4 1, 3, 1, []),
  (138, .goto (-21), 3, 0, [[66]]),
  (141, .iload_n 3, 1, 0, []),
  (142, .ireturn, 1, 0, [[0]])]
/-- 87: SoldWeather.truly(II)I -/
def m_X11_truly : List aI := [
  (0, .aload_n 0, 1, 0, []),
  (1, .getfield 10, 3, 0, [[0, 0], [11], [257, 0]]),
  (4, .iload_n 1, 1, 0, []),
  (5, .invokevirtual 159, 3, 0, [[0, 1], [10, 69, 0, 687, 554, 555, 61]]),
  (8, .ifCond .eq 12, 3, 0, [[10]]),
  (11, .iload_n 2, 1, 0, []),
  (12, .ifCond .lt 8, 3, 0, [[10]]),
  (15, .iload_n 2, 1, 0, []),
  (16, .iconst 2, 1, 2, []),
  (17, .if_icmp .le 5, 3, 0, [[12]]),
  (20, .iconst (-1), 1, (-1), []),
  (21, .ireturn, 1, 0, [[0]]),
  (22, .aload_n 0, 1, 0, []),
  (23, .getfield 34, 3, 0, [[2, 0], [11], [259, 0]]),
  (26, .invokevirtual 128, 3, 0, [[0, 0], [2, 10, 0, 561, 562, 563, 63]]),
  (29, .aload_n 0, 1, 0, []),
  (30, .getfield 34, 3, 0, [[2, 0], [11], [259, 0]]),
  (33, .invokevirtual 150, 3, 0, [[0, 0], [2, 12, 0, 644, 645, 646, 63]]),
  (36, .aload_n 0, 1, 0, []),
  (37, .getfield 34, 3, 0, [[2, 0], [11], [259, 0]]),
  (40, .iload_n 1, 1, 0, []),
  (41, .invokevirtual 181, 3, 0, [[0, 1], [2, 24, 0, 718, 719, 720, 63]]),
  (44, .istore_n 3, 1, 0, []),
  (45, .iload_n 3, 1, 0, []),
  (46, .istore 4, 2, 0, []),
  (48, .bipush (-5), 2, (-5), []),
  (50, .istore 5, 2, 0, []),
  (52, .bipush (-5), 2, (-5), []),
  (54, .istore 6, 2, 0, []),
  (56, .bipush 40, 2, 40, []),
  (58, .aload_n 0, 1, 0, []),
  (59, .getfield 34, 3, 0, [[2, 0], [11], [259, 0]]),
  (62, .iload_n 1, 1, 0, []),
  (63, .invokevirtual 174, 3, 0, [[0, 1], [2, 21, 0, 705, 609, 610, 63]]),
  (66, .invokestatic 184, 3, 0, [[2], [723, 295, 65, 296]]),
  (69, .istore 7, 2, 0, []),
  (71, .iconst 0, 1, 0, []),
  (72, .istore 8, 2, 0, []),
  (74, .iload 8, 2, 0, []),
  (76, .iconst 4, 1, 4, []),
  (77, .if_icmp .ge 58, 3, 0, [[66]]),
  (80, .iconst 0, 1, 0, []),
  (81, .istore 9, 2, 0, []),
  (83, .iload 9, 2, 0, []),
  (85, .iload 7, 2, 0, []),
  (87, .if_icmp .gt 42, 3, 0, [[64]]),
  (90, .aload_n 0, 1, 0, []),
  (91, .getfield 34, 3, 0, [[2, 0], [11], [259, 0]]),
  (94, .iload_n 1, 1, 0, []),
  (95, .iload 8, 2, 0, []),
  (97, .iload 9, 2, 0, []),
  (99, .invokevirtual 189, 3, 0, [[0, 3], [2, 25, 0, 724, 725, 726, 63]]),
  (102, .istore 10, 2, 0, []),
  (104, .iload 10, 2, 0, []),
  (106, .iload 4, 2, 0, []),
  (108, .if_icmp .le 15, 3, 0, [[62]]),
  (111, .iload 10, 2, 0, []),
  (113, .istore 4, 2, 0, []),
  (115, .iload 8, 2, 0, []),
  (117, .istore 5, 2, 0, []),
  (119, .iload 9, 2, 0, []),
  (121, .istore 6, 2, 0, []),
  (123, .iinc 9 1, 3, 1, []),
  (126, .goto (-43), 3, 0, [[43]]),
  (129, .iinc 8 1, 3, 1, []),
  (132, .goto (-58), 3, 0, [[38]]),
  (135, .iload_n 2, 1, 0, []),
  (136, .ifCond .ne 10, 3, 0, [[72]]),
  (139, .iload 4, 2, 0, []),
  (141, .iload_n 3, 1, 0, []),
  (142, .isub, 1, 0, []),
  (143, .goto 15, 3, 0, [[78]]),
  (146, .iload_n 2, 1, 0, []),
  (147, .iconst 1, 1, 1, []),
  (148, .if_icmp .ne 8, 3, 0, [[77]]),
  (151, .iload 5, 2, 0, []),
  (153, .goto 5, 3, 0, [[78]]),
  (156, .iload 6, 2, 0, []),
  (158, .ireturn, 1, 0, [[0]])]
/-- 88: SoldWeather.harm(I)I -/
def m_X11_harm : List aI := [
  (0, .aload_n 0, 1, 0, []),
  (1, .getfield 10, 3, 0, [[0, 0], [11], [257, 0]]),
  (4, .iload_n 1, 1, 0, []),
  (5, .invokevirtual 159, 3, 0, [[0, 1], [10, 69, 0, 687, 554, 555, 61]]),
  (8, .ifCond .ne 5, 3, 0, [[7]]),
  (11, .iconst (-1), 1, (-1), []),
  (12, .ireturn, 1, 0, [[0]]),
  (13, .aload_n 0, 1, 0, []),
  (14, .getfield 34, 3, 0, [[2, 0], [11], [259, 0]]),
  (17, .invokevirtual 128, 3, 0, [[0, 0], [2, 10, 0, 561, 562, 563, 63]]),
  (20, .aload_n 0, 1, 0, []),
  (21, .getfield 34, 3, 0, [[2, 0], [11], [259, 0]]),
  (24, .invokevirtual 150, 3, 0, [[0, 0], [2, 12, 0, 644, 645, 646, 63]]),
  (27, .aload_n 0, 1, 0, []),
  (28, .getfield 34, 3, 0, [[2, 0], [11], [259, 0]]),
  (31, .iload_n 1, 1, 0, []),
  (32, .invokevirtual 193, 3, 0, [[0, 1], [2, 17, 0, 733, 669, 670, 63]]),
  (35, .ireturn, 1, 0, [[0]])]
/-- 89: SoldWeather.leagues(I)I -/
def m_X11_leagues : List aI := [
  (0, .iload_n 1, 1, 0, []),
  (1, .ifCond .lt 8, 3, 0, [[5]]),
  (4, .iload_n 1, 1, 0, []),
  (5, .iconst 1, 1, 1, []),
  (6, .if_icmp .le 5, 3, 0, [[7]]),
  (9, .iconst (-1), 1, (-1), []),
  (10, .ireturn, 1, 0, [[0]]),
  (11, .aload_n 0, 1, 0, []),
  (12, .getfield 34, 3, 0, [[2, 0], [11], [259, 0]]),
  (15, .invokevirtual 128, 3, 0, [[0, 0], [2, 10, 0, 561, 562, 563, 63]]),
  (18, .aload_n 0, 1, 0, []),
  (19, .getfield 34, 3, 0, [[2, 0], [11], [259, 0]]),
  (22, .invokevirtual 150, 3, 0, [[0, 0], [2, 12, 0, 644, 645, 646, 63]]),
  (25, .iconst 0, 1, 0, []),
  (26, .istore_n 2, 1, 0, []),
  (27, .iload_n 2, 1, 0, []),
  (28, .aload_n 0, 1, 0, []),
  (29, .getfield 10, 3, 0, [[0, 0], [11], [257, 0]]),
  (32, .getfield 98, 3, 0, [[12, 0], [10], [126, 0]]),
  (35, .if_icmp .ge 23, 3, 0, [[30]]),
  (38, .aload_n 0, 1, 0, []),
  (39, .getfield 41, 3, 0, [[4, 0], [11], [261, 0]]),
  (42, .iload_n 2, 1, 0, []),
  (43, .aload_n 0, 1, 0, []),
  (44, .getfield 34, 3, 0, [[2, 0], [11], [259, 0]]),
  (47, .iload_n 2, 1, 0, []),
  (48, .invokevirtual 181, 3, 0, [[0, 1], [2, 24, 0, 718, 719, 720, 63]]),
  (51, .iastore, 1, 0, []),
  (52, .iinc 2 1, 3, 1, []),
  (55, .goto (-28), 3, 0, [[15]]),
  (58, .iconst 0, 1, 0, []),
  (59, .istore_n 2, 1, 0, []),
  (60, .bipush (-5), 2, (-5), []),
  (62, .istore_n 3, 1, 0, []),
  (63, .iconst 0, 1, 0, []),
  (64, .istore 4, 2, 0, []),
  (66, .iload 4, 2, 0, []),
  (68, .aload_n 0, 1, 0, []),
  (69, .getfield 10, 3, 0, [[0, 0], [11], [257, 0]]),
  (72, .getfield 98, 3, 0, [[12, 0], [10], [126, 0]]),
  (75, .if_icmp .ge 82, 3, 0, [[80]]),
  (78, .iload 4, 2, 0, []),
  (80, .iconst 1, 1, 1, []),
  (81, .iadd, 1, 0, []),
  (82, .istore 5, 2, 0, []),
  (84, .iload 5, 2, 0, []),
  (86, .aload_n 0, 1, 0, []),
  (87, .getfield 10, 3, 0, [[0, 0], [11], [257, 0]]),
  (90, .getfield 98, 3, 0, [[12, 0], [10], [126, 0]]),
  (93, .if_icmp .ge 58, 3, 0, [[78]]),
  (96, .aload_n 0, 1, 0, []),
  (97, .getfield 34, 3, 0, [[2, 0], [11], [259, 0]]),
  (100, .iload 4, 2, 0, []),
  (102, .iload 5, 2, 0, []),
  (104, .invokevirtual 196, 3, 0, [[0, 2], [2, 26, 0, 738, 739, 740, 63]]),
  (107, .aload_n 0, 1, 0, []),
  (108, .getfield 41, 3, 0, [[4, 0], [11], [261, 0]]),
  (111, .iload 4, 2, 0, []),
  (113, .iaload, 1, 0, []),
  (114, .aload_n 0, 1, 0, []),
  (115, .getfield 41, 3, 0, [[4, 0], [11], [261, 0]]),
  (118, .iload 5, 2, 0, []),
  (120, .iaload, 1, 0, []),
  (121, .iadd, 1, 0, []),
  (122, .if_icmp .le 23, 3, 0, [[76]]),
  (125, .iload_n 2, 1, 0, []),
  (126, .ifCond .ne 14, 3, 0, [[73]]),
  (129, .bipush 10, 2, 10, []),
  (131, .iload 4, 2, 0, []),
  (133, .imul, 1, 0, []),
  (134, .iload 5, 2, 0, []),
  (136, .iadd, 1, 0, []),
  (137, .goto 4, 3, 0, [[74]]),
  (140, .iload_n 3, 1, 0, []),
  (141, .istore_n 3, 1, 0, []),
  (142, .iinc 2 1, 3, 1, []),
  (145, .iinc 5 1, 3, 1, []),
  (148, .goto (-64), 3, 0, [[45]]),
  (151, .iinc 4 1, 3, 1, []),
  (154, .goto (-88), 3, 0, [[36]]),
  (157, .iload_n 1, 1, 0, []),
  (158, .ifCond .ne 7, 3, 0, [[84]]),
  (161, .iload_n 2, 1, 0, []),
  (162, .goto 4, 3, 0, [[85]]),
  (165, .iload_n 3, 1, 0, []),
  (166, .ireturn, 1, 0, [[0]])]
/-- 90: SoldWeather.beside(I)I -/
def m_X11_beside : List aI := [
  (0, .aload_n 0, 1, 0, []),
  (1, .getfield 10, 3, 0, [[0, 0], [11], [257, 0]]),
  (4, .getfield 199, 3, 0, [[13, 0], [10], [128, 0]]),
  (7, .aload_n 0, 1, 0, []),
  (8, .getfield 10, 3, 0, [[0, 0], [11], [257, 0]]),
  (11, .getfield 202, 3, 0, [[14, 0], [10], [130, 0]]),
  (14, .iload_n 1, 1, 0, []),
  (15, .invokestatic 94, 3, 0, [[0, 105, 3], [431, 432, 60]]),
  (18, .istore_n 2, 1, 0, []),
  (19, .iload_n 2, 1, 0, []),
  (20, .ifCond .lt 11, 3, 0, [[15]]),
  (23, .aload_n 0, 1, 0, []),
  (24, .getfield 10, 3, 0, [[0, 0], [11], [257, 0]]),
  (27, .iload_n 2, 1, 0, []),
  (28, .putfield 202, 3, 0, [[14, 0], [10], [130, 0]]),
  (31, .iload_n 2, 1, 0, []),
  (32, .ireturn, 1, 0, [[0]])]
/-- 91: SoldWeather.spill(II)I -/
def m_X11_spill : List aI := [
  (0, .iload_n 1, 1, 0, []),
  (1, .invokestatic 205, 3, 0, [[0, 104, 1], [750, 751, 60]]),
  (4, .ifCond .eq 13, 3, 0, [[8]]),
  (7, .iload_n 2, 1, 0, []),
  (8, .ifCond .lt 9, 3, 0, [[8]]),
  (11, .iload_n 2, 1, 0, []),
  (12, .bipush 99, 2, 99, []),
  (14, .if_icmp .le 7, 3, 0, [[10]]),
  (17, .sipush (-10002), 3, (-10002), []),
  (20, .ireturn, 1, 0, [[0]]),
  (21, .iconst 0, 1, 0, []),
  (22, .istore_n 3, 1, 0, []),
  (23, .aload_n 0, 1, 0, []),
  (24, .getfield 34, 3, 0, [[2, 0], [11], [259, 0]]),
  (27, .invokevirtual 128, 3, 0, [[0, 0], [2, 10, 0, 561, 562, 563, 63]]),
  (30, .iconst 0, 1, 0, []),
  (31, .istore 4, 2, 0, []),
  (33, .iload 4, 2, 0, []),
  (35, .iload_n 1, 1, 0, []),
  (36, .if_icmp .ge 85, 3, 0, [[60]]),
  (39, .aload_n 0, 1, 0, []),
  (40, .getfield 34, 3, 0, [[2, 0], [11], [259, 0]]),
  (43, .invokevirtual 150, 3, 0, [[0, 0], [2, 12, 0, 644, 645, 646, 63]]),
  (46, .iload_n 3, 1, 0, []),
  (47, .aload_n 0, 1, 0, []),
  (48, .getfield 34, 3, 0, [[2, 0], [11], [259, 0]]),
  (51, .aload_n 0, 1, 0, []),
  (52, .getfield 34, 3, 0, [[2, 0], [11], [259, 0]]),
  (55, .getfield 165, 3, 0, [[9, 0], [2], [235, 0]]),
  (58, .invokevirtual 171, 3, 0, [[0, 1], [2, 30, 0, 697, 698, 699, 63]]),
  (61, .iadd, 1, 0, []),
  (62, .istore_n 3, 1, 0, []),
  (63, .iload 4, 2, 0, []),
  (65, .aload_n 0, 1, 0, []),
  (66, .getfield 10, 3, 0, [[0, 0], [11], [257, 0]]),
  (69, .getfield 202, 3, 0, [[14, 0], [10], [130, 0]]),
  (72, .if_icmp .ge 35, 3, 0, [[54]]),
  (75, .aload_n 0, 1, 0, []),
  (76, .getfield 10, 3, 0, [[0, 0], [11], [257, 0]]),
  (79, .getfield 199, 3, 0, [[13, 0], [10], [128, 0]]),
  (82, .iload 4, 2, 0, []),
  (84, .iaload, 1, 0, []),
  (85, .aload_n 0, 1, 0, []),
  (86, .getfield 34, 3, 0, [[2, 0], [11], [259, 0]]),
  (89, .getfield 165, 3, 0, [[9, 0], [2], [235, 0]]),
  (92, .if_icmp .ne 15, 3, 0, [[54]]),
  (95, .iload_n 3, 1, 0, []),
  (96, .iload_n 2, 1, 0, []),
  (97, .aload_n 0, 1, 0, []),
  (98, .getfield 10, 3, 0, [[0, 0], [11], [257, 0]]),
  (101, .getfield 98, 3, 0, [[12, 0], [10], [126, 0]]),
  (104, .imul, 1, 0, []),
  (105, .iadd, 1, 0, []),
  (106, .istore_n 3, 1, 0, []),
  (107, .aload_n 0, 1, 0, []),
  (108, .getfield 34, 3, 0, [[2, 0], [11], [259, 0]]),
  (111, .invokevirtual 153, 3, 0, [[0, 0], [2, 19, 0, 657, 658, 659, 63]]),
  (114, .pop, 1, 0, []),
  (115, .iinc 4 1, 3, 1, []),
  (118, .goto (-85), 3, 0, [[17]]),
  (121, .iload_n 3, 1, 0, []),
  (122, .ireturn, 1, 0, [[0]])]
/-- 92: SoldWeather.poor(II)I -/
def m_X11_poor : List aI := [
  (0, .iload_n 2, 1, 0, []),
  (1, .ifCond .lt 8, 3, 0, [[5]]),
  (4, .iload_n 2, 1, 0, []),
  (5, .iconst 1, 1, 1, []),
  (6, .if_icmp .le 5, 3, 0, [[7]]),
  (9, .iconst (-1), 1, (-1), []),
  (10, .ireturn, 1, 0, [[0]]),
  (11, .iload_n 1, 1, 0, []),
  (12, .invokestatic 205, 3, 0, [[0, 104, 1], [750, 751, 60]]),
  (15, .ifCond .ne 6, 3, 0, [[12]]),
  (18, .bipush (-2), 2, (-2), []),
  (20, .ireturn, 1, 0, [[0]]),
  (21, .iconst 0, 1, 0, []),
  (22, .istore_n 3, 1, 0, []),
  (23, .iload_n 3, 1, 0, []),
  (24, .aload_n 0, 1, 0, []),
  (25, .getfield 10, 3, 0, [[0, 0], [11], [257, 0]]),
  (28, .getfield 98, 3, 0, [[12, 0], [10], [126, 0]]),
  (31, .if_icmp .ge 16, 3, 0, [[26]]),
  (34, .aload_n 0, 1, 0, []),
  (35, .getfield 41, 3, 0, [[4, 0], [11], [261, 0]]),
  (38, .iload_n 3, 1, 0, []),
  (39, .iconst 0, 1, 0, []),
  (40, .iastore, 1, 0, []),
  (41, .iinc 3 1, 3, 1, []),
  (44, .goto (-21), 3, 0, [[14]]),
  (47, .iconst 1, 1, 1, []),
  (48, .aload_n 0, 1, 0, []),
  (49, .getfield 10, 3, 0, [[0, 0], [11], [257, 0]]),
  (52, .getfield 98, 3, 0, [[12, 0], [10], [126, 0]]),
  (55, .ishl, 1, 0, []),
  (56, .iconst 1, 1, 1, []),
  (57, .isub, 1, 0, []),
  (58, .istore_n 3, 1, 0, []),
  (59, .aload_n 0, 1, 0, []),
  (60, .getfield 34, 3, 0, [[2, 0], [11], [259, 0]]),
  (63, .invokevirtual 128, 3, 0, [[0, 0], [2, 10, 0, 561, 562, 563, 63]]),
  (66, .iconst 0, 1, 0, []),
  (67, .istore 4, 2, 0, []),
  (69, .iload 4, 2, 0, []),
  (71, .iload_n 1, 1, 0, []),
  (72, .if_icmp .ge 33, 3, 0, [[58]]),
  (75, .aload_n 0, 1, 0, []),
  (76, .getfield 34, 3, 0, [[2, 0], [11], [259, 0]]),
  (79, .invokevirtual 150, 3, 0, [[0, 0], [2, 12, 0, 644, 645, 646, 63]]),
  (82, .iload_n 3, 1, 0, []),
  (83, .aload_n 0, 1, 0, []),
  (84, .invokevirtual 208, 3, 0, [[0, 0], [11, 109, 0, 757, 758, 16, 60]]),
  (87, .iconst (-1), 1, (-1), []),
  (88, .ixor, 1, 0, []),
  (89, .iand, 1, 0, []),
  (90, .istore_n 3, 1, 0, []),
  (91, .aload_n 0, 1, 0, []),
  (92, .getfield 34, 3, 0, [[2, 0], [11], [259, 0]]),
  (95, .invokevirtual 153, 3, 0, [[0, 0], [2, 19, 0, 657, 658, 659, 63]]),
  (98, .pop, 1, 0, []),
  (99, .iinc 4 1, 3, 1, []),
  (102, .goto (-33), 3, 0, [[39]]),
  (105, .iload_n 2, 1, 0, []),
  (106, .ifCond .ne 7, 3, 0, [[62]]),
  (109, .iload_n 3, 1, 0, []),
  (110, .goto 7, 3, 0, [[64]]),
  (113, .aload_n 0, 1, 0, []),
  (114, .invokevirtual 211, 3, 0, [[0, 0], [11, 110, 0, 760, 761, 17, 60]]),
  (117, .ireturn, 1, 0, [[0]])]
/-- 93: SoldWeather.worse(I)J -/
def m_X11_worse : List aI := [
  (0, .iload_n 1, 1, 0, []),
  (1, .invokestatic 205, 3, 0, [[0, 104, 1], [750, 751, 60]]),
  (4, .ifCond .ne 7, 3, 0, [[5]]),
  (7, .ldc2_w 214, 3, (-2), [[768]]),
  (10, .lreturn, 1, 0, []),
  (11, .lconst 0, 1, 0, []),
  (12, .lstore_n 2, 1, 0, []),
  (13, .aload_n 0, 1, 0, []),
  (14, .getfield 34, 3, 0, [[2, 0], [11], [259, 0]]),
  (17, .invokevirtual 128, 3, 0, [[0, 0], [2, 10, 0, 561, 562, 563, 63]]),
  (20, .iconst 0, 1, 0, []),
  (21, .istore 4, 2, 0, []),
  (23, .iload 4, 2, 0, []),
  (25, .iload_n 1, 1, 0, []),
  (26, .if_icmp .ge 62, 3, 0, [[43]]),
  (29, .aload_n 0, 1, 0, []),
  (30, .getfield 34, 3, 0, [[2, 0], [11], [259, 0]]),
  (33, .invokevirtual 150, 3, 0, [[0, 0], [2, 12, 0, 644, 645, 646, 63]]),
  (36, .aload_n 0, 1, 0, []),
  (37, .getfield 34, 3, 0, [[2, 0], [11], [259, 0]]),
  (40, .aload_n 0, 1, 0, []),
  (41, .getfield 34, 3, 0, [[2, 0], [11], [259, 0]]),
  (44, .getfield 165, 3, 0, [[9, 0], [2], [235, 0]]),
  (47, .invokevirtual 171, 3, 0, [[0, 1], [2, 30, 0, 697, 698, 699, 63]]),
  (50, .aload_n 0, 1, 0, []),
  (51, .getfield 34, 3, 0, [[2, 0], [11], [259, 0]]),
  (54, .aload_n 0, 1, 0, []),
  (55, .getfield 34, 3, 0, [[2, 0], [11], [259, 0]]),
  (58, .invokevirtual 216, 3, 0, [[0, 0], [2, 20, 0, 769, 653, 654, 63]]),
  (61, .invokevirtual 171, 3, 0, [[0, 1], [2, 30, 0, 697, 698, 699, 63]]),
  (64, .if_icmp .ge 10, 3, 0, [[37]]),
  (67, .lload_n 2, 1, 0, []),
  (68, .lconst 1, 1, 0, []),
  (69, .iload 4, 2, 0, []),
  (71, .lshl, 1, 0, []),
  (72, .lor, 1, 0, []),
  (73, .lstore_n 2, 1, 0, []),
  (74, .aload_n 0, 1, 0, []),
  (75, .getfield 34, 3, 0, [[2, 0], [11], [259, 0]]),
  (78, .invokevirtual 153, 3, 0, [[0, 0], [2, 19, 0, 657, 658, 659, 63]]),
  (81, .pop, 1, 0, []),
  (82, .iinc 4 1, 3, 1, []),
  (85, .goto (-62), 3, 0, [[12]]),
  (88, .lload_n 2, 1, 0, []),
  (89, .lreturn, 1, 0, [])]
/-- 94: SoldWeather.book(I)I -/
def m_X11_book : List aI := [
  (0, .aload_n 0, 1, 0, []),
  (1, .getfield 10, 3, 0, [[0, 0], [11], [257, 0]]),
  (4, .getfield 219, 3, 0, [[15, 0], [10], [132, 0]]),
  (7, .aload_n 0, 1, 0, []),
  (8, .getfield 10, 3, 0, [[0, 0], [11], [257, 0]]),
  (11, .getfield 222, 3, 0, [[16, 0], [10], [134, 0]]),
  (14, .iload_n 1, 1, 0, []),
  (15, .invokestatic 94, 3, 0, [[0, 105, 3], [431, 432, 60]]),
  (18, .istore_n 2, 1, 0, []),
  (19, .iload_n 2, 1, 0, []),
  (20, .ifCond .lt 11, 3, 0, [[15]]),
  (23, .aload_n 0, 1, 0, []),
  (24, .getfield 10, 3, 0, [[0, 0], [11], [257, 0]]),
  (27, .iload_n 2, 1, 0, []),
  (28, .putfield 222, 3, 0, [[16, 0], [10], [134, 0]]),
  (31, .iload_n 2, 1, 0, []),
  (32, .ireturn, 1, 0, [[0]])]
/-- 95: SoldWeather.looked()I -/
def m_X11_looked : List aI := [
  (0, .aload_n 0, 1, 0, []),
  (1, .getfield 34, 3, 0, [[2, 0], [11], [259, 0]]),
  (4, .invokevirtual 128, 3, 0, [[0, 0], [2, 10, 0, 561, 562, 563, 63]]),
  (7, .iconst 0, 1, 0, []),
  (8, .istore_n 1, 1, 0, []),
  (9, .iload_n 1, 1, 0, []),
  (10, .aload_n 0, 1, 0, []),
  (11, .getfield 10, 3, 0, [[0, 0], [11], [257, 0]]),
  (14, .getfield 222, 3, 0, [[16, 0], [10], [134, 0]]),
  (17, .if_icmp .ge 45, 3, 0, [[30]]),
  (20, .aload_n 0, 1, 0, []),
  (21, .getfield 34, 3, 0, [[2, 0], [11], [259, 0]]),
  (24, .invokevirtual 150, 3, 0, [[0, 0], [2, 12, 0, 644, 645, 646, 63]]),
  (27, .aload_n 0, 1, 0, []),
  (28, .getfield 34, 3, 0, [[2, 0], [11], [259, 0]]),
  (31, .getfield 165, 3, 0, [[9, 0], [2], [235, 0]]),
  (34, .aload_n 0, 1, 0, []),
  (35, .getfield 10, 3, 0, [[0, 0], [11], [257, 0]]),
  (38, .getfield 219, 3, 0, [[15, 0], [10], [132, 0]]),
  (41, .iload_n 1, 1, 0, []),
  (42, .iaload, 1, 0, []),
  (43, .if_icmp .eq 5, 3, 0, [[24]]),
  (46, .iload_n 1, 1, 0, []),
  (47, .ireturn, 1, 0, [[0]]),
  (48, .aload_n 0, 1, 0, []),
  (49, .getfield 34, 3, 0, [[2, 0], [11], [259, 0]]),
  (52, .invokevirtual 153, 3, 0, [[0, 0], [2, 19, 0, 657, 658, 659, 63]]),
  (55, .pop, 1, 0, []),
  (56, .iinc 1 1, 3, 1, []),
  (59, .goto (-50), 3, 0, [[5]]),
  (62, .bipush (-5), 2, (-5), []),
  (64, .ireturn, 1, 0, [[0]])]
/-- 96: SoldWeather.act(III)I -/
def m_X11_act : List aI := [
  (0, .aload_n 0, 1, 0, []),
  (1, .getfield 38, 3, 0, [[3, 0], [11], [260, 0]]),
  (4, .iconst 0, 1, 0, []),
  (5, .iconst 0, 1, 0, []),
  (6, .iastore, 1, 0, []),
  (7, .aload_n 0, 1, 0, []),
  (8, .getfield 10, 3, 0, [[0, 0], [11], [257, 0]]),
  (11, .iload_n 1, 1, 0, []),
  (12, .invokevirtual 116, 3, 0, [[0, 1], [10, 70, 0, 549, 550, 551, 61]]),
  (15, .astore 4, 2, 0, []),
  (17, .aload 4, 2, 0, []),
  (19, .ifnonnull 5, 3, 0, [[14]]),
  (22, .iconst 0, 1, 0, []),
  (23, .ireturn, 1, 0, [[0]]),
  (24, .iload_n 2, 1, 0, []),
  (25, .tableswitch 60 0 2 #[27, 38, 49], 27, 0, [[34], [16, 22, 28]]),
  (52, .aload 4, 2, 0, []),
  (54, .iload_n 3, 1, 0, []),
  (55, .aload_n 0, 1, 0, []),
  (56, .getfield 38, 3, 0, [[3, 0], [11], [260, 0]]),
  (59, .invokevirtual 225, 3, 0, [[0, 2], [0, 5, 1, 782, 785, 786, 783, 72], [1, 5, 0, 782, 783, 784, 72], [3, 5, 1, 782, 785, 787, 783, 72], [4, 38, 2, 782, 785, 788, 789, 73, 783, 805], [6, 38, 2, 782, 785, 796, 789, 73, 783, 805], [7, 60, 2, 782, 785, 797, 798, 77, 783, 805], [8, 5, 1, 782, 785, 804, 783, 72]]),
  (62, .ireturn, 1, 0, [[0]]),
  (63, .aload 4, 2, 0, []),
  (65, .iload_n 3, 1, 0, []),
  (66, .aload_n 0, 1, 0, []),
  (67, .getfield 38, 3, 0, [[3, 0], [11], [260, 0]]),
  (70, .invokevirtual 229, 3, 0, [[0, 2], [0, 6, 1, 807, 810, 811, 808, 72], [1, 6, 0, 807, 808, 809, 72], [3, 35, 2, 807, 810, 812, 813, 74, 808, 827], [4, 6, 1, 807, 810, 818, 808, 72], [6, 6, 1, 807, 810, 819, 808, 72], [7, 35, 2, 807, 810, 820, 813, 74, 808, 827], [8, 63, 2, 807, 810, 821, 822, 78, 808, 827]]),
  (73, .ireturn, 1, 0, [[0]]),
  (74, .aload 4, 2, 0, []),
  (76, .iload_n 3, 1, 0, []),
  (77, .aload_n 0, 1, 0, []),
  (78, .getfield 38, 3, 0, [[3, 0], [11], [260, 0]]),
  (81, .invokevirtual 232, 3, 0, [[0, 2], [0, 2, 2, 829, 832, 833, 834, 75, 830, 853], [1, 7, 0, 829, 830, 831, 72], [3, 7, 1, 829, 832, 839, 830, 72], [4, 7, 1, 829, 832, 840, 830, 72], [6, 57, 2, 829, 832, 841, 842, 76, 830, 853], [7, 7, 1, 829, 832, 851, 830, 72], [8, 7, 1, 829, 832, 852, 830, 72]]),
  (84, .ireturn, 1, 0, [[0]]),
  (85, .iconst 0, 1, 0, []),
  (86, .ireturn, 1, 0, [[0]])]
/-- 97: SoldWeather.trace(I)I -/
def m_X11_trace : List aI := [
  (0, .iload_n 1, 1, 0, []),
  (1, .ifCond .lt 18, 3, 0, [[10]]),
  (4, .iload_n 1, 1, 0, []),
  (5, .aload_n 0, 1, 0, []),
  (6, .getfield 38, 3, 0, [[3, 0], [11], [260, 0]]),
  (9, .iconst 0, 1, 0, []),
  (10, .iaload, 1, 0, []),
  (11, .bipush 20, 2, 20, []),
  (13, .invokestatic 184, 3, 0, [[2], [723, 295, 65, 296]]),
  (16, .if_icmp .lt 5, 3, 0, [[12]]),
  (19, .iconst (-1), 1, (-1), []),
  (20, .ireturn, 1, 0, [[0]]),
  (21, .aload_n 0, 1, 0, []),
  (22, .getfield 38, 3, 0, [[3, 0], [11], [260, 0]]),
  (25, .iconst 1, 1, 1, []),
  (26, .iload_n 1, 1, 0, []),
  (27, .iadd, 1, 0, []),
  (28, .iaload, 1, 0, []),
  (29, .ireturn, 1, 0, [[0]])]
/-- 98: SoldWeather.as(II)I -/
def m_X11_as : List aI := [
  (0, .aload_n 0, 1, 0, []),
  (1, .getfield 10, 3, 0, [[0, 0], [11], [257, 0]]),
  (4, .iload_n 1, 1, 0, []),
  (5, .invokevirtual 116, 3, 0, [[0, 1], [10, 70, 0, 549, 550, 551, 61]]),
  (8, .astore_n 3, 1, 0, []),
  (9, .aload_n 3, 1, 0, []),
  (10, .ifnull 10, 3, 0, [[10]]),
  (13, .iload_n 2, 1, 0, []),
  (14, .invokestatic 101, 3, 0, [[0, 103, 1], [441, 442, 60]]),
  (17, .ifCond .ne 5, 3, 0, [[12]]),
  (20, .iconst (-1), 1, (-1), []),
  (21, .ireturn, 1, 0, [[0]]),
  (22, .aload_n 3, 1, 0, []),
  (23, .iload_n 2, 1, 0, []),
  (24, .invokestatic 235, 3, 0, [[0, 107, 2], [863, 864, 60]]),
  (27, .ifCond .eq 10, 3, 0, [[19]]),
  (30, .aload_n 3, 1, 0, []),
  (31, .getfield 147, 3, 0, [[2, 0], [0, 1, 3, 4, 6, 7, 8], [480, 0]]),
  (34, .goto 5, 3, 0, [[20]]),
  (37, .bipush (-6), 2, (-6), []),
  (39, .ireturn, 1, 0, [[0]])]
/-- 99: SoldWeather.image()I -/
def m_X11_image : List aI := [
  (0, .aload_n 0, 1, 0, []),
  (1, .getfield 239, 3, 0, [[7, 0], [11], [264, 0]]),
  (4, .ifnonnull 14, 3, 0, [[8]]),
  (7, .aload_n 0, 1, 0, []),
  (8, .new 7, 3, 0, [[10], [87, 88, 61]]),
  (11, .dup, 1, 0, []),
  (12, .invokespecial 9, 3, 0, [[0, 67, 0], [89, 90, 61]]),
  (15, .putfield 239, 3, 0, [[7, 2], [11], [264, 0]]),
  (18, .aload_n 0, 1, 0, []),
  (19, .getfield 239, 3, 0, [[7, 0], [11], [264, 0]]),
  (22, .aload_n 0, 1, 0, []),
  (23, .getfield 10, 3, 0, [[0, 0], [11], [257, 0]]),
  (26, .invokevirtual 242, 3, 0, [[0, 1], [10, 68, 0, 870, 871, 872, 61]]),
  (29, .aload_n 0, 1, 0, []),
  (30, .getfield 10, 3, 0, [[0, 0], [11], [257, 0]]),
  (33, .getfield 98, 3, 0, [[12, 0], [10], [126, 0]]),
  (36, .ireturn, 1, 0, [[0]])]
/-- 100: SoldWeather.undo()I -/
def m_X11_undo : List aI := [
  (0, .aload_n 0, 1, 0, []),
  (1, .getfield 239, 3, 0, [[7, 0], [11], [264, 0]]),
  (4, .ifnonnull 6, 3, 0, [[5]]),
  (7, .bipush (-3), 2, (-3), []),
  (9, .ireturn, 1, 0, [[0]]),
  (10, .aload_n 0, 1, 0, []),
  (11, .getfield 10, 3, 0, [[0, 0], [11], [257, 0]]),
  (14, .aload_n 0, 1, 0, []),
  (15, .getfield 239, 3, 0, [[7, 0], [11], [264, 0]]),
  (18, .invokevirtual 242, 3, 0, [[0, 1], [10, 68, 0, 870, 871, 872, 61]]),
  (21, .aload_n 0, 1, 0, []),
  (22, .getfield 10, 3, 0, [[0, 0], [11], [257, 0]]),
  (25, .getfield 98, 3, 0, [[12, 0], [10], [126, 0]]),
  (28, .ireturn, 1, 0, [[0]])]
/-- 101: SoldWeather.count(I)I -/
def m_X11_count : List aI := [
  (0, .iload_n 1, 1, 0, []),
  (1, .tableswitch 98 0 6 #[43, 51, 59, 67, 75, 83, 91], 43, 0, [[31], [2, 6, 10, 14, 18, 22, 26]]),
  (44, .aload_n 0, 1, 0, []),
  (45, .getfield 10, 3, 0, [[0, 0], [11], [257, 0]]),
  (48, .getfield 98, 3, 0, [[12, 0], [10], [126, 0]]),
  (51, .ireturn, 1, 0, [[0]]),
  (52, .aload_n 0, 1, 0, []),
  (53, .getfield 10, 3, 0, [[0, 0], [11], [257, 0]]),
  (56, .getfield 54, 3, 0, [[2, 0], [10], [99, 0]]),
  (59, .ireturn, 1, 0, [[0]]),
  (60, .aload_n 0, 1, 0, []),
  (61, .getfield 10, 3, 0, [[0, 0], [11], [257, 0]]),
  (64, .getfield 91, 3, 0, [[7, 0], [10], [112, 0]]),
  (67, .ireturn, 1, 0, [[0]]),
  (68, .aload_n 0, 1, 0, []),
  (69, .getfield 10, 3, 0, [[0, 0], [11], [257, 0]]),
  (72, .getfield 202, 3, 0, [[14, 0], [10], [130, 0]]),
  (75, .ireturn, 1, 0, [[0]]),
  (76, .aload_n 0, 1, 0, []),
  (77, .getfield 10, 3, 0, [[0, 0], [11], [257, 0]]),
  (80, .getfield 222, 3, 0, [[16, 0], [10], [134, 0]]),
  (83, .ireturn, 1, 0, [[0]]),
  (84, .aload_n 0, 1, 0, []),
  (85, .getfield 10, 3, 0, [[0, 0], [11], [257, 0]]),
  (88, .getfield 50, 3, 0, [[1, 0], [10], [96, 0]]),
  (91, .ireturn, 1, 0, [[0]]),
  (92, .aload_n 0, 1, 0, []),
  (93, .getfield 38, 3, 0, [[3, 0], [11], [260, 0]]),
  (96, .iconst 0, 1, 0, []),
  (97, .iaload, 1, 0, []),
  (98, .ireturn, 1, 0, [[0]]),
  (99, .iconst (-1), 1, (-1), []),
  (100, .ireturn, 1, 0, [[0]])]
/-- 102: SoldWeather.isWeather(I)Z -/
def m_X11_isWeather : List aI := [
  (0, .iload_n 0, 1, 0, []),
  (1, .ifCond .lt 12, 3, 0, [[7]]),
  (4, .iload_n 0, 1, 0, []),
  (5, .iconst 4, 1, 4, []),
  (6, .if_icmp .ge 7, 3, 0, [[7]]),
  (9, .iconst 1, 1, 1, []),
  (10, .goto 4, 3, 0, [[8]]),
  (13, .iconst 0, 1, 0, []),
  (14, .ireturn, 1, 0, [[1]])]
/-- 103: SoldWeather.isKind(I)Z -/
def m_X11_isKind : List aI := [
  (0, .iload_n 0, 1, 0, []),
  (1, .ifCond .lt 13, 3, 0, [[7]]),
  (4, .iload_n 0, 1, 0, []),
  (5, .bipush 7, 2, 7, []),
  (7, .if_icmp .ge 7, 3, 0, [[7]]),
  (10, .iconst 1, 1, 1, []),
  (11, .goto 4, 3, 0, [[8]]),
  (14, .iconst 0, 1, 0, []),
  (15, .ireturn, 1, 0, [[1]])]
/-- 104: SoldWeather.isRun(I)Z -/
def m_X11_isRun : List aI := [
  (0, .iload_n 0, 1, 0, []),
  (1, .iconst 1, 1, 1, []),
  (2, .if_icmp .lt 13, 3, 0, [[8]]),
  (5, .iload_n 0, 1, 0, []),
  (6, .bipush 40, 2, 40, []),
  (8, .if_icmp .gt 7, 3, 0, [[8]]),
  (11, .iconst 1, 1, 1, []),
  (12, .goto 4, 3, 0, [[9]]),
  (15, .iconst 0, 1, 0, []),
  (16, .ireturn, 1, 0, [[1]])]
/-- 105: SoldWeather.grown([III)I -/
def m_X11_grown : List aI := [
  (0, .iload_n 2, 1, 0, []),
  (1, .iconst (-1), 1, (-1), []),
  (2, .if_icmp .ne 5, 3, 0, [[5]]),
  (5, .iconst 0, 1, 0, []),
  (6, .ireturn, 1, 0, [[0]]),
  (7, .iload_n 2, 1, 0, []),
  (8, .invokestatic 120, 3, 0, [[0, 102, 1], [434, 435, 60]]),
  (11, .ifCond .ne 5, 3, 0, [[10]]),
  (14, .iconst (-1), 1, (-1), []),
  (15, .ireturn, 1, 0, [[0]]),
  (16, .iload_n 1, 1, 0, []),
  (17, .ifCond .lt 9, 3, 0, [[16]]),
  (20, .iload_n 1, 1, 0, []),
  (21, .aload_n 0, 1, 0, []),
  (22, .arraylength, 1, 0, []),
  (23, .if_icmp .lt 6, 3, 0, [[18]]),
  (26, .bipush (-4), 2, (-4), []),
  (28, .ireturn, 1, 0, [[0]]),
  (29, .aload_n 0, 1, 0, []),
  (30, .iload_n 1, 1, 0, []),
  (31, .iload_n 2, 1, 0, []),
  (32, .iastore, 1, 0, []),
  (33, .iload_n 1, 1, 0, []),
  (34, .iconst 1, 1, 1, []),
  (35, .iadd, 1, 0, []),
  (36, .ireturn, 1, 0, [[0]])]
/-- 106: SoldWeather.ofKind(III)LSoldWeather$Bidder; -/
def m_X11_ofKind : List aI := [
  (0, .iload_n 0, 1, 0, []),
  (1, .tableswitch 105 1 6 #[39, 50, 61, 72, 83, 94], 39, 0, [[44], [2, 9, 16, 23, 30, 37]]),
  (40, .new 245, 3, 0, [[4], [447, 448, 73]]),
  (43, .dup, 1, 0, []),
  (44, .iload_n 0, 1, 0, []),
  (45, .iload_n 1, 1, 0, []),
  (46, .iload_n 2, 1, 0, []),
  (47, .invokespecial 247, 3, 0, [[0, 36, 3], [449, 450, 73]]),
  (50, .areturn, 1, 0, []),
  (51, .new 250, 3, 0, [[3], [488, 489, 74]]),
  (54, .dup, 1, 0, []),
  (55, .iload_n 0, 1, 0, []),
  (56, .iload_n 1, 1, 0, []),
  (57, .iload_n 2, 1, 0, []),
  (58, .invokespecial 252, 3, 0, [[0, 33, 3], [490, 491, 74]]),
  (61, .areturn, 1, 0, []),
  (62, .new 253, 3, 0, [[0], [498, 499, 75]]),
  (65, .dup, 1, 0, []),
  (66, .iload_n 0, 1, 0, []),
  (67, .iload_n 1, 1, 0, []),
  (68, .iload_n 2, 1, 0, []),
  (69, .invokespecial 255, 3, 0, [[0, 0, 3], [500, 501, 75]]),
  (72, .areturn, 1, 0, []),
  (73, .new 256, 3, 0, [[6], [508, 509, 76]]),
  (76, .dup, 1, 0, []),
  (77, .iload_n 0, 1, 0, []),
  (78, .iload_n 1, 1, 0, []),
  (79, .iload_n 2, 1, 0, []),
  (80, .invokespecial 258, 3, 0, [[0, 55, 3], [510, 511, 76]]),
  (83, .areturn, 1, 0, []),
  (84, .new 259, 3, 0, [[7], [518, 519, 77]]),
  (87, .dup, 1, 0, []),
  (88, .iload_n 0, 1, 0, []),
  (89, .iload_n 1, 1, 0, []),
  (90, .iload_n 2, 1, 0, []),
  (91, .invokespecial 261, 3, 0, [[0, 58, 3], [520, 521, 77]]),
  (94, .areturn, 1, 0, []),
  (95, .new 123, 3, 0, [[8], [528, 529, 78]]),
  (98, .dup, 1, 0, []),
  (99, .iload_n 0, 1, 0, []),
  (100, .iload_n 1, 1, 0, []),
  (101, .iload_n 2, 1, 0, []),
  (102, .invokespecial 262, 3, 0, [[0, 61, 3], [530, 531, 78]]),
  (105, .areturn, 1, 0, []),
  (106, .new 143, 3, 0, [[1], [538, 539, 72]]),
  (109, .dup, 1, 0, []),
  (110, .iload_n 0, 1, 0, []),
  (111, .iload_n 1, 1, 0, []),
  (112, .iload_n 2, 1, 0, []),
  (113, .invokespecial 263, 3, 0, [[0, 3, 3], [540, 453, 72]]),
  (116, .areturn, 1, 0, [])]
/-- 107: SoldWeather.isUnder(LSoldWeather$Bidder;I)Z -/
def m_X11_isUnder : List aI := [
  (0, .iload_n 1, 1, 0, []),
  (1, .tableswitch 66 0 5 #[39, 41, 46, 51, 56, 61], 39, 0, [[19], [2, 4, 7, 10, 13, 16]]),
  (40, .iconst 1, 1, 1, []),
  (41, .ireturn, 1, 0, [[1]]),
  (42, .aload_n 0, 1, 0, []),
  (43, .instanceof 245, 3, 0, [[4, 6], [0, 1, 3, 7, 8], [447]]),
  (46, .ireturn, 1, 0, [[1]]),
  (47, .aload_n 0, 1, 0, []),
  (48, .instanceof 250, 3, 0, [[3, 7, 8], [0, 1, 4, 6], [488]]),
  (51, .ireturn, 1, 0, [[1]]),
  (52, .aload_n 0, 1, 0, []),
  (53, .instanceof 253, 3, 0, [[0], [1, 3, 4, 6, 7, 8], [498]]),
  (56, .ireturn, 1, 0, [[1]]),
  (57, .aload_n 0, 1, 0, []),
  (58, .instanceof 256, 3, 0, [[6], [0, 1, 3, 4, 7, 8], [508]]),
  (61, .ireturn, 1, 0, [[1]]),
  (62, .aload_n 0, 1, 0, []),
  (63, .instanceof 259, 3, 0, [[7], [0, 1, 3, 4, 6, 8], [518]]),
  (66, .ireturn, 1, 0, [[1]]),
  (67, .aload_n 0, 1, 0, []),
  (68, .instanceof 123, 3, 0, [[8], [0, 1, 3, 4, 6, 7], [528]]),
  (71, .ireturn, 1, 0, [[1]])]
/-- 108: SoldWeather.planDay(II)V -/
def m_X11_planDay : List aI := [
  (0, .iconst 0, 1, 0, []),
  (1, .istore_n 3, 1, 0, []),
  (2, .iconst 0, 1, 0, []),
  (3, .istore 4, 2, 0, []),
  (5, .iconst 0, 1, 0, []),
  (6, .istore 5, 2, 0, []),
  (8, .iload 5, 2, 0, []),
  (10, .iconst 4, 1, 4, []),
  (11, .if_icmp .ge 63, 3, 0, [[42]]),
  (14, .aload_n 0, 1, 0, []),
  (15, .getfield 34, 3, 0, [[2, 0], [11], [259, 0]]),
  (18, .iload 5, 2, 0, []),
  (20, .aload_n 0, 1, 0, []),
  (21, .getfield 10, 3, 0, [[0, 0], [11], [257, 0]]),
  (24, .getfield 76, 3, 0, [[4, 0], [10], [105, 0]]),
  (27, .iload_n 1, 1, 0, []),
  (28, .iadd, 1, 0, []),
  (29, .iload_n 2, 1, 0, []),
  (30, .invokevirtual 264, 3, 0, [[0, 3], [2, 31, 0, 713, 702, 703, 63]]),
  (33, .aload_n 0, 1, 0, []),
  (34, .getfield 47, 3, 0, [[6, 0], [11], [263, 0]]),
  (37, .iload_n 1, 1, 0, []),
  (38, .iconst 1, 1, 1, []),
  (39, .iadd, 1, 0, []),
  (40, .iconst 4, 1, 4, []),
  (41, .imul, 1, 0, []),
  (42, .iload 5, 2, 0, []),
  (44, .iadd, 1, 0, []),
  (45, .iaload, 1, 0, []),
  (46, .iadd, 1, 0, []),
  (47, .istore 6, 2, 0, []),
  (49, .iload 5, 2, 0, []),
  (51, .ifCond .eq 10, 3, 0, [[36]]),
  (54, .iload 6, 2, 0, []),
  (56, .iload 4, 2, 0, []),
  (58, .if_icmp .le 10, 3, 0, [[40]]),
  (61, .iload 6, 2, 0, []),
  (63, .istore 4, 2, 0, []),
  (65, .iload 5, 2, 0, []),
  (67, .istore_n 3, 1, 0, []),
  (68, .iinc 5 1, 3, 1, []),
  (71, .goto (-63), 3, 0, [[6]]),
  (74, .aload_n 0, 1, 0, []),
  (75, .getfield 44, 3, 0, [[5, 0], [11], [262, 0]]),
  (78, .iload_n 1, 1, 0, []),
  (79, .iconst 4, 1, 4, []),
  (80, .imul, 1, 0, []),
  (81, .iload_n 2, 1, 0, []),
  (82, .iadd, 1, 0, []),
  (83, .iload_n 3, 1, 0, []),
  (84, .iastore, 1, 0, []),
  (85, .aload_n 0, 1, 0, []),
  (86, .getfield 47, 3, 0, [[6, 0], [11], [263, 0]]),
  (89, .iload_n 1, 1, 0, []),
  (90, .iconst 4, 1, 4, []),
  (91, .imul, 1, 0, []),
  (92, .iload_n 2, 1, 0, []),
  (93, .iadd, 1, 0, []),
  (94, .iload 4, 2, 0, []),
  (96, .iastore, 1, 0, []),
  (97, .return_, 1, 0, [])]
/-- 109: SoldWeather.tallyWorth()I -/
def m_X11_tallyWorth : List aI := [
  (0, .iconst 0, 1, 0, []),
  (1, .istore_n 1, 1, 0, []),
  (2, .iconst 0, 1, 0, []),
  (3, .istore_n 2, 1, 0, []),
  (4, .iload_n 2, 1, 0, []),
  (5, .aload_n 0, 1, 0, []),
  (6, .getfield 10, 3, 0, [[0, 0], [11], [257, 0]]),
  (9, .getfield 98, 3, 0, [[12, 0], [10], [126, 0]]),
  (12, .if_icmp .ge 45, 3, 0, [[35]]),
  (15, .aload_n 0, 1, 0, []),
  (16, .getfield 34, 3, 0, [[2, 0], [11], [259, 0]]),
  (19, .iload_n 2, 1, 0, []),
  (20, .aload_n 0, 1, 0, []),
  (21, .getfield 34, 3, 0, [[2, 0], [11], [259, 0]]),
  (24, .getfield 165, 3, 0, [[9, 0], [2], [235, 0]]),
  (27, .invokevirtual 139, 3, 0, [[0, 2], [2, 29, 0, 635, 636, 637, 63]]),
  (30, .istore_n 3, 1, 0, []),
  (31, .aload_n 0, 1, 0, []),
  (32, .getfield 41, 3, 0, [[4, 0], [11], [261, 0]]),
  (35, .iload_n 2, 1, 0, []),
  (36, .dup2, 1, 0, []),
  (37, .iaload, 1, 0, []),
  (38, .iload_n 3, 1, 0, []),
  (39, .iadd, 1, 0, []),
  (40, .iastore, 1, 0, []),
  (41, .iload_n 3, 1, 0, []),
  (42, .ifCond .le 9, 3, 0, [[33]]),
  (45, .iload_n 1, 1, 0, []),
  (46, .iconst 1, 1, 1, []),
  (47, .iload_n 2, 1, 0, []),
  (48, .ishl, 1, 0, []),
  (49, .ior, 1, 0, []),
  (50, .istore_n 1, 1, 0, []),
  (51, .iinc 2 1, 3, 1, []),
  (54, .goto (-50), 3, 0, [[4]]),
  (57, .iload_n 1, 1, 0, []),
  (58, .ireturn, 1, 0, [[0]])]
/-- 110: SoldWeather.tallySpan()I -/
def m_X11_tallySpan : List aI := [
  (0, .aload_n 0, 1, 0, []),
  (1, .getfield 41, 3, 0, [[4, 0], [11], [261, 0]]),
  (4, .iconst 0, 1, 0, []),
  (5, .iaload, 1, 0, []),
  (6, .istore_n 1, 1, 0, []),
  (7, .aload_n 0, 1, 0, []),
  (8, .getfield 41, 3, 0, [[4, 0], [11], [261, 0]]),
  (11, .iconst 0, 1, 0, []),
  (12, .iaload, 1, 0, []),
  (13, .istore_n 2, 1, 0, []),
  (14, .iconst 1, 1, 1, []),
  (15, .istore_n 3, 1, 0, []),
  (16, .iload_n 3, 1, 0, []),
  (17, .aload_n 0, 1, 0, []),
  (18, .getfield 10, 3, 0, [[0, 0], [11], [257, 0]]),
  (21, .getfield 98, 3, 0, [[12, 0], [10], [126, 0]]),
  (24, .if_icmp .ge 31, 3, 0, [[33]]),
  (27, .iload_n 1, 1, 0, []),
  (28, .aload_n 0, 1, 0, []),
  (29, .getfield 41, 3, 0, [[4, 0], [11], [261, 0]]),
  (32, .iload_n 3, 1, 0, []),
  (33, .iaload, 1, 0, []),
  (34, .invokestatic 184, 3, 0, [[2], [723, 295, 65, 296]]),
  (37, .istore_n 1, 1, 0, []),
  (38, .iload_n 2, 1, 0, []),
  (39, .aload_n 0, 1, 0, []),
  (40, .getfield 41, 3, 0, [[4, 0], [11], [261, 0]]),
  (43, .iload_n 3, 1, 0, []),
  (44, .iaload, 1, 0, []),
  (45, .invokestatic 267, 3, 0, [[1], [763, 590, 65, 591]]),
  (48, .istore_n 2, 1, 0, []),
  (49, .iinc 3 1, 3, 1, []),
  (52, .goto (-36), 3, 0, [[12]]),
  (55, .aload_n 0, 1, 0, []),
  (56, .getfield 10, 3, 0, [[0, 0], [11], [257, 0]]),
  (59, .getfield 98, 3, 0, [[12, 0], [10], [126, 0]]),
  (62, .ifCond .ne 7, 3, 0, [[39]]),
  (65, .iconst 0, 1, 0, []),
  (66, .goto 6, 3, 0, [[42]]),
  (69, .iload_n 2, 1, 0, []),
  (70, .iload_n 1, 1, 0, []),
  (71, .isub, 1, 0, []),
  (72, .ireturn, 1, 0, [[0]])]
/-- 111: SoldWeatherModel.<init>()V -/
def m_X12_init : List aI := [
  (0, .aload_n 0, 1, 0, []),
  (1, .invokespecial 1, 3, 0, [[1], [888, 85, 86]]),
  (4, .aload_n 0, 1, 0, []),
  (5, .sipush 947, 3, 947, []),
  (8, .newarray .int, 2, 0, [[170]]),
  (10, .putfield 7, 3, 0, [[1, 2], [12], [889, 0]]),
  (13, .aload_n 0, 1, 0, []),
  (14, .sipush 947, 3, 947, []),
  (17, .newarray .int, 2, 0, [[170]]),
  (19, .putfield 13, 3, 0, [[2, 2], [12], [890, 0]]),
  (22, .aload_n 0, 1, 0, []),
  (23, .bipush 11, 2, 11, []),
  (25, .newarray .int, 2, 0, [[170]]),
  (27, .putfield 16, 3, 0, [[3, 2], [12], [891, 0]]),
  (30, .aload_n 0, 1, 0, []),
  (31, .iconst 5, 1, 5, []),
  (32, .newarray .int, 2, 0, [[170]]),
  (34, .putfield 19, 3, 0, [[10, 2], [12], [898, 0]]),
  (37, .aload_n 0, 1, 0, []),
  (38, .bipush 64, 2, 64, []),
  (40, .newarray .boolean, 2, 0, [[964]]),
  (42, .putfield 22, 3, 0, [[11, 2], [12], [899, 0]]),
  (45, .aload_n 0, 1, 0, []),
  (46, .bipush 32, 2, 32, []),
  (48, .newarray .int, 2, 0, [[170]]),
  (50, .putfield 26, 3, 0, [[12, 2], [12], [900, 0]]),
  (53, .aload_n 0, 1, 0, []),
  (54, .iconst 4, 1, 4, []),
  (55, .newarray .int, 2, 0, [[170]]),
  (57, .putfield 29, 3, 0, [[13, 2], [12], [901, 0]]),
  (60, .aload_n 0, 1, 0, []),
  (61, .bipush 36, 2, 36, []),
  (63, .newarray .int, 2, 0, [[170]]),
  (65, .putfield 32, 3, 0, [[18, 2], [12], [906, 0]]),
  (68, .aload_n 0, 1, 0, []),
  (69, .bipush 8, 2, 8, []),
  (71, .newarray .int, 2, 0, [[170]]),
  (73, .putfield 35, 3, 0, [[19, 2], [12], [907, 0]]),
  (76, .aload_n 0, 1, 0, []),
  (77, .bipush 20, 2, 20, []),
  (79, .newarray .int, 2, 0, [[170]]),
  (81, .putfield 38, 3, 0, [[20, 2], [12], [908, 0]]),
  (84, .aload_n 0, 1, 0, []),
  (85, .getfield 7, 3, 0, [[1, 0], [12], [889, 0]]),
  (88, .bipush 17, 2, 17, []),
  (90, .iconst (-1), 1, (-1), []),
  (91, .iastore, 1, 0, []),
  (92, .aload_n 0, 1, 0, []),
  (93, .getfield 7, 3, 0, [[1, 0], [12], [889, 0]]),
  (96, .bipush 13, 2, 13, []),
  (98, .iconst 4, 1, 4, []),
  (99, .iastore, 1, 0, []),
  (100, .iconst 0, 1, 0, []),
  (101, .istore_n 1, 1, 0, []),
  (102, .iload_n 1, 1, 0, []),
  (103, .iconst 4, 1, 4, []),
  (104, .if_icmp .ge 20, 3, 0, [[66]]),
  (107, .aload_n 0, 1, 0, []),
  (108, .getfield 7, 3, 0, [[1, 0], [12], [889, 0]]),
  (111, .sipush 188, 3, 188, []),
  (114, .iload_n 1, 1, 0, []),
  (115, .iadd, 1, 0, []),
  (116, .iload_n 1, 1, 0, []),
  (117, .iastore, 1, 0, []),
  (118, .iinc 1 1, 3, 1, []),
  (121, .goto (-19), 3, 0, [[54]]),
  (124, .return_, 1, 0, [])]
/-- 112: SoldWeatherModel.in(III)Z -/
def m_X12_in : List aI := [
  (0, .iload_n 0, 1, 0, []),
  (1, .iload_n 1, 1, 0, []),
  (2, .if_icmp .lt 12, 3, 0, [[8]]),
  (5, .iload_n 0, 1, 0, []),
  (6, .iload_n 2, 1, 0, []),
  (7, .if_icmp .gt 7, 3, 0, [[8]]),
  (10, .iconst 1, 1, 1, []),
  (11, .goto 4, 3, 0, [[9]]),
  (14, .iconst 0, 1, 0, []),
  (15, .ireturn, 1, 0, [[1]])]
/-- 113: SoldWeatherModel.isWeather(I)Z -/
def m_X12_isWeather : List aI := [
  (0, .iload_n 0, 1, 0, []),
  (1, .iconst 0, 1, 0, []),
  (2, .iconst 3, 1, 3, []),
  (3, .invokestatic 45, 3, 0, [[0, 112, 3], [969, 970, 64]]),
  (6, .ireturn, 1, 0, [[1]])]
/-- 114: SoldWeatherModel.isPerson(I)Z -/
def m_X12_isPerson : List aI := [
  (0, .iload_n 1, 1, 0, []),
  (1, .iconst 0, 1, 0, []),
  (2, .aload_n 0, 1, 0, []),
  (3, .getfield 7, 3, 0, [[1, 0], [12], [889, 0]]),
  (6, .bipush 11, 2, 11, []),
  (8, .iaload, 1, 0, []),
  (9, .iconst 1, 1, 1, []),
  (10, .isub, 1, 0, []),
  (11, .invokestatic 45, 3, 0, [[0, 112, 3], [969, 970, 64]]),
  (14, .ireturn, 1, 0, [[1]])]
/-- 115: SoldWeatherModel.keeps()V -/
def m_X12_keeps : List aI := [
  (0, .iconst 0, 1, 0, []),
  (1, .istore_n 1, 1, 0, []),
  (2, .iload_n 1, 1, 0, []),
  (3, .bipush 11, 2, 11, []),
  (5, .if_icmp .ge 21, 3, 0, [[15]]),
  (8, .aload_n 0, 1, 0, []),
  (9, .getfield 16, 3, 0, [[3, 0], [12], [891, 0]]),
  (12, .iload_n 1, 1, 0, []),
  (13, .aload_n 0, 1, 0, []),
  (14, .getfield 7, 3, 0, [[1, 0], [12], [889, 0]]),
  (17, .iload_n 1, 1, 0, []),
  (18, .iaload, 1, 0, []),
  (19, .iastore, 1, 0, []),
  (20, .iinc 1 1, 3, 1, []),
  (23, .goto (-21), 3, 0, [[2]]),
  (26, .return_, 1, 0, [])]
/-- 116: SoldWeatherModel.goesBack()V -/
def m_X12_goesBack : List aI := [
  (0, .iconst 0, 1, 0, []),
  (1, .istore_n 1, 1, 0, []),
  (2, .iload_n 1, 1, 0, []),
  (3, .bipush 11, 2, 11, []),
  (5, .if_icmp .ge 21, 3, 0, [[15]]),
  (8, .aload_n 0, 1, 0, []),
  (9, .getfield 7, 3, 0, [[1, 0], [12], [889, 0]]),
  (12, .iload_n 1, 1, 0, []),
  (13, .aload_n 0, 1, 0, []),
  (14, .getfield 16, 3, 0, [[3, 0], [12], [891, 0]]),
  (17, .iload_n 1, 1, 0, []),
  (18, .iaload, 1, 0, []),
  (19, .iastore, 1, 0, []),
  (20, .iinc 1 1, 3, 1, []),
  (23, .goto (-21), 3, 0, [[2]]),
  (26, .return_, 1, 0, [])]
/-- 117: SoldWeatherModel.feed(I)I -/
def m_X12_feed : List aI := [
  (0, .iload_n 1, 1, 0, []),
  (1, .iconst 0, 1, 0, []),
  (2, .bipush 127, 2, 127, []),
  (4, .invokestatic 45, 3, 0, [[0, 112, 3], [969, 970, 64]]),
  (7, .ifCond .ne 6, 3, 0, [[7]]),
  (10, .bipush (-2), 2, (-2), []),
  (12, .ireturn, 1, 0, [[0]]),
  (13, .aload_n 0, 1, 0, []),
  (14, .getfield 7, 3, 0, [[1, 0], [12], [889, 0]]),
  (17, .bipush 16, 2, 16, []),
  (19, .iaload, 1, 0, []),
  (20, .bipush 120, 2, 120, []),
  (22, .if_icmp .ne 6, 3, 0, [[15]]),
  (25, .bipush (-4), 2, (-4), []),
  (27, .ireturn, 1, 0, [[0]]),
  (28, .aload_n 0, 1, 0, []),
  (29, .getfield 7, 3, 0, [[1, 0], [12], [889, 0]]),
  (32, .bipush 20, 2, 20, []),
  (34, .aload_n 0, 1, 0, []),
  (35, .getfield 7, 3, 0, [[1, 0], [12], [889, 0]]),
  (38, .bipush 16, 2, 16, []),
  (40, .iaload, 1, 0, []),
  (41, .iadd, 1, 0, []),
  (42, .iload_n 1, 1, 0, []),
  (43, .iastore, 1, 0, []),
  (44, .aload_n 0, 1, 0, []),
  (45, .getfield 7, 3, 0, [[1, 0], [12], [889, 0]]),
  (48, .bipush 16, 2, 16, []),
  (50, .dup2, 1, 0, []),
  (51, .iaload, 1, 0, []),
  (52, .iconst 1, 1, 1, []),
  (53, .iadd, 1, 0, []),
  (54, .iastore, 1, 0, []),
  (55, .aload_n 0, 1, 0, []),
  (56, .getfield 7, 3, 0, [[1, 0], [12], [889, 0]]),
  (59, .bipush 16, 2, 16, []),
  (61, .iaload, 1, 0, []),
  (62, .ireturn, 1, 0, [[0]])]
/-- 118: SoldWeatherModel.here()I -/
def m_X12_here : List aI := [
  (0, .aload_n 0, 1, 0, []),
  (1, .getfield 49, 3, 0, [[6, 0], [12], [894, 0]]),
  (4, .aload_n 0, 1, 0, []),
  (5, .getfield 52, 3, 0, [[7, 0], [12], [895, 0]]),
  (8, .if_icmp .ge 18, 3, 0, [[13]]),
  (11, .aload_n 0, 1, 0, []),
  (12, .getfield 7, 3, 0, [[1, 0], [12], [889, 0]]),
  (15, .bipush 20, 2, 20, []),
  (17, .aload_n 0, 1, 0, []),
  (18, .getfield 49, 3, 0, [[6, 0], [12], [894, 0]]),
  (21, .iadd, 1, 0, []),
  (22, .iaload, 1, 0, []),
  (23, .goto 4, 3, 0, [[14]]),
  (26, .iconst (-1), 1, (-1), []),
  (27, .ireturn, 1, 0, [[0]])]
/-- 119: SoldWeatherModel.must(I)V -/
def m_X12_must : List aI := [
  (0, .aload_n 0, 1, 0, []),
  (1, .aload_n 0, 1, 0, []),
  (2, .getfield 55, 3, 0, [[8, 0], [12], [896, 0]]),
  (5, .ifCond .ne 11, 3, 0, [[8]]),
  (8, .aload_n 0, 1, 0, []),
  (9, .invokevirtual 59, 3, 0, [[0, 0], [12, 118, 0, 979, 980, 19, 64]]),
  (12, .iload_n 1, 1, 0, []),
  (13, .if_icmp .eq 7, 3, 0, [[10]]),
  (16, .iconst 1, 1, 1, []),
  (17, .goto 4, 3, 0, [[11]]),
  (20, .iconst 0, 1, 0, []),
  (21, .putfield 55, 3, 0, [[8, 1], [12], [896, 0]]),
  (24, .aload_n 0, 1, 0, []),
  (25, .dup, 1, 0, []),
  (26, .getfield 49, 3, 0, [[6, 0], [12], [894, 0]]),
  (29, .aload_n 0, 1, 0, []),
  (30, .getfield 55, 3, 0, [[8, 0], [12], [896, 0]]),
  (33, .ifCond .eq 7, 3, 0, [[20]]),
  (36, .iconst 0, 1, 0, []),
  (37, .goto 4, 3, 0, [[21]]),
  (40, .iconst 1, 1, 1, []),
  (41, .iadd, 1, 0, []),
  (42, .putfield 49, 3, 0, [[6, 0], [12], [894, 0]]),
  (45, .return_, 1, 0, [])]
/-- 120: SoldWeatherModel.spells(Ljava/lang/String;)V -/
def m_X12_spells : List aI := [
  (0, .iconst 0, 1, 0, []),
  (1, .istore_n 2, 1, 0, []),
  (2, .iload_n 2, 1, 0, []),
  (3, .aload_n 1, 1, 0, []),
  (4, .invokevirtual 63, 3, 0, [[5, 182, 0], [988, 310, 311, 66]]),
  (7, .if_icmp .ge 18, 3, 0, [[13]]),
  (10, .aload_n 0, 1, 0, []),
  (11, .aload_n 1, 1, 0, []),
  (12, .iload_n 2, 1, 0, []),
  (13, .invokevirtual 68, 3, 0, [[5, 183, 1], [989, 319, 320, 66]]),
  (16, .invokevirtual 72, 3, 0, [[0, 1], [12, 119, 0, 990, 991, 22, 64]]),
  (19, .iinc 2 1, 3, 1, []),
  (22, .goto (-20), 3, 0, [[2]]),
  (25, .return_, 1, 0, [])]
/-- 121: SoldWeatherModel.figures()I -/
def m_X12_figures : List aI := [
  (0, .aload_n 0, 1, 0, []),
  (1, .aload_n 0, 1, 0, []),
  (2, .getfield 55, 3, 0, [[8, 0], [12], [896, 0]]),
  (5, .ifCond .ne 17, 3, 0, [[10]]),
  (8, .aload_n 0, 1, 0, []),
  (9, .invokevirtual 59, 3, 0, [[0, 0], [12, 118, 0, 979, 980, 19, 64]]),
  (12, .bipush 48, 2, 48, []),
  (14, .bipush 57, 2, 57, []),
  (16, .invokestatic 45, 3, 0, [[0, 112, 3], [969, 970, 64]]),
  (19, .ifCond .ne 7, 3, 0, [[12]]),
  (22, .iconst 1, 1, 1, []),
  (23, .goto 4, 3, 0, [[13]]),
  (26, .iconst 0, 1, 0, []),
  (27, .putfield 55, 3, 0, [[8, 1], [12], [896, 0]]),
  (30, .iconst 0, 1, 0, []),
  (31, .istore_n 1, 1, 0, []),
  (32, .iconst 0, 1, 0, []),
  (33, .istore_n 2, 1, 0, []),
  (34, .iload_n 2, 1, 0, []),
  (35, .iconst 2, 1, 2, []),
  (36, .if_icmp .ge 61, 3, 0, [[51]]),
  (39, .aload_n 0, 1, 0, []),
  (40, .getfield 55, 3, 0, [[8, 0], [12], [896, 0]]),
  (43, .ifCond .ne 54, 3, 0, [[51]]),
  (46, .aload_n 0, 1, 0, []),
  (47, .invokevirtual 59, 3, 0, [[0, 0], [12, 118, 0, 979, 980, 19, 64]]),
  (50, .bipush 48, 2, 48, []),
  (52, .bipush 57, 2, 57, []),
  (54, .invokestatic 45, 3, 0, [[0, 112, 3], [969, 970, 64]]),
  (57, .ifCond .eq 40, 3, 0, [[51]]),
  (60, .iload_n 2, 1, 0, []),
  (61, .ifCond .eq 7, 3, 0, [[34]]),
  (64, .iload_n 1, 1, 0, []),
  (65, .ifCond .le 32, 3, 0, [[51]]),
  (68, .bipush 10, 2, 10, []),
  (70, .iload_n 1, 1, 0, []),
  (71, .imul, 1, 0, []),
  (72, .aload_n 0, 1, 0, []),
  (73, .invokevirtual 59, 3, 0, [[0, 0], [12, 118, 0, 979, 980, 19, 64]]),
  (76, .iadd, 1, 0, []),
  (77, .bipush 48, 2, 48, []),
  (79, .isub, 1, 0, []),
  (80, .istore_n 1, 1, 0, []),
  (81, .aload_n 0, 1, 0, []),
  (82, .dup, 1, 0, []),
  (83, .getfield 49, 3, 0, [[6, 0], [12], [894, 0]]),
  (86, .iconst 1, 1, 1, []),
  (87, .iadd, 1, 0, []),
  (88, .putfield 49, 3, 0, [[6, 0], [12], [894, 0]]),
  (91, .iinc 2 1, 3, 1, []),
  (94, .goto (-60), 3, 0, [[18]]),
  (97, .iload_n 1, 1, 0, []),
  (98, .ireturn, 1, 0, [[0]])]
/-- 122: SoldWeatherModel.among(Ljava/lang/String;)I -/
def m_X12_among : List aI := [
  (0, .iconst 0, 1, 0, []),
  (1, .istore_n 2, 1, 0, []),
  (2, .iload_n 2, 1, 0, []),
  (3, .aload_n 1, 1, 0, []),
  (4, .invokevirtual 63, 3, 0, [[5, 182, 0], [988, 310, 311, 66]]),
  (7, .if_icmp .ge 33, 3, 0, [[22]]),
  (10, .aload_n 0, 1, 0, []),
  (11, .invokevirtual 59, 3, 0, [[0, 0], [12, 118, 0, 979, 980, 19, 64]]),
  (14, .aload_n 1, 1, 0, []),
  (15, .iload_n 2, 1, 0, []),
  (16, .invokevirtual 68, 3, 0, [[5, 183, 1], [989, 319, 320, 66]]),
  (19, .if_icmp .ne 15, 3, 0, [[20]]),
  (22, .aload_n 0, 1, 0, []),
  (23, .dup, 1, 0, []),
  (24, .getfield 49, 3, 0, [[6, 0], [12], [894, 0]]),
  (27, .iconst 1, 1, 1, []),
  (28, .iadd, 1, 0, []),
  (29, .putfield 49, 3, 0, [[6, 0], [12], [894, 0]]),
  (32, .iload_n 2, 1, 0, []),
  (33, .ireturn, 1, 0, [[0]]),
  (34, .iinc 2 1, 3, 1, []),
  (37, .goto (-35), 3, 0, [[2]]),
  (40, .iconst (-1), 1, (-1), []),
  (41, .ireturn, 1, 0, [[0]])]
/-- 123: SoldWeatherModel.emits(I)V -/
def m_X12_emits : List aI := [
  (0, .aload_n 0, 1, 0, []),
  (1, .getfield 55, 3, 0, [[8, 0], [12], [896, 0]]),
  (4, .ifCond .ne 52, 3, 0, [[32]]),
  (7, .aload_n 0, 1, 0, []),
  (8, .getfield 7, 3, 0, [[1, 0], [12], [889, 0]]),
  (11, .sipush 247, 3, 247, []),
  (14, .sipush 140, 3, 140, []),
  (17, .aload_n 0, 1, 0, []),
  (18, .getfield 76, 3, 0, [[5, 0], [12], [893, 0]]),
  (21, .imul, 1, 0, []),
  (22, .iadd, 1, 0, []),
  (23, .aload_n 0, 1, 0, []),
  (24, .getfield 7, 3, 0, [[1, 0], [12], [889, 0]]),
  (27, .sipush 242, 3, 242, []),
  (30, .aload_n 0, 1, 0, []),
  (31, .getfield 76, 3, 0, [[5, 0], [12], [893, 0]]),
  (34, .iadd, 1, 0, []),
  (35, .iaload, 1, 0, []),
  (36, .iadd, 1, 0, []),
  (37, .iload_n 1, 1, 0, []),
  (38, .iastore, 1, 0, []),
  (39, .aload_n 0, 1, 0, []),
  (40, .getfield 7, 3, 0, [[1, 0], [12], [889, 0]]),
  (43, .sipush 242, 3, 242, []),
  (46, .aload_n 0, 1, 0, []),
  (47, .getfield 76, 3, 0, [[5, 0], [12], [893, 0]]),
  (50, .iadd, 1, 0, []),
  (51, .dup2, 1, 0, []),
  (52, .iaload, 1, 0, []),
  (53, .iconst 1, 1, 1, []),
  (54, .iadd, 1, 0, []),
  (55, .iastore, 1, 0, []),
  (56, .return_, 1, 0, [])]
/-- 124: SoldWeatherModel.factor()V -/
def m_X12_factor : List aI := [
  (0, .aload_n 0, 1, 0, []),
  (1, .getfield 55, 3, 0, [[8, 0], [12], [896, 0]]),
  (4, .ifCond .eq 4, 3, 0, [[4]]),
  (7, .return_, 1, 0, []),
  (8, .aload_n 0, 1, 0, []),
  (9, .invokevirtual 59, 3, 0, [[0, 0], [12, 118, 0, 979, 980, 19, 64]]),
  (12, .istore_n 1, 1, 0, []),
  (13, .iload_n 1, 1, 0, []),
  (14, .bipush 33, 2, 33, []),
  (16, .if_icmp .eq 9, 3, 0, [[13]]),
  (19, .iload_n 1, 1, 0, []),
  (20, .bipush 40, 2, 40, []),
  (22, .if_icmp .ne 90, 3, 0, [[60]]),
  (25, .aload_n 0, 1, 0, []),
  (26, .aload_n 0, 1, 0, []),
  (27, .getfield 79, 3, 0, [[9, 0], [12], [897, 0]]),
  (30, .iconst 5, 1, 5, []),
  (31, .if_icmp .ne 7, 3, 0, [[20]]),
  (34, .iconst 1, 1, 1, []),
  (35, .goto 4, 3, 0, [[21]]),
  (38, .iconst 0, 1, 0, []),
  (39, .putfield 55, 3, 0, [[8, 1], [12], [896, 0]]),
  (42, .aload_n 0, 1, 0, []),
  (43, .dup, 1, 0, []),
  (44, .getfield 79, 3, 0, [[9, 0], [12], [897, 0]]),
  (47, .iconst 1, 1, 1, []),
  (48, .iadd, 1, 0, []),
  (49, .putfield 79, 3, 0, [[9, 0], [12], [897, 0]]),
  (52, .aload_n 0, 1, 0, []),
  (53, .dup, 1, 0, []),
  (54, .getfield 49, 3, 0, [[6, 0], [12], [894, 0]]),
  (57, .aload_n 0, 1, 0, []),
  (58, .getfield 55, 3, 0, [[8, 0], [12], [896, 0]]),
  (61, .ifCond .eq 7, 3, 0, [[36]]),
  (64, .iconst 0, 1, 0, []),
  (65, .goto 4, 3, 0, [[37]]),
  (68, .iconst 1, 1, 1, []),
  (69, .iadd, 1, 0, []),
  (70, .putfield 49, 3, 0, [[6, 0], [12], [894, 0]]),
  (73, .iload_n 1, 1, 0, []),
  (74, .bipush 33, 2, 33, []),
  (76, .if_icmp .ne 15, 3, 0, [[48]]),
  (79, .aload_n 0, 1, 0, []),
  (80, .invokevirtual 82, 3, 0, [[0, 0], [12, 124, 0, 1002, 1003, 26, 64]]),
  (83, .aload_n 0, 1, 0, []),
  (84, .iconst (-1), 1, (-1), []),
  (85, .invokevirtual 85, 3, 0, [[0, 1], [12, 123, 0, 1005, 1006, 27, 64]]),
  (88, .goto 13, 3, 0, [[53]]),
  (91, .aload_n 0, 1, 0, []),
  (92, .invokevirtual 88, 3, 0, [[0, 0], [12, 126, 0, 996, 997, 24, 64]]),
  (95, .aload_n 0, 1, 0, []),
  (96, .bipush 41, 2, 41, []),
  (98, .invokevirtual 72, 3, 0, [[0, 1], [12, 119, 0, 990, 991, 22, 64]]),
  (101, .aload_n 0, 1, 0, []),
  (102, .dup, 1, 0, []),
  (103, .getfield 79, 3, 0, [[9, 0], [12], [897, 0]]),
  (106, .iconst 1, 1, 1, []),
  (107, .isub, 1, 0, []),
  (108, .putfield 79, 3, 0, [[9, 0], [12], [897, 0]]),
  (111, .return_, 1, 0, []),
  (112, .aload_n 0, 1, 0, []),
  (113, .ldc 91, 2, 0, [[6], [7]]),
  (115, .invokevirtual 93, 3, 0, [[0, 1], [12, 122, 0, 1008, 1009, 28, 64]]),
  (118, .istore_n 2, 1, 0, []),
  (119, .aload_n 0, 1, 0, []),
  (120, .iload_n 2, 1, 0, []),
  (121, .iconst (-1), 1, (-1), []),
  (122, .if_icmp .ne 7, 3, 0, [[70]]),
  (125, .iconst 1, 1, 1, []),
  (126, .goto 4, 3, 0, [[71]]),
  (129, .iconst 0, 1, 0, []),
  (130, .putfield 55, 3, 0, [[8, 1], [12], [896, 0]]),
  (133, .aload_n 0, 1, 0, []),
  (134, .getfield 55, 3, 0, [[8, 0], [12], [896, 0]]),
  (137, .ifCond .eq 7, 3, 0, [[77]]),
  (140, .iconst 0, 1, 0, []),
  (141, .goto 9, 3, 0, [[80]]),
  (144, .aload_n 0, 1, 0, []),
  (145, .ldc 97, 2, 0, [[7], [8]]),
  (147, .invokevirtual 93, 3, 0, [[0, 1], [12, 122, 0, 1008, 1009, 28, 64]]),
  (150, .istore_n 3, 1, 0, []),
  (151, .aload_n 0, 1, 0, []),
  (152, .aload_n 0, 1, 0, []),
  (153, .getfield 55, 3, 0, [[8, 0], [12], [896, 0]]),
  (156, .ifCond .ne 8, 3, 0, [[88]]),
  (159, .iload_n 3, 1, 0, []),
  (160, .iconst (-1), 1, (-1), []),
  (161, .if_icmp .ne 7, 3, 0, [[90]]),
  (164, .iconst 1, 1, 1, []),
  (165, .goto 4, 3, 0, [[91]]),
  (168, .iconst 0, 1, 0, []),
  (169, .putfield 55, 3, 0, [[8, 1], [12], [896, 0]]),
  (172, .aload_n 0, 1, 0, []),
  (173, .invokevirtual 99, 3, 0, [[0, 0], [12, 121, 0, 993, 994, 23, 64]]),
  (176, .istore 4, 2, 0, []),
  (178, .aload_n 0, 1, 0, []),
  (179, .iload_n 2, 1, 0, []),
  (180, .bipush 8, 2, 8, []),
  (182, .iload_n 3, 1, 0, []),
  (183, .imul, 1, 0, []),
  (184, .iadd, 1, 0, []),
  (185, .bipush 32, 2, 32, []),
  (187, .iload 4, 2, 0, []),
  (189, .imul, 1, 0, []),
  (190, .iadd, 1, 0, []),
  (191, .invokevirtual 85, 3, 0, [[0, 1], [12, 123, 0, 1005, 1006, 27, 64]]),
  (194, .return_, 1, 0, [])]
/-- 125: SoldWeatherModel.every()V -/
def m_X12_every : List aI := [
  (0, .aload_n 0, 1, 0, []),
  (1, .invokevirtual 82, 3, 0, [[0, 0], [12, 124, 0, 1002, 1003, 26, 64]]),
  (4, .aload_n 0, 1, 0, []),
  (5, .getfield 55, 3, 0, [[8, 0], [12], [896, 0]]),
  (8, .ifCond .ne 35, 3, 0, [[21]]),
  (11, .aload_n 0, 1, 0, []),
  (12, .invokevirtual 59, 3, 0, [[0, 0], [12, 118, 0, 979, 980, 19, 64]]),
  (15, .bipush 38, 2, 38, []),
  (17, .if_icmp .ne 26, 3, 0, [[21]]),
  (20, .aload_n 0, 1, 0, []),
  (21, .dup, 1, 0, []),
  (22, .getfield 49, 3, 0, [[6, 0], [12], [894, 0]]),
  (25, .iconst 1, 1, 1, []),
  (26, .iadd, 1, 0, []),
  (27, .putfield 49, 3, 0, [[6, 0], [12], [894, 0]]),
  (30, .aload_n 0, 1, 0, []),
  (31, .invokevirtual 82, 3, 0, [[0, 0], [12, 124, 0, 1002, 1003, 26, 64]]),
  (34, .aload_n 0, 1, 0, []),
  (35, .bipush (-2), 2, (-2), []),
  (37, .invokevirtual 85, 3, 0, [[0, 1], [12, 123, 0, 1005, 1006, 27, 64]]),
  (40, .goto (-36), 3, 0, [[2]]),
  (43, .return_, 1, 0, [])]
/-- 126: SoldWeatherModel.some()V -/
def m_X12_some : List aI := [
  (0, .aload_n 0, 1, 0, []),
  (1, .invokevirtual 102, 3, 0, [[0, 0], [12, 125, 0, 999, 1000, 25, 64]]),
  (4, .aload_n 0, 1, 0, []),
  (5, .getfield 55, 3, 0, [[8, 0], [12], [896, 0]]),
  (8, .ifCond .ne 35, 3, 0, [[21]]),
  (11, .aload_n 0, 1, 0, []),
  (12, .invokevirtual 59, 3, 0, [[0, 0], [12, 118, 0, 979, 980, 19, 64]]),
  (15, .bipush 124, 2, 124, []),
  (17, .if_icmp .ne 26, 3, 0, [[21]]),
  (20, .aload_n 0, 1, 0, []),
  (21, .dup, 1, 0, []),
  (22, .getfield 49, 3, 0, [[6, 0], [12], [894, 0]]),
  (25, .iconst 1, 1, 1, []),
  (26, .iadd, 1, 0, []),
  (27, .putfield 49, 3, 0, [[6, 0], [12], [894, 0]]),
  (30, .aload_n 0, 1, 0, []),
  (31, .invokevirtual 102, 3, 0, [[0, 0], [12, 125, 0, 999, 1000, 25, 64]]),
  (34, .aload_n 0, 1, 0, []),
  (35, .bipush (-3), 2, (-3), []),
  (37, .invokevirtual 85, 3, 0, [[0, 1], [12, 123, 0, 1005, 1006, 27, 64]]),
  (40, .goto (-36), 3, 0, [[2]]),
  (43, .return_, 1, 0, [])]
/-- 127: SoldWeatherModel.much(ILjava/lang/String;)V -/
def m_X12_much : List aI := [
  (0, .aload_n 0, 1, 0, []),
  (1, .aload_n 2, 1, 0, []),
  (2, .invokevirtual 105, 3, 0, [[0, 1], [12, 120, 0, 985, 986, 21, 64]]),
  (5, .aload_n 0, 1, 0, []),
  (6, .invokevirtual 99, 3, 0, [[0, 0], [12, 121, 0, 993, 994, 23, 64]]),
  (9, .istore_n 3, 1, 0, []),
  (10, .aload_n 0, 1, 0, []),
  (11, .bipush 32, 2, 32, []),
  (13, .invokevirtual 72, 3, 0, [[0, 1], [12, 119, 0, 990, 991, 22, 64]]),
  (16, .aload_n 0, 1, 0, []),
  (17, .invokevirtual 88, 3, 0, [[0, 0], [12, 126, 0, 996, 997, 24, 64]]),
  (20, .aload_n 0, 1, 0, []),
  (21, .iload_n 1, 1, 0, []),
  (22, .iload_n 3, 1, 0, []),
  (23, .isub, 1, 0, []),
  (24, .invokevirtual 85, 3, 0, [[0, 1], [12, 123, 0, 1005, 1006, 27, 64]]),
  (27, .return_, 1, 0, [])]
/-- 128: SoldWeatherModel.ruleHere()V -/
def m_X12_ruleHere : List aI := [
  (0, .aload_n 0, 1, 0, []),
  (1, .ldc 109, 2, 0, [[1], [10]]),
  (3, .invokevirtual 105, 3, 0, [[0, 1], [12, 120, 0, 985, 986, 21, 64]]),
  (6, .aload_n 0, 1, 0, []),
  (7, .aload_n 0, 1, 0, []),
  (8, .getfield 55, 3, 0, [[8, 0], [12], [896, 0]]),
  (11, .ifCond .ne 17, 3, 0, [[13]]),
  (14, .aload_n 0, 1, 0, []),
  (15, .invokevirtual 59, 3, 0, [[0, 0], [12, 118, 0, 979, 980, 19, 64]]),
  (18, .bipush 48, 2, 48, []),
  (20, .bipush 50, 2, 50, []),
  (22, .invokestatic 45, 3, 0, [[0, 112, 3], [969, 970, 64]]),
  (25, .ifCond .ne 7, 3, 0, [[15]]),
  (28, .iconst 1, 1, 1, []),
  (29, .goto 4, 3, 0, [[16]]),
  (32, .iconst 0, 1, 0, []),
  (33, .putfield 55, 3, 0, [[8, 1], [12], [896, 0]]),
  (36, .aload_n 0, 1, 0, []),
  (37, .getfield 55, 3, 0, [[8, 0], [12], [896, 0]]),
  (40, .ifCond .ne 33, 3, 0, [[37]]),
  (43, .aload_n 0, 1, 0, []),
  (44, .getfield 7, 3, 0, [[1, 0], [12], [889, 0]]),
  (47, .sipush 232, 3, 232, []),
  (50, .aload_n 0, 1, 0, []),
  (51, .getfield 76, 3, 0, [[5, 0], [12], [893, 0]]),
  (54, .iadd, 1, 0, []),
  (55, .aload_n 0, 1, 0, []),
  (56, .invokevirtual 59, 3, 0, [[0, 0], [12, 118, 0, 979, 980, 19, 64]]),
  (59, .bipush 48, 2, 48, []),
  (61, .isub, 1, 0, []),
  (62, .iastore, 1, 0, []),
  (63, .aload_n 0, 1, 0, []),
  (64, .dup, 1, 0, []),
  (65, .getfield 49, 3, 0, [[6, 0], [12], [894, 0]]),
  (68, .iconst 1, 1, 1, []),
  (69, .iadd, 1, 0, []),
  (70, .putfield 49, 3, 0, [[6, 0], [12], [894, 0]]),
  (73, .return_, 1, 0, [])]
/-- 129: SoldWeatherModel.giftHere()V -/
def m_X12_giftHere : List aI := [
  (0, .aload_n 0, 1, 0, []),
  (1, .ldc 111, 2, 0, [[2], [11]]),
  (3, .invokevirtual 105, 3, 0, [[0, 1], [12, 120, 0, 985, 986, 21, 64]]),
  (6, .aload_n 0, 1, 0, []),
  (7, .invokevirtual 99, 3, 0, [[0, 0], [12, 121, 0, 993, 994, 23, 64]]),
  (10, .istore_n 1, 1, 0, []),
  (11, .aload_n 0, 1, 0, []),
  (12, .getfield 55, 3, 0, [[8, 0], [12], [896, 0]]),
  (15, .ifCond .ne 17, 3, 0, [[17]]),
  (18, .aload_n 0, 1, 0, []),
  (19, .getfield 7, 3, 0, [[1, 0], [12], [889, 0]]),
  (22, .sipush 237, 3, 237, []),
  (25, .aload_n 0, 1, 0, []),
  (26, .getfield 76, 3, 0, [[5, 0], [12], [893, 0]]),
  (29, .iadd, 1, 0, []),
  (30, .iload_n 1, 1, 0, []),
  (31, .iastore, 1, 0, []),
  (32, .return_, 1, 0, [])]
/-- 130: SoldWeatherModel.clauseHere()V -/
def m_X12_clauseHere : List aI := [
  (0, .aload_n 0, 1, 0, []),
  (1, .invokevirtual 59, 3, 0, [[0, 0], [12, 118, 0, 979, 980, 19, 64]]),
  (4, .lookupswitch 81 #[(103, 74), (104, 55), (114, 67), (119, 44)], 44, 0, [[19], [16, 8, 13, 3]]),
  (48, .aload_n 0, 1, 0, []),
  (49, .bipush (-10), 2, (-10), []),
  (51, .ldc 113, 2, 0, [[3], [6]]),
  (53, .invokevirtual 115, 3, 0, [[0, 2], [12, 127, 0, 982, 983, 20, 64]]),
  (56, .goto 34, 3, 0, [[22]]),
  (59, .aload_n 0, 1, 0, []),
  (60, .sipush (-200), 3, (-200), []),
  (63, .ldc 119, 2, 0, [[0], [9]]),
  (65, .invokevirtual 115, 3, 0, [[0, 2], [12, 127, 0, 982, 983, 20, 64]]),
  (68, .goto 22, 3, 0, [[22]]),
  (71, .aload_n 0, 1, 0, []),
  (72, .invokevirtual 121, 3, 0, [[0, 0], [12, 128, 0, 1011, 1012, 29, 64]]),
  (75, .goto 15, 3, 0, [[22]]),
  (78, .aload_n 0, 1, 0, []),
  (79, .invokevirtual 124, 3, 0, [[0, 0], [12, 129, 0, 1014, 1015, 30, 64]]),
  (82, .goto 8, 3, 0, [[22]]),
  (85, .aload_n 0, 1, 0, []),
  (86, .iconst 1, 1, 1, []),
  (87, .putfield 55, 3, 0, [[8, 1], [12], [896, 0]]),
  (90, .return_, 1, 0, [])]
/-- 131: SoldWeatherModel.valley()I -/
def m_X12_valley : List aI := [
  (0, .aload_n 0, 1, 0, []),
  (1, .getfield 7, 3, 0, [[1, 0], [12], [889, 0]]),
  (4, .bipush 12, 2, 12, []),
  (6, .iaload, 1, 0, []),
  (7, .iconst 5, 1, 5, []),
  (8, .if_icmp .ne 6, 3, 0, [[8]]),
  (11, .bipush (-4), 2, (-4), []),
  (13, .ireturn, 1, 0, [[0]]),
  (14, .aload_n 0, 1, 0, []),
  (15, .aload_n 0, 1, 0, []),
  (16, .getfield 7, 3, 0, [[1, 0], [12], [889, 0]]),
  (19, .bipush 12, 2, 12, []),
  (21, .iaload, 1, 0, []),
  (22, .putfield 76, 3, 0, [[5, 0], [12], [893, 0]]),
  (25, .aload_n 0, 1, 0, []),
  (26, .aload_n 0, 1, 0, []),
  (27, .getfield 7, 3, 0, [[1, 0], [12], [889, 0]]),
  (30, .bipush 16, 2, 16, []),
  (32, .iaload, 1, 0, []),
  (33, .putfield 52, 3, 0, [[7, 0], [12], [895, 0]]),
  (36, .aload_n 0, 1, 0, []),
  (37, .getfield 7, 3, 0, [[1, 0], [12], [889, 0]]),
  (40, .bipush 16, 2, 16, []),
  (42, .iconst 0, 1, 0, []),
  (43, .iastore, 1, 0, []),
  (44, .aload_n 0, 1, 0, []),
  (45, .getfield 7, 3, 0, [[1, 0], [12], [889, 0]]),
  (48, .sipush 232, 3, 232, []),
  (51, .aload_n 0, 1, 0, []),
  (52, .getfield 76, 3, 0, [[5, 0], [12], [893, 0]]),
  (55, .iadd, 1, 0, []),
  (56, .iconst 0, 1, 0, []),
  (57, .iastore, 1, 0, []),
  (58, .aload_n 0, 1, 0, []),
  (59, .getfield 7, 3, 0, [[1, 0], [12], [889, 0]]),
  (62, .sipush 237, 3, 237, []),
  (65, .aload_n 0, 1, 0, []),
  (66, .getfield 76, 3, 0, [[5, 0], [12], [893, 0]]),
  (69, .iadd, 1, 0, []),
  (70, .iconst 0, 1, 0, []),
  (71, .iastore, 1, 0, []),
  (72, .aload_n 0, 1, 0, []),
  (73, .getfield 7, 3, 0, [[1, 0], [12], [889, 0]]),
  (76, .sipush 242, 3, 242, []),
  (79, .aload_n 0, 1, 0, []),
  (80, .getfield 76, 3, 0, [[5, 0], [12], [893, 0]]),
  (83, .iadd, 1, 0, []),
  (84, .iconst 0, 1, 0, []),
  (85, .iastore, 1, 0, []),
  (86, .aload_n 0, 1, 0, []),
  (87, .iconst 0, 1, 0, []),
  (88, .putfield 49, 3, 0, [[6, 0], [12], [894, 0]]),
  (91, .aload_n 0, 1, 0, []),
  (92, .iconst 0, 1, 0, []),
  (93, .putfield 55, 3, 0, [[8, 1], [12], [896, 0]]),
  (96, .aload_n 0, 1, 0, []),
  (97, .iconst 0, 1, 0, []),
  (98, .putfield 79, 3, 0, [[9, 0], [12], [897, 0]]),
  (101, .iconst 1, 1, 1, []),
  (102, .istore_n 1, 1, 0, []),
  (103, .aload_n 0, 1, 0, []),
  (104, .invokevirtual 127, 3, 0, [[0, 0], [12, 130, 0, 976, 977, 18, 64]]),
  (107, .aload_n 0, 1, 0, []),
  (108, .getfield 55, 3, 0, [[8, 0], [12], [896, 0]]),
  (111, .ifCond .ne 38, 3, 0, [[82]]),
  (114, .iload_n 1, 1, 0, []),
  (115, .bipush 10, 2, 10, []),
  (117, .if_icmp .ge 32, 3, 0, [[82]]),
  (120, .aload_n 0, 1, 0, []),
  (121, .invokevirtual 59, 3, 0, [[0, 0], [12, 118, 0, 979, 980, 19, 64]]),
  (124, .bipush 59, 2, 59, []),
  (126, .if_icmp .ne 23, 3, 0, [[82]]),
  (129, .aload_n 0, 1, 0, []),
  (130, .dup, 1, 0, []),
  (131, .getfield 49, 3, 0, [[6, 0], [12], [894, 0]]),
  (134, .iconst 1, 1, 1, []),
  (135, .iadd, 1, 0, []),
  (136, .putfield 49, 3, 0, [[6, 0], [12], [894, 0]]),
  (139, .aload_n 0, 1, 0, []),
  (140, .invokevirtual 127, 3, 0, [[0, 0], [12, 130, 0, 976, 977, 18, 64]]),
  (143, .iinc 1 1, 3, 1, []),
  (146, .goto (-39), 3, 0, [[62]]),
  (149, .aload_n 0, 1, 0, []),
  (150, .getfield 55, 3, 0, [[8, 0], [12], [896, 0]]),
  (153, .ifCond .ne 14, 3, 0, [[90]]),
  (156, .aload_n 0, 1, 0, []),
  (157, .getfield 49, 3, 0, [[6, 0], [12], [894, 0]]),
  (160, .aload_n 0, 1, 0, []),
  (161, .getfield 52, 3, 0, [[7, 0], [12], [895, 0]]),
  (164, .if_icmp .eq 11, 3, 0, [[95]]),
  (167, .bipush (-10), 2, (-10), []),
  (169, .aload_n 0, 1, 0, []),
  (170, .getfield 49, 3, 0, [[6, 0], [12], [894, 0]]),
  (173, .isub, 1, 0, []),
  (174, .ireturn, 1, 0, [[0]]),
  (175, .aload_n 0, 1, 0, []),
  (176, .getfield 7, 3, 0, [[1, 0], [12], [889, 0]]),
  (179, .bipush 12, 2, 12, []),
  (181, .dup2, 1, 0, []),
  (182, .iaload, 1, 0, []),
  (183, .iconst 1, 1, 1, []),
  (184, .iadd, 1, 0, []),
  (185, .iastore, 1, 0, []),
  (186, .aload_n 0, 1, 0, []),
  (187, .getfield 7, 3, 0, [[1, 0], [12], [889, 0]]),
  (190, .bipush 17, 2, 17, []),
  (192, .aload_n 0, 1, 0, []),
  (193, .getfield 76, 3, 0, [[5, 0], [12], [893, 0]]),
  (196, .iastore, 1, 0, []),
  (197, .aload_n 0, 1, 0, []),
  (198, .getfield 76, 3, 0, [[5, 0], [12], [893, 0]]),
  (201, .ireturn, 1, 0, [[0]])]
/-- 132: SoldWeatherModel.tellsOf(I)I -/
def m_X12_tellsOf : List aI := [
  (0, .aload_n 0, 1, 0, []),
  (1, .getfield 7, 3, 0, [[1, 0], [12], [889, 0]]),
  (4, .bipush 17, 2, 17, []),
  (6, .iaload, 1, 0, []),
  (7, .iconst (-1), 1, (-1), []),
  (8, .if_icmp .ne 7, 3, 0, [[8]]),
  (11, .iconst 0, 1, 0, []),
  (12, .goto 17, 3, 0, [[17]]),
  (15, .aload_n 0, 1, 0, []),
  (16, .getfield 7, 3, 0, [[1, 0], [12], [889, 0]]),
  (19, .iload_n 1, 1, 0, []),
  (20, .aload_n 0, 1, 0, []),
  (21, .getfield 7, 3, 0, [[1, 0], [12], [889, 0]]),
  (24, .bipush 17, 2, 17, []),
  (26, .iaload, 1, 0, []),
  (27, .iadd, 1, 0, []),
  (28, .iaload, 1, 0, []),
  (29, .ireturn, 1, 0, [[0]])]
/-- 133: SoldWeatherModel.worthOf(IIII)I -/
def m_X12_worthOf : List aI := [
  (0, .aload_n 0, 1, 0, []),
  (1, .getfield 19, 3, 0, [[10, 0], [12], [898, 0]]),
  (4, .iconst 0, 1, 0, []),
  (5, .iload_n 2, 1, 0, []),
  (6, .iastore, 1, 0, []),
  (7, .aload_n 0, 1, 0, []),
  (8, .getfield 19, 3, 0, [[10, 0], [12], [898, 0]]),
  (11, .iconst 1, 1, 1, []),
  (12, .iload_n 3, 1, 0, []),
  (13, .iastore, 1, 0, []),
  (14, .aload_n 0, 1, 0, []),
  (15, .getfield 19, 3, 0, [[10, 0], [12], [898, 0]]),
  (18, .iconst 2, 1, 2, []),
  (19, .iload 4, 2, 0, []),
  (21, .bipush 7, 2, 7, []),
  (23, .irem, 1, 0, []),
  (24, .iastore, 1, 0, []),
  (25, .aload_n 0, 1, 0, []),
  (26, .getfield 19, 3, 0, [[10, 0], [12], [898, 0]]),
  (29, .iconst 3, 1, 3, []),
  (30, .iload_n 1, 1, 0, []),
  (31, .iastore, 1, 0, []),
  (32, .aload_n 0, 1, 0, []),
  (33, .getfield 19, 3, 0, [[10, 0], [12], [898, 0]]),
  (36, .iconst 4, 1, 4, []),
  (37, .aload_n 0, 1, 0, []),
  (38, .getfield 7, 3, 0, [[1, 0], [12], [889, 0]]),
  (41, .sipush 140, 3, 140, []),
  (44, .iload_n 1, 1, 0, []),
  (45, .iadd, 1, 0, []),
  (46, .iaload, 1, 0, []),
  (47, .iastore, 1, 0, []),
  (48, .iconst 0, 1, 0, []),
  (49, .istore 5, 2, 0, []),
  (51, .aload_n 0, 1, 0, []),
  (52, .sipush 242, 3, 242, []),
  (55, .invokevirtual 130, 3, 0, [[0, 1], [12, 132, 0, 1021, 1022, 31, 64]]),
  (58, .istore 6, 2, 0, []),
  (60, .sipush 247, 3, 247, []),
  (63, .sipush 140, 3, 140, []),
  (66, .aload_n 0, 1, 0, []),
  (67, .getfield 7, 3, 0, [[1, 0], [12], [889, 0]]),
  (70, .bipush 17, 2, 17, []),
  (72, .iaload, 1, 0, []),
  (73, .imul, 1, 0, []),
  (74, .iadd, 1, 0, []),
  (75, .istore 7, 2, 0, []),
  (77, .iconst 0, 1, 0, []),
  (78, .istore 8, 2, 0, []),
  (80, .iload 7, 2, 0, []),
  (82, .istore 9, 2, 0, []),
  (84, .iload 9, 2, 0, []),
  (86, .iload 7, 2, 0, []),
  (88, .iload 6, 2, 0, []),
  (90, .iadd, 1, 0, []),
  (91, .if_icmp .ge 285, 3, 0, [[202]]),
  (94, .aload_n 0, 1, 0, []),
  (95, .getfield 7, 3, 0, [[1, 0], [12], [889, 0]]),
  (98, .iload 9, 2, 0, []),
  (100, .iaload, 1, 0, []),
  (101, .istore 10, 2, 0, []),
  (103, .iload 10, 2, 0, []),
  (105, .ifCond .lt 97, 3, 0, [[111]]),
  (108, .aload_n 0, 1, 0, []),
  (109, .getfield 19, 3, 0, [[10, 0], [12], [898, 0]]),
  (112, .iload 10, 2, 0, []),
  (114, .bipush 8, 2, 8, []),
  (116, .irem, 1, 0, []),
  (117, .iaload, 1, 0, []),
  (118, .istore 11, 2, 0, []),
  (120, .iload 10, 2, 0, []),
  (122, .bipush 8, 2, 8, []),
  (124, .idiv, 1, 0, []),
  (125, .iconst 4, 1, 4, []),
  (126, .irem, 1, 0, []),
  (127, .istore 12, 2, 0, []),
  (129, .iload 10, 2, 0, []),
  (131, .bipush 32, 2, 32, []),
  (133, .idiv, 1, 0, []),
  (134, .istore 13, 2, 0, []),
  (136, .aload_n 0, 1, 0, []),
  (137, .getfield 22, 3, 0, [[11, 0], [12], [899, 0]]),
  (140, .iload 8, 2, 0, []),
  (142, .iload 12, 2, 0, []),
  (144, .ifCond .ne 18, 3, 0, [[92]]),
  (147, .iload 11, 2, 0, []),
  (149, .iload 13, 2, 0, []),
  (151, .if_icmp .ge 7, 3, 0, [[90]]),
  (154, .iconst 1, 1, 1, []),
  (155, .goto 40, 3, 0, [[108]]),
  (158, .iconst 0, 1, 0, []),
  (159, .goto 36, 3, 0, [[108]]),
  (162, .iload 12, 2, 0, []),
  (164, .iconst 1, 1, 1, []),
  (165, .if_icmp .ne 18, 3, 0, [[102]]),
  (168, .iload 11, 2, 0, []),
  (170, .iload 13, 2, 0, []),
  (172, .if_icmp .ne 7, 3, 0, [[100]]),
  (175, .iconst 1, 1, 1, []),
  (176, .goto 19, 3, 0, [[108]]),
  (179, .iconst 0, 1, 0, []),
  (180, .goto 15, 3, 0, [[108]]),
  (183, .iload 11, 2, 0, []),
  (185, .iload 13, 2, 0, []),
  (187, .if_icmp .le 7, 3, 0, [[107]]),
  (190, .iconst 1, 1, 1, []),
  (191, .goto 4, 3, 0, [[108]]),
  (194, .iconst 0, 1, 0, []),
  (195, .bastore, 1, 0, []),
  (196, .iinc 8 1, 3, 1, []),
  (199, .goto 171, 3, 0, [[200]]),
  (202, .iload 10, 2, 0, []),
  (204, .iconst (-1), 1, (-1), []),
  (205, .if_icmp .ne 32, 3, 0, [[131]]),
  (208, .aload_n 0, 1, 0, []),
  (209, .getfield 22, 3, 0, [[11, 0], [12], [899, 0]]),
  (212, .iload 8, 2, 0, []),
  (214, .iconst 1, 1, 1, []),
  (215, .isub, 1, 0, []),
  (216, .aload_n 0, 1, 0, []),
  (217, .getfield 22, 3, 0, [[11, 0], [12], [899, 0]]),
  (220, .iload 8, 2, 0, []),
  (222, .iconst 1, 1, 1, []),
  (223, .isub, 1, 0, []),
  (224, .baload, 1, 0, []),
  (225, .ifCond .ne 7, 3, 0, [[128]]),
  (228, .iconst 1, 1, 1, []),
  (229, .goto 4, 3, 0, [[129]]),
  (232, .iconst 0, 1, 0, []),
  (233, .bastore, 1, 0, []),
  (234, .goto 136, 3, 0, [[200]]),
  (237, .iload 10, 2, 0, []),
  (239, .bipush (-10), 2, (-10), []),
  (241, .if_icmp .le 82, 3, 0, [[176]]),
  (244, .iinc 8 (-1), 3, (-1), []),
  (247, .aload_n 0, 1, 0, []),
  (248, .getfield 22, 3, 0, [[11, 0], [12], [899, 0]]),
  (251, .iload 8, 2, 0, []),
  (253, .iconst 1, 1, 1, []),
  (254, .isub, 1, 0, []),
  (255, .iload 10, 2, 0, []),
  (257, .bipush (-2), 2, (-2), []),
  (259, .if_icmp .ne 33, 3, 0, [[159]]),
  (262, .aload_n 0, 1, 0, []),
  (263, .getfield 22, 3, 0, [[11, 0], [12], [899, 0]]),
  (266, .iload 8, 2, 0, []),
  (268, .iconst 1, 1, 1, []),
  (269, .isub, 1, 0, []),
  (270, .baload, 1, 0, []),
  (271, .ifCond .eq 17, 3, 0, [[157]]),
  (274, .aload_n 0, 1, 0, []),
  (275, .getfield 22, 3, 0, [[11, 0], [12], [899, 0]]),
  (278, .iload 8, 2, 0, []),
  (280, .baload, 1, 0, []),
  (281, .ifCond .eq 7, 3, 0, [[157]]),
  (284, .iconst 1, 1, 1, []),
  (285, .goto 34, 3, 0, [[174]]),
  (288, .iconst 0, 1, 0, []),
  (289, .goto 30, 3, 0, [[174]]),
  (292, .aload_n 0, 1, 0, []),
  (293, .getfield 22, 3, 0, [[11, 0], [12], [899, 0]]),
  (296, .iload 8, 2, 0, []),
  (298, .iconst 1, 1, 1, []),
  (299, .isub, 1, 0, []),
  (300, .baload, 1, 0, []),
  (301, .ifCond .ne 13, 3, 0, [[171]]),
  (304, .aload_n 0, 1, 0, []),
  (305, .getfield 22, 3, 0, [[11, 0], [12], [899, 0]]),
  (308, .iload 8, 2, 0, []),
  (310, .baload, 1, 0, []),
  (311, .ifCond .eq 7, 3, 0, [[173]]),
  (314, .iconst 1, 1, 1, []),
  (315, .goto 4, 3, 0, [[174]]),
  (318, .iconst 0, 1, 0, []),
  (319, .bastore, 1, 0, []),
  (320, .goto 50, 3, 0, [[200]]),
  (323, .iconst 0, 1, 0, []),
  (324, .istore 8, 2, 0, []),
  (326, .iload 10, 2, 0, []),
  (328, .sipush (-200), 3, (-200), []),
  (331, .if_icmp .le 11, 3, 0, [[185]]),
  (334, .bipush (-10), 2, (-10), []),
  (336, .iload 10, 2, 0, []),
  (338, .isub, 1, 0, []),
  (339, .goto 9, 3, 0, [[188]]),
  (342, .iload 10, 2, 0, []),
  (344, .sipush (-200), 3, (-200), []),
  (347, .isub, 1, 0, []),
  (348, .istore 11, 2, 0, []),
  (350, .iload 5, 2, 0, []),
  (352, .aload_n 0, 1, 0, []),
  (353, .getfield 22, 3, 0, [[11, 0], [12], [899, 0]]),
  (356, .iconst 0, 1, 0, []),
  (357, .baload, 1, 0, []),
  (358, .ifCond .eq 8, 3, 0, [[197]]),
  (361, .iload 11, 2, 0, []),
  (363, .goto 4, 3, 0, [[198]]),
  (366, .iconst 0, 1, 0, []),
  (367, .iadd, 1, 0, []),
  (368, .istore 5, 2, 0, []),
  (370, .iinc 9 1, 3, 1, []),
  (373, .goto (-289), 3, 0, [[51]]),
  (376, .iload 5, 2, 0, []),
  (378, .ireturn, 1, 0, [[0]])]
/-- 134: SoldWeatherModel.worthNow(II)I -/
def m_X12_worthNow : List aI := [
  (0, .aload_n 0, 1, 0, []),
  (1, .iload_n 1, 1, 0, []),
  (2, .iload_n 2, 1, 0, []),
  (3, .aload_n 0, 1, 0, []),
  (4, .getfield 7, 3, 0, [[1, 0], [12], [889, 0]]),
  (7, .iconst 1, 1, 1, []),
  (8, .iaload, 1, 0, []),
  (9, .aload_n 0, 1, 0, []),
  (10, .getfield 7, 3, 0, [[1, 0], [12], [889, 0]]),
  (13, .iconst 0, 1, 0, []),
  (14, .iaload, 1, 0, []),
  (15, .invokevirtual 134, 3, 0, [[0, 4], [12, 133, 0, 1055, 1056, 36, 64]]),
  (18, .ireturn, 1, 0, [[0]])]
/-- 135: SoldWeatherModel.worthToAll(III)I -/
def m_X12_worthToAll : List aI := [
  (0, .iconst 0, 1, 0, []),
  (1, .istore 4, 2, 0, []),
  (3, .iconst 0, 1, 0, []),
  (4, .istore 5, 2, 0, []),
  (6, .iload 5, 2, 0, []),
  (8, .aload_n 0, 1, 0, []),
  (9, .getfield 7, 3, 0, [[1, 0], [12], [889, 0]]),
  (12, .bipush 11, 2, 11, []),
  (14, .iaload, 1, 0, []),
  (15, .if_icmp .ge 23, 3, 0, [[21]]),
  (18, .iload 4, 2, 0, []),
  (20, .aload_n 0, 1, 0, []),
  (21, .iload 5, 2, 0, []),
  (23, .iload_n 1, 1, 0, []),
  (24, .iload_n 2, 1, 0, []),
  (25, .iload_n 3, 1, 0, []),
  (26, .invokevirtual 134, 3, 0, [[0, 4], [12, 133, 0, 1055, 1056, 36, 64]]),
  (29, .iadd, 1, 0, []),
  (30, .istore 4, 2, 0, []),
  (32, .iinc 5 1, 3, 1, []),
  (35, .goto (-29), 3, 0, [[4]]),
  (38, .iload 4, 2, 0, []),
  (40, .ireturn, 1, 0, [[0]])]
/-- 136: SoldWeatherModel.fortuneNext()I -/
def m_X12_fortuneNext : List aI := [
  (0, .aload_n 0, 1, 0, []),
  (1, .getfield 7, 3, 0, [[1, 0], [12], [889, 0]]),
  (4, .bipush 13, 2, 13, []),
  (6, .iaload, 1, 0, []),
  (7, .ifCond .ne 7, 3, 0, [[7]]),
  (10, .iconst 0, 1, 0, []),
  (11, .goto 26, 3, 0, [[21]]),
  (14, .aload_n 0, 1, 0, []),
  (15, .getfield 7, 3, 0, [[1, 0], [12], [889, 0]]),
  (18, .sipush 188, 3, 188, []),
  (21, .aload_n 0, 1, 0, []),
  (22, .getfield 7, 3, 0, [[1, 0], [12], [889, 0]]),
  (25, .iconst 2, 1, 2, []),
  (26, .iaload, 1, 0, []),
  (27, .aload_n 0, 1, 0, []),
  (28, .getfield 7, 3, 0, [[1, 0], [12], [889, 0]]),
  (31, .bipush 13, 2, 13, []),
  (33, .iaload, 1, 0, []),
  (34, .irem, 1, 0, []),
  (35, .iadd, 1, 0, []),
  (36, .iaload, 1, 0, []),
  (37, .ireturn, 1, 0, [[0]])]
/-- 137: SoldWeatherModel.told(I)I -/
def m_X12_told : List aI := [
  (0, .iload_n 1, 1, 0, []),
  (1, .tableswitch 70 0 4 #[35, 43, 51, 58, 65], 35, 0, [[23], [2, 6, 10, 15, 20]]),
  (36, .aload_n 0, 1, 0, []),
  (37, .sipush 232, 3, 232, []),
  (40, .invokevirtual 130, 3, 0, [[0, 1], [12, 132, 0, 1021, 1022, 31, 64]]),
  (43, .ireturn, 1, 0, [[0]]),
  (44, .aload_n 0, 1, 0, []),
  (45, .sipush 237, 3, 237, []),
  (48, .invokevirtual 130, 3, 0, [[0, 1], [12, 132, 0, 1021, 1022, 31, 64]]),
  (51, .ireturn, 1, 0, [[0]]),
  (52, .aload_n 0, 1, 0, []),
  (53, .getfield 7, 3, 0, [[1, 0], [12], [889, 0]]),
  (56, .iconst 0, 1, 0, []),
  (57, .iaload, 1, 0, []),
  (58, .ireturn, 1, 0, [[0]]),
  (59, .aload_n 0, 1, 0, []),
  (60, .getfield 7, 3, 0, [[1, 0], [12], [889, 0]]),
  (63, .iconst 1, 1, 1, []),
  (64, .iaload, 1, 0, []),
  (65, .ireturn, 1, 0, [[0]]),
  (66, .aload_n 0, 1, 0, []),
  (67, .invokevirtual 138, 3, 0, [[0, 0], [12, 136, 0, 1024, 1025, 32, 64]]),
  (70, .ireturn, 1, 0, [[0]]),
  (71, .iconst (-1), 1, (-1), []),
  (72, .ireturn, 1, 0, [[0]])]
/-- 138: SoldWeatherModel.fortune(I)I -/
def m_X12_fortune : List aI := [
  (0, .iload_n 1, 1, 0, []),
  (1, .iconst (-1), 1, (-1), []),
  (2, .if_icmp .ne 20, 3, 0, [[15]]),
  (5, .aload_n 0, 1, 0, []),
  (6, .getfield 7, 3, 0, [[1, 0], [12], [889, 0]]),
  (9, .bipush 13, 2, 13, []),
  (11, .iconst 0, 1, 0, []),
  (12, .iastore, 1, 0, []),
  (13, .aload_n 0, 1, 0, []),
  (14, .getfield 7, 3, 0, [[1, 0], [12], [889, 0]]),
  (17, .iconst 2, 1, 2, []),
  (18, .iconst 0, 1, 0, []),
  (19, .iastore, 1, 0, []),
  (20, .iconst 0, 1, 0, []),
  (21, .ireturn, 1, 0, [[0]]),
  (22, .iload_n 1, 1, 0, []),
  (23, .invokestatic 141, 3, 0, [[0, 113, 1], [1031, 1032, 64]]),
  (26, .ifCond .ne 5, 3, 0, [[20]]),
  (29, .iconst (-1), 1, (-1), []),
  (30, .ireturn, 1, 0, [[0]]),
  (31, .aload_n 0, 1, 0, []),
  (32, .getfield 7, 3, 0, [[1, 0], [12], [889, 0]]),
  (35, .bipush 13, 2, 13, []),
  (37, .iaload, 1, 0, []),
  (38, .bipush 12, 2, 12, []),
  (40, .if_icmp .ne 6, 3, 0, [[28]]),
  (43, .bipush (-4), 2, (-4), []),
  (45, .ireturn, 1, 0, [[0]]),
  (46, .aload_n 0, 1, 0, []),
  (47, .getfield 7, 3, 0, [[1, 0], [12], [889, 0]]),
  (50, .sipush 188, 3, 188, []),
  (53, .aload_n 0, 1, 0, []),
  (54, .getfield 7, 3, 0, [[1, 0], [12], [889, 0]]),
  (57, .bipush 13, 2, 13, []),
  (59, .iaload, 1, 0, []),
  (60, .iadd, 1, 0, []),
  (61, .iload_n 1, 1, 0, []),
  (62, .iastore, 1, 0, []),
  (63, .aload_n 0, 1, 0, []),
  (64, .getfield 7, 3, 0, [[1, 0], [12], [889, 0]]),
  (67, .bipush 13, 2, 13, []),
  (69, .dup2, 1, 0, []),
  (70, .iaload, 1, 0, []),
  (71, .iconst 1, 1, 1, []),
  (72, .iadd, 1, 0, []),
  (73, .iastore, 1, 0, []),
  (74, .aload_n 0, 1, 0, []),
  (75, .getfield 7, 3, 0, [[1, 0], [12], [889, 0]]),
  (78, .iconst 2, 1, 2, []),
  (79, .iconst 0, 1, 0, []),
  (80, .iastore, 1, 0, []),
  (81, .aload_n 0, 1, 0, []),
  (82, .getfield 7, 3, 0, [[1, 0], [12], [889, 0]]),
  (85, .bipush 13, 2, 13, []),
  (87, .iaload, 1, 0, []),
  (88, .ireturn, 1, 0, [[0]])]
/-- 139: SoldWeatherModel.person(III)I -/
def m_X12_person : List aI := [
  (0, .iload_n 1, 1, 0, []),
  (1, .iconst 0, 1, 0, []),
  (2, .bipush 6, 2, 6, []),
  (4, .invokestatic 45, 3, 0, [[0, 112, 3], [969, 970, 64]]),
  (7, .ifCond .ne 5, 3, 0, [[7]]),
  (10, .iconst (-1), 1, (-1), []),
  (11, .ireturn, 1, 0, [[0]]),
  (12, .iload_n 2, 1, 0, []),
  (13, .iconst 0, 1, 0, []),
  (14, .bipush 9, 2, 9, []),
  (16, .invokestatic 45, 3, 0, [[0, 112, 3], [969, 970, 64]]),
  (19, .ifCond .eq 14, 3, 0, [[17]]),
  (22, .iload_n 3, 1, 0, []),
  (23, .iconst 0, 1, 0, []),
  (24, .sipush 999, 3, 999, []),
  (27, .invokestatic 45, 3, 0, [[0, 112, 3], [969, 970, 64]]),
  (30, .ifCond .ne 6, 3, 0, [[19]]),
  (33, .bipush (-2), 2, (-2), []),
  (35, .ireturn, 1, 0, [[0]]),
  (36, .aload_n 0, 1, 0, []),
  (37, .getfield 7, 3, 0, [[1, 0], [12], [889, 0]]),
  (40, .bipush 11, 2, 11, []),
  (42, .iaload, 1, 0, []),
  (43, .bipush 8, 2, 8, []),
  (45, .if_icmp .ne 6, 3, 0, [[27]]),
  (48, .bipush (-4), 2, (-4), []),
  (50, .ireturn, 1, 0, [[0]]),
  (51, .aload_n 0, 1, 0, []),
  (52, .getfield 7, 3, 0, [[1, 0], [12], [889, 0]]),
  (55, .bipush 11, 2, 11, []),
  (57, .iaload, 1, 0, []),
  (58, .istore 4, 2, 0, []),
  (60, .aload_n 0, 1, 0, []),
  (61, .getfield 7, 3, 0, [[1, 0], [12], [889, 0]]),
  (64, .sipush 140, 3, 140, []),
  (67, .iload 4, 2, 0, []),
  (69, .iadd, 1, 0, []),
  (70, .iload_n 1, 1, 0, []),
  (71, .iastore, 1, 0, []),
  (72, .aload_n 0, 1, 0, []),
  (73, .getfield 7, 3, 0, [[1, 0], [12], [889, 0]]),
  (76, .sipush 148, 3, 148, []),
  (79, .iload 4, 2, 0, []),
  (81, .iadd, 1, 0, []),
  (82, .iload_n 2, 1, 0, []),
  (83, .iastore, 1, 0, []),
  (84, .aload_n 0, 1, 0, []),
  (85, .getfield 7, 3, 0, [[1, 0], [12], [889, 0]]),
  (88, .iconst 3, 1, 3, []),
  (89, .iload 4, 2, 0, []),
  (91, .iadd, 1, 0, []),
  (92, .iload_n 3, 1, 0, []),
  (93, .iastore, 1, 0, []),
  (94, .iconst 0, 1, 0, []),
  (95, .istore 5, 2, 0, []),
  (97, .iload 5, 2, 0, []),
  (99, .iconst 4, 1, 4, []),
  (100, .if_icmp .ge 26, 3, 0, [[71]]),
  (103, .aload_n 0, 1, 0, []),
  (104, .getfield 7, 3, 0, [[1, 0], [12], [889, 0]]),
  (107, .sipush 156, 3, 156, []),
  (110, .iconst 4, 1, 4, []),
  (111, .iload 4, 2, 0, []),
  (113, .imul, 1, 0, []),
  (114, .iadd, 1, 0, []),
  (115, .iload 5, 2, 0, []),
  (117, .iadd, 1, 0, []),
  (118, .iconst 0, 1, 0, []),
  (119, .iastore, 1, 0, []),
  (120, .iinc 5 1, 3, 1, []),
  (123, .goto (-26), 3, 0, [[55]]),
  (126, .aload_n 0, 1, 0, []),
  (127, .getfield 7, 3, 0, [[1, 0], [12], [889, 0]]),
  (130, .bipush 11, 2, 11, []),
  (132, .dup2, 1, 0, []),
  (133, .iaload, 1, 0, []),
  (134, .iconst 1, 1, 1, []),
  (135, .iadd, 1, 0, []),
  (136, .iastore, 1, 0, []),
  (137, .iload 4, 2, 0, []),
  (139, .ireturn, 1, 0, [[0]])]
/-- 140: SoldWeatherModel.row(III)I -/
def m_X12_row : List aI := [
  (0, .aload_n 0, 1, 0, []),
  (1, .iload_n 1, 1, 0, []),
  (2, .invokevirtual 145, 3, 0, [[0, 1], [12, 114, 0, 1042, 1043, 33, 64]]),
  (5, .ifCond .eq 10, 3, 0, [[7]]),
  (8, .iload_n 2, 1, 0, []),
  (9, .invokestatic 141, 3, 0, [[0, 113, 1], [1031, 1032, 64]]),
  (12, .ifCond .ne 5, 3, 0, [[9]]),
  (15, .iconst (-1), 1, (-1), []),
  (16, .ireturn, 1, 0, [[0]]),
  (17, .iload_n 3, 1, 0, []),
  (18, .iconst 0, 1, 0, []),
  (19, .bipush 99, 2, 99, []),
  (21, .invokestatic 45, 3, 0, [[0, 112, 3], [969, 970, 64]]),
  (24, .ifCond .ne 6, 3, 0, [[16]]),
  (27, .bipush (-2), 2, (-2), []),
  (29, .ireturn, 1, 0, [[0]]),
  (30, .aload_n 0, 1, 0, []),
  (31, .getfield 7, 3, 0, [[1, 0], [12], [889, 0]]),
  (34, .sipush 140, 3, 140, []),
  (37, .iload_n 1, 1, 0, []),
  (38, .iadd, 1, 0, []),
  (39, .iaload, 1, 0, []),
  (40, .bipush 6, 2, 6, []),
  (42, .if_icmp .eq 6, 3, 0, [[26]]),
  (45, .bipush (-3), 2, (-3), []),
  (47, .ireturn, 1, 0, [[0]]),
  (48, .aload_n 0, 1, 0, []),
  (49, .getfield 7, 3, 0, [[1, 0], [12], [889, 0]]),
  (52, .sipush 156, 3, 156, []),
  (55, .iconst 4, 1, 4, []),
  (56, .iload_n 1, 1, 0, []),
  (57, .imul, 1, 0, []),
  (58, .iadd, 1, 0, []),
  (59, .iload_n 2, 1, 0, []),
  (60, .iadd, 1, 0, []),
  (61, .iaload, 1, 0, []),
  (62, .istore 4, 2, 0, []),
  (64, .aload_n 0, 1, 0, []),
  (65, .getfield 7, 3, 0, [[1, 0], [12], [889, 0]]),
  (68, .sipush 156, 3, 156, []),
  (71, .iconst 4, 1, 4, []),
  (72, .iload_n 1, 1, 0, []),
  (73, .imul, 1, 0, []),
  (74, .iadd, 1, 0, []),
  (75, .iload_n 2, 1, 0, []),
  (76, .iadd, 1, 0, []),
  (77, .iload_n 3, 1, 0, []),
  (78, .iastore, 1, 0, []),
  (79, .iload 4, 2, 0, []),
  (81, .ireturn, 1, 0, [[0]])]
/-- 141: SoldWeatherModel.kept(II)I -/
def m_X12_kept : List aI := [
  (0, .iload_n 2, 1, 0, []),
  (1, .ifCond .ge 7, 3, 0, [[4]]),
  (4, .iconst 0, 1, 0, []),
  (5, .goto 27, 3, 0, [[20]]),
  (8, .iload_n 2, 1, 0, []),
  (9, .aload_n 0, 1, 0, []),
  (10, .getfield 7, 3, 0, [[1, 0], [12], [889, 0]]),
  (13, .iconst 3, 1, 3, []),
  (14, .iload_n 1, 1, 0, []),
  (15, .iadd, 1, 0, []),
  (16, .iaload, 1, 0, []),
  (17, .if_icmp .le 14, 3, 0, [[19]]),
  (20, .aload_n 0, 1, 0, []),
  (21, .getfield 7, 3, 0, [[1, 0], [12], [889, 0]]),
  (24, .iconst 3, 1, 3, []),
  (25, .iload_n 1, 1, 0, []),
  (26, .iadd, 1, 0, []),
  (27, .iaload, 1, 0, []),
  (28, .goto 4, 3, 0, [[20]]),
  (31, .iload_n 2, 1, 0, []),
  (32, .ireturn, 1, 0, [[0]])]
/-- 142: SoldWeatherModel.league(II)I -/
def m_X12_league : List aI := [
  (0, .aload_n 0, 1, 0, []),
  (1, .getfield 7, 3, 0, [[1, 0], [12], [889, 0]]),
  (4, .sipush 148, 3, 148, []),
  (7, .iload_n 1, 1, 0, []),
  (8, .iadd, 1, 0, []),
  (9, .iaload, 1, 0, []),
  (10, .istore_n 3, 1, 0, []),
  (11, .aload_n 0, 1, 0, []),
  (12, .iload_n 3, 1, 0, []),
  (13, .invokevirtual 145, 3, 0, [[0, 1], [12, 114, 0, 1042, 1043, 33, 64]]),
  (16, .ifCond .eq 40, 3, 0, [[32]]),
  (19, .iload_n 3, 1, 0, []),
  (20, .iload_n 1, 1, 0, []),
  (21, .if_icmp .eq 35, 3, 0, [[32]]),
  (24, .aload_n 0, 1, 0, []),
  (25, .getfield 7, 3, 0, [[1, 0], [12], [889, 0]]),
  (28, .sipush 140, 3, 140, []),
  (31, .iload_n 3, 1, 0, []),
  (32, .iadd, 1, 0, []),
  (33, .iaload, 1, 0, []),
  (34, .iconst 2, 1, 2, []),
  (35, .if_icmp .eq 17, 3, 0, [[30]]),
  (38, .aload_n 0, 1, 0, []),
  (39, .getfield 7, 3, 0, [[1, 0], [12], [889, 0]]),
  (42, .sipush 140, 3, 140, []),
  (45, .iload_n 3, 1, 0, []),
  (46, .iadd, 1, 0, []),
  (47, .iaload, 1, 0, []),
  (48, .iconst 5, 1, 5, []),
  (49, .if_icmp .lt 7, 3, 0, [[32]]),
  (52, .iconst 1, 1, 1, []),
  (53, .goto 4, 3, 0, [[33]]),
  (56, .iconst 0, 1, 0, []),
  (57, .istore 4, 2, 0, []),
  (59, .iload 4, 2, 0, []),
  (61, .ifCond .eq 21, 3, 0, [[48]]),
  (64, .aload_n 0, 1, 0, []),
  (65, .iload_n 1, 1, 0, []),
  (66, .iload_n 2, 1, 0, []),
  (67, .invokevirtual 148, 3, 0, [[0, 2], [12, 134, 0, 1052, 1053, 35, 64]]),
  (70, .aload_n 0, 1, 0, []),
  (71, .iload_n 3, 1, 0, []),
  (72, .iload_n 2, 1, 0, []),
  (73, .invokevirtual 148, 3, 0, [[0, 2], [12, 134, 0, 1052, 1053, 35, 64]]),
  (76, .iadd, 1, 0, []),
  (77, .iconst 2, 1, 2, []),
  (78, .idiv, 1, 0, []),
  (79, .goto 9, 3, 0, [[52]]),
  (82, .aload_n 0, 1, 0, []),
  (83, .iload_n 1, 1, 0, []),
  (84, .iload_n 2, 1, 0, []),
  (85, .invokevirtual 148, 3, 0, [[0, 2], [12, 134, 0, 1052, 1053, 35, 64]]),
  (88, .ireturn, 1, 0, [[0]])]
/-- 143: SoldWeatherModel.ahead(II)I -/
def m_X12_ahead : List aI := [
  (0, .aload_n 0, 1, 0, []),
  (1, .iload_n 1, 1, 0, []),
  (2, .iconst 0, 1, 0, []),
  (3, .iload_n 2, 1, 0, []),
  (4, .aload_n 0, 1, 0, []),
  (5, .getfield 7, 3, 0, [[1, 0], [12], [889, 0]]),
  (8, .iconst 0, 1, 0, []),
  (9, .iaload, 1, 0, []),
  (10, .iconst 1, 1, 1, []),
  (11, .iadd, 1, 0, []),
  (12, .invokevirtual 134, 3, 0, [[0, 4], [12, 133, 0, 1055, 1056, 36, 64]]),
  (15, .istore_n 3, 1, 0, []),
  (16, .iconst 1, 1, 1, []),
  (17, .istore 4, 2, 0, []),
  (19, .iload 4, 2, 0, []),
  (21, .iconst 4, 1, 4, []),
  (22, .if_icmp .ge 40, 3, 0, [[38]]),
  (25, .aload_n 0, 1, 0, []),
  (26, .iload_n 1, 1, 0, []),
  (27, .iload 4, 2, 0, []),
  (29, .iload_n 2, 1, 0, []),
  (30, .aload_n 0, 1, 0, []),
  (31, .getfield 7, 3, 0, [[1, 0], [12], [889, 0]]),
  (34, .iconst 0, 1, 0, []),
  (35, .iaload, 1, 0, []),
  (36, .iconst 1, 1, 1, []),
  (37, .iadd, 1, 0, []),
  (38, .invokevirtual 134, 3, 0, [[0, 4], [12, 133, 0, 1055, 1056, 36, 64]]),
  (41, .istore 5, 2, 0, []),
  (43, .iload 5, 2, 0, []),
  (45, .iload_n 3, 1, 0, []),
  (46, .if_icmp .le 8, 3, 0, [[34]]),
  (49, .iload 5, 2, 0, []),
  (51, .goto 4, 3, 0, [[35]]),
  (54, .iload_n 3, 1, 0, []),
  (55, .istore_n 3, 1, 0, []),
  (56, .iinc 4 1, 3, 1, []),
  (59, .goto (-40), 3, 0, [[14]]),
  (62, .aload_n 0, 1, 0, []),
  (63, .iload_n 1, 1, 0, []),
  (64, .iload_n 2, 1, 0, []),
  (65, .invokevirtual 148, 3, 0, [[0, 2], [12, 134, 0, 1052, 1053, 35, 64]]),
  (68, .aload_n 0, 1, 0, []),
  (69, .getfield 7, 3, 0, [[1, 0], [12], [889, 0]]),
  (72, .sipush 148, 3, 148, []),
  (75, .iload_n 1, 1, 0, []),
  (76, .iadd, 1, 0, []),
  (77, .iaload, 1, 0, []),
  (78, .iload_n 3, 1, 0, []),
  (79, .imul, 1, 0, []),
  (80, .bipush 10, 2, 10, []),
  (82, .idiv, 1, 0, []),
  (83, .iadd, 1, 0, []),
  (84, .ireturn, 1, 0, [[0]])]
/-- 144: SoldWeatherModel.sharing(II)I -/
def m_X12_sharing : List aI := [
  (0, .iconst 0, 1, 0, []),
  (1, .istore_n 3, 1, 0, []),
  (2, .iconst 1, 1, 1, []),
  (3, .istore 4, 2, 0, []),
  (5, .iload 4, 2, 0, []),
  (7, .iconst 4, 1, 4, []),
  (8, .if_icmp .ge 32, 3, 0, [[22]]),
  (11, .aload_n 0, 1, 0, []),
  (12, .iload_n 1, 1, 0, []),
  (13, .iload 4, 2, 0, []),
  (15, .invokevirtual 152, 3, 0, [[0, 2], [12, 142, 0, 1061, 1062, 38, 64]]),
  (18, .aload_n 0, 1, 0, []),
  (19, .iload_n 1, 1, 0, []),
  (20, .iload_n 3, 1, 0, []),
  (21, .invokevirtual 152, 3, 0, [[0, 2], [12, 142, 0, 1061, 1062, 38, 64]]),
  (24, .if_icmp .le 8, 3, 0, [[18]]),
  (27, .iload 4, 2, 0, []),
  (29, .goto 4, 3, 0, [[19]]),
  (32, .iload_n 3, 1, 0, []),
  (33, .istore_n 3, 1, 0, []),
  (34, .iinc 4 1, 3, 1, []),
  (37, .goto (-32), 3, 0, [[4]]),
  (40, .iload_n 3, 1, 0, []),
  (41, .iload_n 2, 1, 0, []),
  (42, .if_icmp .ne 12, 3, 0, [[30]]),
  (45, .aload_n 0, 1, 0, []),
  (46, .iload_n 1, 1, 0, []),
  (47, .iload_n 2, 1, 0, []),
  (48, .invokevirtual 152, 3, 0, [[0, 2], [12, 142, 0, 1061, 1062, 38, 64]]),
  (51, .goto 4, 3, 0, [[31]]),
  (54, .iconst 0, 1, 0, []),
  (55, .ireturn, 1, 0, [[0]])]
/-- 145: SoldWeatherModel.bidOf(II)I -/
def m_X12_bidOf : List aI := [
  (0, .aload_n 0, 1, 0, []),
  (1, .iload_n 1, 1, 0, []),
  (2, .iload_n 2, 1, 0, []),
  (3, .invokevirtual 148, 3, 0, [[0, 2], [12, 134, 0, 1052, 1053, 35, 64]]),
  (6, .aload_n 0, 1, 0, []),
  (7, .getfield 7, 3, 0, [[1, 0], [12], [889, 0]]),
  (10, .sipush 148, 3, 148, []),
  (13, .iload_n 1, 1, 0, []),
  (14, .iadd, 1, 0, []),
  (15, .iaload, 1, 0, []),
  (16, .iconst 1, 1, 1, []),
  (17, .iadd, 1, 0, []),
  (18, .idiv, 1, 0, []),
  (19, .istore_n 3, 1, 0, []),
  (20, .aload_n 0, 1, 0, []),
  (21, .getfield 7, 3, 0, [[1, 0], [12], [889, 0]]),
  (24, .sipush 140, 3, 140, []),
  (27, .iload_n 1, 1, 0, []),
  (28, .iadd, 1, 0, []),
  (29, .iaload, 1, 0, []),
  (30, .tableswitch 136 1 6 #[38, 45, 57, 69, 104, 116], 38, 0, [[86], [21, 26, 34, 42, 64, 72]]),
  (68, .aload_n 0, 1, 0, []),
  (69, .iload_n 1, 1, 0, []),
  (70, .iload_n 3, 1, 0, []),
  (71, .invokevirtual 155, 3, 0, [[0, 2], [12, 141, 0, 1058, 1059, 37, 64]]),
  (74, .ireturn, 1, 0, [[0]]),
  (75, .aload_n 0, 1, 0, []),
  (76, .iload_n 1, 1, 0, []),
  (77, .aload_n 0, 1, 0, []),
  (78, .iload_n 1, 1, 0, []),
  (79, .iload_n 2, 1, 0, []),
  (80, .invokevirtual 152, 3, 0, [[0, 2], [12, 142, 0, 1061, 1062, 38, 64]]),
  (83, .invokevirtual 155, 3, 0, [[0, 2], [12, 141, 0, 1058, 1059, 37, 64]]),
  (86, .ireturn, 1, 0, [[0]]),
  (87, .aload_n 0, 1, 0, []),
  (88, .iload_n 1, 1, 0, []),
  (89, .aload_n 0, 1, 0, []),
  (90, .iload_n 1, 1, 0, []),
  (91, .iload_n 2, 1, 0, []),
  (92, .invokevirtual 158, 3, 0, [[0, 2], [12, 143, 0, 1064, 1065, 39, 64]]),
  (95, .invokevirtual 155, 3, 0, [[0, 2], [12, 141, 0, 1058, 1059, 37, 64]]),
  (98, .ireturn, 1, 0, [[0]]),
  (99, .aload_n 0, 1, 0, []),
  (100, .getfield 7, 3, 0, [[1, 0], [12], [889, 0]]),
  (103, .iconst 3, 1, 3, []),
  (104, .iload_n 1, 1, 0, []),
  (105, .iadd, 1, 0, []),
  (106, .iaload, 1, 0, []),
  (107, .bipush 10, 2, 10, []),
  (109, .aload_n 0, 1, 0, []),
  (110, .getfield 7, 3, 0, [[1, 0], [12], [889, 0]]),
  (113, .sipush 148, 3, 148, []),
  (116, .iload_n 1, 1, 0, []),
  (117, .iadd, 1, 0, []),
  (118, .iaload, 1, 0, []),
  (119, .imul, 1, 0, []),
  (120, .if_icmp .ge 7, 3, 0, [[59]]),
  (123, .iconst 0, 1, 0, []),
  (124, .goto 9, 3, 0, [[63]]),
  (127, .aload_n 0, 1, 0, []),
  (128, .iload_n 1, 1, 0, []),
  (129, .iload_n 3, 1, 0, []),
  (130, .invokevirtual 155, 3, 0, [[0, 2], [12, 141, 0, 1058, 1059, 37, 64]]),
  (133, .ireturn, 1, 0, [[0]]),
  (134, .aload_n 0, 1, 0, []),
  (135, .iload_n 1, 1, 0, []),
  (136, .aload_n 0, 1, 0, []),
  (137, .iload_n 1, 1, 0, []),
  (138, .iload_n 2, 1, 0, []),
  (139, .invokevirtual 161, 3, 0, [[0, 2], [12, 144, 0, 1067, 1068, 40, 64]]),
  (142, .invokevirtual 155, 3, 0, [[0, 2], [12, 141, 0, 1058, 1059, 37, 64]]),
  (145, .ireturn, 1, 0, [[0]]),
  (146, .aload_n 0, 1, 0, []),
  (147, .iload_n 1, 1, 0, []),
  (148, .aload_n 0, 1, 0, []),
  (149, .getfield 7, 3, 0, [[1, 0], [12], [889, 0]]),
  (152, .sipush 156, 3, 156, []),
  (155, .iconst 4, 1, 4, []),
  (156, .iload_n 1, 1, 0, []),
  (157, .imul, 1, 0, []),
  (158, .iadd, 1, 0, []),
  (159, .iload_n 2, 1, 0, []),
  (160, .iadd, 1, 0, []),
  (161, .iaload, 1, 0, []),
  (162, .invokevirtual 155, 3, 0, [[0, 2], [12, 141, 0, 1058, 1059, 37, 64]]),
  (165, .ireturn, 1, 0, [[0]]),
  (166, .aload_n 0, 1, 0, []),
  (167, .iload_n 1, 1, 0, []),
  (168, .aload_n 0, 1, 0, []),
  (169, .iload_n 1, 1, 0, []),
  (170, .iload_n 2, 1, 0, []),
  (171, .invokevirtual 148, 3, 0, [[0, 2], [12, 134, 0, 1052, 1053, 35, 64]]),
  (174, .invokevirtual 155, 3, 0, [[0, 2], [12, 141, 0, 1058, 1059, 37, 64]]),
  (177, .ireturn, 1, 0, [[0]])]
/-- 146: SoldWeatherModel.of(II)I -/
def m_X12_of : List aI := [
  (0, .aload_n 0, 1, 0, []),
  (1, .iload_n 1, 1, 0, []),
  (2, .invokevirtual 145, 3, 0, [[0, 1], [12, 114, 0, 1042, 1043, 33, 64]]),
  (5, .ifCond .ne 7, 3, 0, [[6]]),
  (8, .sipush (-10001), 3, (-10001), []),
  (11, .ireturn, 1, 0, [[0]]),
  (12, .iload_n 2, 1, 0, []),
  (13, .bipush 10, 2, 10, []),
  (15, .bipush 13, 2, 13, []),
  (17, .invokestatic 45, 3, 0, [[0, 112, 3], [969, 970, 64]]),
  (20, .ifCond .eq 13, 3, 0, [[18]]),
  (23, .aload_n 0, 1, 0, []),
  (24, .iload_n 1, 1, 0, []),
  (25, .iload_n 2, 1, 0, []),
  (26, .bipush 10, 2, 10, []),
  (28, .isub, 1, 0, []),
  (29, .invokevirtual 164, 3, 0, [[0, 2], [12, 145, 0, 1049, 1050, 34, 64]]),
  (32, .ireturn, 1, 0, [[0]]),
  (33, .iload_n 2, 1, 0, []),
  (34, .bipush 20, 2, 20, []),
  (36, .bipush 23, 2, 23, []),
  (38, .invokestatic 45, 3, 0, [[0, 112, 3], [969, 970, 64]]),
  (41, .ifCond .eq 13, 3, 0, [[30]]),
  (44, .aload_n 0, 1, 0, []),
  (45, .iload_n 1, 1, 0, []),
  (46, .iload_n 2, 1, 0, []),
  (47, .bipush 20, 2, 20, []),
  (49, .isub, 1, 0, []),
  (50, .invokevirtual 148, 3, 0, [[0, 2], [12, 134, 0, 1052, 1053, 35, 64]]),
  (53, .ireturn, 1, 0, [[0]]),
  (54, .iload_n 2, 1, 0, []),
  (55, .ifCond .ne 16, 3, 0, [[39]]),
  (58, .aload_n 0, 1, 0, []),
  (59, .getfield 7, 3, 0, [[1, 0], [12], [889, 0]]),
  (62, .sipush 140, 3, 140, []),
  (65, .iload_n 1, 1, 0, []),
  (66, .iadd, 1, 0, []),
  (67, .iaload, 1, 0, []),
  (68, .goto 40, 3, 0, [[60]]),
  (71, .iload_n 2, 1, 0, []),
  (72, .iconst 1, 1, 1, []),
  (73, .if_icmp .ne 16, 3, 0, [[49]]),
  (76, .aload_n 0, 1, 0, []),
  (77, .getfield 7, 3, 0, [[1, 0], [12], [889, 0]]),
  (80, .sipush 148, 3, 148, []),
  (83, .iload_n 1, 1, 0, []),
  (84, .iadd, 1, 0, []),
  (85, .iaload, 1, 0, []),
  (86, .goto 22, 3, 0, [[60]]),
  (89, .iload_n 2, 1, 0, []),
  (90, .iconst 2, 1, 2, []),
  (91, .if_icmp .ne 14, 3, 0, [[59]]),
  (94, .aload_n 0, 1, 0, []),
  (95, .getfield 7, 3, 0, [[1, 0], [12], [889, 0]]),
  (98, .iconst 3, 1, 3, []),
  (99, .iload_n 1, 1, 0, []),
  (100, .iadd, 1, 0, []),
  (101, .iaload, 1, 0, []),
  (102, .goto 6, 3, 0, [[60]]),
  (105, .sipush (-10001), 3, (-10001), []),
  (108, .ireturn, 1, 0, [[0]])]
/-- 147: SoldWeatherModel.takesBids()V -/
def m_X12_takesBids : List aI := [
  (0, .iconst 0, 1, 0, []),
  (1, .istore_n 1, 1, 0, []),
  (2, .iload_n 1, 1, 0, []),
  (3, .aload_n 0, 1, 0, []),
  (4, .getfield 7, 3, 0, [[1, 0], [12], [889, 0]]),
  (7, .bipush 11, 2, 11, []),
  (9, .iaload, 1, 0, []),
  (10, .if_icmp .ge 38, 3, 0, [[29]]),
  (13, .iconst 0, 1, 0, []),
  (14, .istore_n 2, 1, 0, []),
  (15, .iload_n 2, 1, 0, []),
  (16, .iconst 4, 1, 4, []),
  (17, .if_icmp .ge 25, 3, 0, [[27]]),
  (20, .aload_n 0, 1, 0, []),
  (21, .getfield 26, 3, 0, [[12, 0], [12], [900, 0]]),
  (24, .iconst 4, 1, 4, []),
  (25, .iload_n 1, 1, 0, []),
  (26, .imul, 1, 0, []),
  (27, .iload_n 2, 1, 0, []),
  (28, .iadd, 1, 0, []),
  (29, .aload_n 0, 1, 0, []),
  (30, .iload_n 1, 1, 0, []),
  (31, .iload_n 2, 1, 0, []),
  (32, .invokevirtual 164, 3, 0, [[0, 2], [12, 145, 0, 1049, 1050, 34, 64]]),
  (35, .iastore, 1, 0, []),
  (36, .iinc 2 1, 3, 1, []),
  (39, .goto (-24), 3, 0, [[10]]),
  (42, .iinc 1 1, 3, 1, []),
  (45, .goto (-43), 3, 0, [[2]]),
  (48, .return_, 1, 0, [])]
/-- 148: SoldWeatherModel.sells()V -/
def m_X12_sells : List aI := [
  (0, .iconst 0, 1, 0, []),
  (1, .istore_n 1, 1, 0, []),
  (2, .iload_n 1, 1, 0, []),
  (3, .iconst 4, 1, 4, []),
  (4, .if_icmp .ge 54, 3, 0, [[37]]),
  (7, .aload_n 0, 1, 0, []),
  (8, .getfield 29, 3, 0, [[13, 0], [12], [901, 0]]),
  (11, .iload_n 1, 1, 0, []),
  (12, .iconst 0, 1, 0, []),
  (13, .iastore, 1, 0, []),
  (14, .iconst 0, 1, 0, []),
  (15, .istore_n 2, 1, 0, []),
  (16, .iload_n 2, 1, 0, []),
  (17, .aload_n 0, 1, 0, []),
  (18, .getfield 7, 3, 0, [[1, 0], [12], [889, 0]]),
  (21, .bipush 11, 2, 11, []),
  (23, .iaload, 1, 0, []),
  (24, .if_icmp .ge 28, 3, 0, [[35]]),
  (27, .aload_n 0, 1, 0, []),
  (28, .getfield 29, 3, 0, [[13, 0], [12], [901, 0]]),
  (31, .iload_n 1, 1, 0, []),
  (32, .dup2, 1, 0, []),
  (33, .iaload, 1, 0, []),
  (34, .aload_n 0, 1, 0, []),
  (35, .getfield 26, 3, 0, [[12, 0], [12], [900, 0]]),
  (38, .iconst 4, 1, 4, []),
  (39, .iload_n 2, 1, 0, []),
  (40, .imul, 1, 0, []),
  (41, .iload_n 1, 1, 0, []),
  (42, .iadd, 1, 0, []),
  (43, .iaload, 1, 0, []),
  (44, .iadd, 1, 0, []),
  (45, .iastore, 1, 0, []),
  (46, .iinc 2 1, 3, 1, []),
  (49, .goto (-33), 3, 0, [[12]]),
  (52, .iinc 1 1, 3, 1, []),
  (55, .goto (-53), 3, 0, [[2]]),
  (58, .aload_n 0, 1, 0, []),
  (59, .iconst 0, 1, 0, []),
  (60, .putfield 167, 3, 0, [[14, 0], [12], [902, 0]]),
  (63, .iconst 1, 1, 1, []),
  (64, .istore_n 1, 1, 0, []),
  (65, .iload_n 1, 1, 0, []),
  (66, .iconst 4, 1, 4, []),
  (67, .if_icmp .ge 39, 3, 0, [[63]]),
  (70, .aload_n 0, 1, 0, []),
  (71, .aload_n 0, 1, 0, []),
  (72, .getfield 29, 3, 0, [[13, 0], [12], [901, 0]]),
  (75, .iload_n 1, 1, 0, []),
  (76, .iaload, 1, 0, []),
  (77, .aload_n 0, 1, 0, []),
  (78, .getfield 29, 3, 0, [[13, 0], [12], [901, 0]]),
  (81, .aload_n 0, 1, 0, []),
  (82, .getfield 167, 3, 0, [[14, 0], [12], [902, 0]]),
  (85, .iaload, 1, 0, []),
  (86, .if_icmp .le 7, 3, 0, [[58]]),
  (89, .iload_n 1, 1, 0, []),
  (90, .goto 7, 3, 0, [[60]]),
  (93, .aload_n 0, 1, 0, []),
  (94, .getfield 167, 3, 0, [[14, 0], [12], [902, 0]]),
  (97, .putfield 167, 3, 0, [[14, 0], [12], [902, 0]]),
  (100, .iinc 1 1, 3, 1, []),
  (103, .goto (-38), 3, 0, [[42]]),
  (106, .aload_n 0, 1, 0, []),
  (107, .aload_n 0, 1, 0, []),
  (108, .getfield 29, 3, 0, [[13, 0], [12], [901, 0]]),
  (111, .aload_n 0, 1, 0, []),
  (112, .getfield 167, 3, 0, [[14, 0], [12], [902, 0]]),
  (115, .iaload, 1, 0, []),
  (116, .ifCond .ne 7, 3, 0, [[72]]),
  (119, .iconst 1, 1, 1, []),
  (120, .goto 4, 3, 0, [[73]]),
  (123, .iconst 0, 1, 0, []),
  (124, .putfield 170, 3, 0, [[15, 1], [12], [903, 0]]),
  (127, .aload_n 0, 1, 0, []),
  (128, .aload_n 0, 1, 0, []),
  (129, .getfield 170, 3, 0, [[15, 0], [12], [903, 0]]),
  (132, .ifCond .eq 10, 3, 0, [[81]]),
  (135, .aload_n 0, 1, 0, []),
  (136, .invokevirtual 138, 3, 0, [[0, 0], [12, 136, 0, 1024, 1025, 32, 64]]),
  (139, .goto 7, 3, 0, [[83]]),
  (142, .aload_n 0, 1, 0, []),
  (143, .getfield 167, 3, 0, [[14, 0], [12], [902, 0]]),
  (146, .putfield 167, 3, 0, [[14, 0], [12], [902, 0]]),
  (149, .return_, 1, 0, [])]
/-- 149: SoldWeatherModel.harmOf(I)I -/
def m_X12_harmOf : List aI := [
  (0, .iconst 0, 1, 0, []),
  (1, .istore_n 2, 1, 0, []),
  (2, .iconst 0, 1, 0, []),
  (3, .istore_n 3, 1, 0, []),
  (4, .iload_n 3, 1, 0, []),
  (5, .iconst 4, 1, 4, []),
  (6, .if_icmp .ge 41, 3, 0, [[30]]),
  (9, .aload_n 0, 1, 0, []),
  (10, .getfield 29, 3, 0, [[13, 0], [12], [901, 0]]),
  (13, .iload_n 3, 1, 0, []),
  (14, .iaload, 1, 0, []),
  (15, .aload_n 0, 1, 0, []),
  (16, .getfield 26, 3, 0, [[12, 0], [12], [900, 0]]),
  (19, .iconst 4, 1, 4, []),
  (20, .iload_n 1, 1, 0, []),
  (21, .imul, 1, 0, []),
  (22, .iload_n 3, 1, 0, []),
  (23, .iadd, 1, 0, []),
  (24, .iaload, 1, 0, []),
  (25, .isub, 1, 0, []),
  (26, .istore 4, 2, 0, []),
  (28, .iload 4, 2, 0, []),
  (30, .iload_n 2, 1, 0, []),
  (31, .if_icmp .le 8, 3, 0, [[26]]),
  (34, .iload 4, 2, 0, []),
  (36, .goto 4, 3, 0, [[27]]),
  (39, .iload_n 2, 1, 0, []),
  (40, .istore_n 2, 1, 0, []),
  (41, .iinc 3 1, 3, 1, []),
  (44, .goto (-40), 3, 0, [[4]]),
  (47, .aload_n 0, 1, 0, []),
  (48, .getfield 170, 3, 0, [[15, 0], [12], [903, 0]]),
  (51, .ifCond .eq 7, 3, 0, [[35]]),
  (54, .iconst 0, 1, 0, []),
  (55, .goto 28, 3, 0, [[52]]),
  (58, .iload_n 2, 1, 0, []),
  (59, .aload_n 0, 1, 0, []),
  (60, .getfield 29, 3, 0, [[13, 0], [12], [901, 0]]),
  (63, .aload_n 0, 1, 0, []),
  (64, .getfield 167, 3, 0, [[14, 0], [12], [902, 0]]),
  (67, .iaload, 1, 0, []),
  (68, .aload_n 0, 1, 0, []),
  (69, .getfield 26, 3, 0, [[12, 0], [12], [900, 0]]),
  (72, .iconst 4, 1, 4, []),
  (73, .iload_n 1, 1, 0, []),
  (74, .imul, 1, 0, []),
  (75, .aload_n 0, 1, 0, []),
  (76, .getfield 167, 3, 0, [[14, 0], [12], [902, 0]]),
  (79, .iadd, 1, 0, []),
  (80, .iaload, 1, 0, []),
  (81, .isub, 1, 0, []),
  (82, .isub, 1, 0, []),
  (83, .ireturn, 1, 0, [[0]])]
/-- 150: SoldWeatherModel.paysOf(I)I -/
def m_X12_paysOf : List aI := [
  (0, .aload_n 0, 1, 0, []),
  (1, .getfield 26, 3, 0, [[12, 0], [12], [900, 0]]),
  (4, .iconst 4, 1, 4, []),
  (5, .iload_n 1, 1, 0, []),
  (6, .imul, 1, 0, []),
  (7, .aload_n 0, 1, 0, []),
  (8, .getfield 167, 3, 0, [[14, 0], [12], [902, 0]]),
  (11, .iadd, 1, 0, []),
  (12, .iaload, 1, 0, []),
  (13, .istore_n 2, 1, 0, []),
  (14, .aload_n 0, 1, 0, []),
  (15, .getfield 170, 3, 0, [[15, 0], [12], [903, 0]]),
  (18, .ifCond .ne 13, 3, 0, [[17]]),
  (21, .aload_n 0, 1, 0, []),
  (22, .sipush 232, 3, 232, []),
  (25, .invokevirtual 130, 3, 0, [[0, 1], [12, 132, 0, 1021, 1022, 31, 64]]),
  (28, .ifCond .ne 16, 3, 0, [[24]]),
  (31, .aload_n 0, 1, 0, []),
  (32, .getfield 170, 3, 0, [[15, 0], [12], [903, 0]]),
  (35, .ifCond .eq 7, 3, 0, [[22]]),
  (38, .iconst 0, 1, 0, []),
  (39, .goto 4, 3, 0, [[23]]),
  (42, .iload_n 2, 1, 0, []),
  (43, .ireturn, 1, 0, [[0]]),
  (44, .aload_n 0, 1, 0, []),
  (45, .sipush 232, 3, 232, []),
  (48, .invokevirtual 130, 3, 0, [[0, 1], [12, 132, 0, 1021, 1022, 31, 64]]),
  (51, .iconst 1, 1, 1, []),
  (52, .if_icmp .ne 9, 3, 0, [[33]]),
  (55, .aload_n 0, 1, 0, []),
  (56, .iload_n 1, 1, 0, []),
  (57, .invokevirtual 173, 3, 0, [[0, 1], [12, 149, 0, 1089, 1090, 46, 64]]),
  (60, .ireturn, 1, 0, [[0]]),
  (61, .iconst 0, 1, 0, []),
  (62, .istore_n 3, 1, 0, []),
  (63, .iconst 0, 1, 0, []),
  (64, .istore 4, 2, 0, []),
  (66, .iload 4, 2, 0, []),
  (68, .iconst 4, 1, 4, []),
  (69, .if_icmp .ge 41, 3, 0, [[59]]),
  (72, .iload 4, 2, 0, []),
  (74, .aload_n 0, 1, 0, []),
  (75, .getfield 167, 3, 0, [[14, 0], [12], [902, 0]]),
  (78, .if_icmp .eq 24, 3, 0, [[55]]),
  (81, .aload_n 0, 1, 0, []),
  (82, .getfield 29, 3, 0, [[13, 0], [12], [901, 0]]),
  (85, .iload 4, 2, 0, []),
  (87, .iaload, 1, 0, []),
  (88, .iload_n 3, 1, 0, []),
  (89, .if_icmp .le 13, 3, 0, [[55]]),
  (92, .aload_n 0, 1, 0, []),
  (93, .getfield 29, 3, 0, [[13, 0], [12], [901, 0]]),
  (96, .iload 4, 2, 0, []),
  (98, .iaload, 1, 0, []),
  (99, .goto 4, 3, 0, [[56]]),
  (102, .iload_n 3, 1, 0, []),
  (103, .istore_n 3, 1, 0, []),
  (104, .iinc 4 1, 3, 1, []),
  (107, .goto (-41), 3, 0, [[37]]),
  (110, .iconst 0, 1, 0, []),
  (111, .istore 4, 2, 0, []),
  (113, .iconst 0, 1, 0, []),
  (114, .istore 5, 2, 0, []),
  (116, .iload 5, 2, 0, []),
  (118, .aload_n 0, 1, 0, []),
  (119, .getfield 7, 3, 0, [[1, 0], [12], [889, 0]]),
  (122, .bipush 11, 2, 11, []),
  (124, .iaload, 1, 0, []),
  (125, .if_icmp .ge 36, 3, 0, [[87]]),
  (128, .iload 4, 2, 0, []),
  (130, .aload_n 0, 1, 0, []),
  (131, .getfield 26, 3, 0, [[12, 0], [12], [900, 0]]),
  (134, .iconst 4, 1, 4, []),
  (135, .iload 5, 2, 0, []),
  (137, .imul, 1, 0, []),
  (138, .aload_n 0, 1, 0, []),
  (139, .getfield 167, 3, 0, [[14, 0], [12], [902, 0]]),
  (142, .iadd, 1, 0, []),
  (143, .iaload, 1, 0, []),
  (144, .ifCond .le 7, 3, 0, [[82]]),
  (147, .iconst 1, 1, 1, []),
  (148, .goto 4, 3, 0, [[83]]),
  (151, .iconst 0, 1, 0, []),
  (152, .iadd, 1, 0, []),
  (153, .istore 4, 2, 0, []),
  (155, .iinc 5 1, 3, 1, []),
  (158, .goto (-42), 3, 0, [[63]]),
  (161, .iload_n 2, 1, 0, []),
  (162, .aload_n 0, 1, 0, []),
  (163, .getfield 29, 3, 0, [[13, 0], [12], [901, 0]]),
  (166, .aload_n 0, 1, 0, []),
  (167, .getfield 167, 3, 0, [[14, 0], [12], [902, 0]]),
  (170, .iaload, 1, 0, []),
  (171, .iload_n 3, 1, 0, []),
  (172, .isub, 1, 0, []),
  (173, .iload 4, 2, 0, []),
  (175, .idiv, 1, 0, []),
  (176, .isub, 1, 0, []),
  (177, .istore 5, 2, 0, []),
  (179, .iload 5, 2, 0, []),
  (181, .ifCond .ge 7, 3, 0, [[103]]),
  (184, .iconst 0, 1, 0, []),
  (185, .goto 5, 3, 0, [[104]]),
  (188, .iload 5, 2, 0, []),
  (190, .ireturn, 1, 0, [[0]])]
/-- 151: SoldWeatherModel.gainOf(I)I -/
def m_X12_gainOf : List aI := [
  (0, .aload_n 0, 1, 0, []),
  (1, .iload_n 1, 1, 0, []),
  (2, .aload_n 0, 1, 0, []),
  (3, .getfield 167, 3, 0, [[14, 0], [12], [902, 0]]),
  (6, .invokevirtual 148, 3, 0, [[0, 2], [12, 134, 0, 1052, 1053, 35, 64]]),
  (9, .aload_n 0, 1, 0, []),
  (10, .iload_n 1, 1, 0, []),
  (11, .invokevirtual 176, 3, 0, [[0, 1], [12, 150, 0, 1086, 1087, 45, 64]]),
  (14, .isub, 1, 0, []),
  (15, .ireturn, 1, 0, [[0]])]
/-- 152: SoldWeatherModel.evening()V -/
def m_X12_evening : List aI := [
  (0, .aload_n 0, 1, 0, []),
  (1, .invokevirtual 179, 3, 0, [[0, 0], [12, 147, 0, 1077, 1078, 42, 64]]),
  (4, .aload_n 0, 1, 0, []),
  (5, .invokevirtual 182, 3, 0, [[0, 0], [12, 148, 0, 1080, 1081, 43, 64]]),
  (8, .aload_n 0, 1, 0, []),
  (9, .dup, 1, 0, []),
  (10, .getfield 185, 3, 0, [[16, 0], [12], [904, 0]]),
  (13, .aload_n 0, 1, 0, []),
  (14, .aload_n 0, 1, 0, []),
  (15, .getfield 167, 3, 0, [[14, 0], [12], [902, 0]]),
  (18, .aload_n 0, 1, 0, []),
  (19, .getfield 7, 3, 0, [[1, 0], [12], [889, 0]]),
  (22, .iconst 1, 1, 1, []),
  (23, .iaload, 1, 0, []),
  (24, .aload_n 0, 1, 0, []),
  (25, .getfield 7, 3, 0, [[1, 0], [12], [889, 0]]),
  (28, .iconst 0, 1, 0, []),
  (29, .iaload, 1, 0, []),
  (30, .invokevirtual 188, 3, 0, [[0, 3], [12, 135, 0, 1083, 1084, 44, 64]]),
  (33, .iadd, 1, 0, []),
  (34, .putfield 185, 3, 0, [[16, 0], [12], [904, 0]]),
  (37, .iconst 0, 1, 0, []),
  (38, .istore_n 1, 1, 0, []),
  (39, .iload_n 1, 1, 0, []),
  (40, .aload_n 0, 1, 0, []),
  (41, .getfield 7, 3, 0, [[1, 0], [12], [889, 0]]),
  (44, .bipush 11, 2, 11, []),
  (46, .iaload, 1, 0, []),
  (47, .if_icmp .ge 76, 3, 0, [[72]]),
  (50, .aload_n 0, 1, 0, []),
  (51, .iload_n 1, 1, 0, []),
  (52, .invokevirtual 176, 3, 0, [[0, 1], [12, 150, 0, 1086, 1087, 45, 64]]),
  (55, .istore_n 2, 1, 0, []),
  (56, .aload_n 0, 1, 0, []),
  (57, .dup, 1, 0, []),
  (58, .getfield 192, 3, 0, [[17, 0], [12], [905, 0]]),
  (61, .iload_n 2, 1, 0, []),
  (62, .iadd, 1, 0, []),
  (63, .putfield 192, 3, 0, [[17, 0], [12], [905, 0]]),
  (66, .aload_n 0, 1, 0, []),
  (67, .getfield 7, 3, 0, [[1, 0], [12], [889, 0]]),
  (70, .iconst 3, 1, 3, []),
  (71, .iload_n 1, 1, 0, []),
  (72, .iadd, 1, 0, []),
  (73, .iaload, 1, 0, []),
  (74, .iload_n 2, 1, 0, []),
  (75, .isub, 1, 0, []),
  (76, .istore_n 3, 1, 0, []),
  (77, .iload_n 3, 1, 0, []),
  (78, .ifCond .ge 7, 3, 0, [[52]]),
  (81, .iconst 0, 1, 0, []),
  (82, .goto 4, 3, 0, [[53]]),
  (85, .iload_n 3, 1, 0, []),
  (86, .aload_n 0, 1, 0, []),
  (87, .sipush 237, 3, 237, []),
  (90, .invokevirtual 130, 3, 0, [[0, 1], [12, 132, 0, 1021, 1022, 31, 64]]),
  (93, .iadd, 1, 0, []),
  (94, .istore_n 3, 1, 0, []),
  (95, .aload_n 0, 1, 0, []),
  (96, .getfield 7, 3, 0, [[1, 0], [12], [889, 0]]),
  (99, .iconst 3, 1, 3, []),
  (100, .iload_n 1, 1, 0, []),
  (101, .iadd, 1, 0, []),
  (102, .iload_n 3, 1, 0, []),
  (103, .sipush 999, 3, 999, []),
  (106, .if_icmp .le 9, 3, 0, [[68]]),
  (109, .sipush 999, 3, 999, []),
  (112, .goto 4, 3, 0, [[69]]),
  (115, .iload_n 3, 1, 0, []),
  (116, .iastore, 1, 0, []),
  (117, .iinc 1 1, 3, 1, []),
  (120, .goto (-81), 3, 0, [[23]]),
  (123, .aload_n 0, 1, 0, []),
  (124, .getfield 7, 3, 0, [[1, 0], [12], [889, 0]]),
  (127, .iconst 2, 1, 2, []),
  (128, .dup2, 1, 0, []),
  (129, .iaload, 1, 0, []),
  (130, .aload_n 0, 1, 0, []),
  (131, .getfield 170, 3, 0, [[15, 0], [12], [903, 0]]),
  (134, .ifCond .eq 7, 3, 0, [[82]]),
  (137, .iconst 1, 1, 1, []),
  (138, .goto 4, 3, 0, [[83]]),
  (141, .iconst 0, 1, 0, []),
  (142, .iadd, 1, 0, []),
  (143, .iastore, 1, 0, []),
  (144, .aload_n 0, 1, 0, []),
  (145, .getfield 7, 3, 0, [[1, 0], [12], [889, 0]]),
  (148, .iconst 2, 1, 2, []),
  (149, .aload_n 0, 1, 0, []),
  (150, .getfield 7, 3, 0, [[1, 0], [12], [889, 0]]),
  (153, .bipush 13, 2, 13, []),
  (155, .iaload, 1, 0, []),
  (156, .ifCond .ne 7, 3, 0, [[95]]),
  (159, .iconst 0, 1, 0, []),
  (160, .goto 17, 3, 0, [[104]]),
  (163, .aload_n 0, 1, 0, []),
  (164, .getfield 7, 3, 0, [[1, 0], [12], [889, 0]]),
  (167, .iconst 2, 1, 2, []),
  (168, .iaload, 1, 0, []),
  (169, .aload_n 0, 1, 0, []),
  (170, .getfield 7, 3, 0, [[1, 0], [12], [889, 0]]),
  (173, .bipush 13, 2, 13, []),
  (175, .iaload, 1, 0, []),
  (176, .irem, 1, 0, []),
  (177, .iastore, 1, 0, []),
  (178, .aload_n 0, 1, 0, []),
  (179, .getfield 7, 3, 0, [[1, 0], [12], [889, 0]]),
  (182, .iconst 0, 1, 0, []),
  (183, .dup2, 1, 0, []),
  (184, .iaload, 1, 0, []),
  (185, .iconst 1, 1, 1, []),
  (186, .iadd, 1, 0, []),
  (187, .iastore, 1, 0, []),
  (188, .aload_n 0, 1, 0, []),
  (189, .getfield 7, 3, 0, [[1, 0], [12], [889, 0]]),
  (192, .iconst 1, 1, 1, []),
  (193, .aload_n 0, 1, 0, []),
  (194, .getfield 167, 3, 0, [[14, 0], [12], [902, 0]]),
  (197, .iastore, 1, 0, []),
  (198, .return_, 1, 0, [])]
/-- 153: SoldWeatherModel.go()I -/
def m_X12_go : List aI := [
  (0, .aload_n 0, 1, 0, []),
  (1, .getfield 7, 3, 0, [[1, 0], [12], [889, 0]]),
  (4, .iconst 0, 1, 0, []),
  (5, .iaload, 1, 0, []),
  (6, .bipush 99, 2, 99, []),
  (8, .if_icmp .ne 6, 3, 0, [[8]]),
  (11, .bipush (-3), 2, (-3), []),
  (13, .ireturn, 1, 0, [[0]]),
  (14, .aload_n 0, 1, 0, []),
  (15, .invokevirtual 195, 3, 0, [[0, 0], [12, 152, 0, 1074, 1075, 41, 64]]),
  (18, .aload_n 0, 1, 0, []),
  (19, .getfield 167, 3, 0, [[14, 0], [12], [902, 0]]),
  (22, .ireturn, 1, 0, [[0]])]
/-- 154: SoldWeatherModel.sold(I)I -/
def m_X12_sold : List aI := [
  (0, .iload_n 1, 1, 0, []),
  (1, .iconst 0, 1, 0, []),
  (2, .iconst 1, 1, 1, []),
  (3, .invokestatic 45, 3, 0, [[0, 112, 3], [969, 970, 64]]),
  (6, .ifCond .ne 24, 3, 0, [[16]]),
  (9, .iload_n 1, 1, 0, []),
  (10, .bipush 10, 2, 10, []),
  (12, .if_icmp .lt 14, 3, 0, [[14]]),
  (15, .aload_n 0, 1, 0, []),
  (16, .iload_n 1, 1, 0, []),
  (17, .bipush 10, 2, 10, []),
  (19, .isub, 1, 0, []),
  (20, .invokevirtual 145, 3, 0, [[0, 1], [12, 114, 0, 1042, 1043, 33, 64]]),
  (23, .ifCond .ne 7, 3, 0, [[16]]),
  (26, .sipush (-10001), 3, (-10001), []),
  (29, .ireturn, 1, 0, [[0]]),
  (30, .aload_n 0, 1, 0, []),
  (31, .invokevirtual 179, 3, 0, [[0, 0], [12, 147, 0, 1077, 1078, 42, 64]]),
  (34, .aload_n 0, 1, 0, []),
  (35, .invokevirtual 182, 3, 0, [[0, 0], [12, 148, 0, 1080, 1081, 43, 64]]),
  (38, .iload_n 1, 1, 0, []),
  (39, .ifCond .ne 10, 3, 0, [[25]]),
  (42, .aload_n 0, 1, 0, []),
  (43, .getfield 167, 3, 0, [[14, 0], [12], [902, 0]]),
  (46, .goto 39, 3, 0, [[44]]),
  (49, .iload_n 1, 1, 0, []),
  (50, .iconst 1, 1, 1, []),
  (51, .if_icmp .ne 26, 3, 0, [[39]]),
  (54, .aload_n 0, 1, 0, []),
  (55, .getfield 170, 3, 0, [[15, 0], [12], [903, 0]]),
  (58, .ifCond .eq 7, 3, 0, [[33]]),
  (61, .iconst 0, 1, 0, []),
  (62, .goto 23, 3, 0, [[44]]),
  (65, .aload_n 0, 1, 0, []),
  (66, .getfield 29, 3, 0, [[13, 0], [12], [901, 0]]),
  (69, .aload_n 0, 1, 0, []),
  (70, .getfield 167, 3, 0, [[14, 0], [12], [902, 0]]),
  (73, .iaload, 1, 0, []),
  (74, .goto 11, 3, 0, [[44]]),
  (77, .aload_n 0, 1, 0, []),
  (78, .iload_n 1, 1, 0, []),
  (79, .bipush 10, 2, 10, []),
  (81, .isub, 1, 0, []),
  (82, .invokevirtual 176, 3, 0, [[0, 1], [12, 150, 0, 1086, 1087, 45, 64]]),
  (85, .ireturn, 1, 0, [[0]])]
/-- 155: SoldWeatherModel.run(II)I -/
def m_X12_run : List aI := [
  (0, .iload_n 2, 1, 0, []),
  (1, .iconst 0, 1, 0, []),
  (2, .iconst 2, 1, 2, []),
  (3, .invokestatic 45, 3, 0, [[0, 112, 3], [969, 970, 64]]),
  (6, .ifCond .ne 24, 3, 0, [[16]]),
  (9, .iload_n 2, 1, 0, []),
  (10, .bipush 10, 2, 10, []),
  (12, .if_icmp .lt 14, 3, 0, [[14]]),
  (15, .aload_n 0, 1, 0, []),
  (16, .iload_n 2, 1, 0, []),
  (17, .bipush 10, 2, 10, []),
  (19, .isub, 1, 0, []),
  (20, .invokevirtual 145, 3, 0, [[0, 1], [12, 114, 0, 1042, 1043, 33, 64]]),
  (23, .ifCond .ne 7, 3, 0, [[16]]),
  (26, .sipush (-10001), 3, (-10001), []),
  (29, .ireturn, 1, 0, [[0]]),
  (30, .iload_n 1, 1, 0, []),
  (31, .iconst 0, 1, 0, []),
  (32, .bipush 40, 2, 40, []),
  (34, .invokestatic 45, 3, 0, [[0, 112, 3], [969, 970, 64]]),
  (37, .ifCond .ne 7, 3, 0, [[23]]),
  (40, .sipush (-10002), 3, (-10002), []),
  (43, .ireturn, 1, 0, [[0]]),
  (44, .aload_n 0, 1, 0, []),
  (45, .invokevirtual 198, 3, 0, [[0, 0], [12, 115, 0, 1100, 1101, 47, 64]]),
  (48, .aload_n 0, 1, 0, []),
  (49, .iconst 0, 1, 0, []),
  (50, .putfield 185, 3, 0, [[16, 0], [12], [904, 0]]),
  (53, .aload_n 0, 1, 0, []),
  (54, .iconst 0, 1, 0, []),
  (55, .putfield 192, 3, 0, [[17, 0], [12], [905, 0]]),
  (58, .iconst 0, 1, 0, []),
  (59, .istore_n 3, 1, 0, []),
  (60, .iload_n 3, 1, 0, []),
  (61, .iload_n 1, 1, 0, []),
  (62, .if_icmp .ge 13, 3, 0, [[40]]),
  (65, .aload_n 0, 1, 0, []),
  (66, .invokevirtual 195, 3, 0, [[0, 0], [12, 152, 0, 1074, 1075, 41, 64]]),
  (69, .iinc 3 1, 3, 1, []),
  (72, .goto (-12), 3, 0, [[33]]),
  (75, .iload_n 2, 1, 0, []),
  (76, .ifCond .ne 19, 3, 0, [[49]]),
  (79, .iload_n 1, 1, 0, []),
  (80, .ifCond .ne 8, 3, 0, [[46]]),
  (83, .bipush (-5), 2, (-5), []),
  (85, .goto 45, 3, 0, [[69]]),
  (88, .aload_n 0, 1, 0, []),
  (89, .getfield 167, 3, 0, [[14, 0], [12], [902, 0]]),
  (92, .goto 38, 3, 0, [[69]]),
  (95, .iload_n 2, 1, 0, []),
  (96, .iconst 1, 1, 1, []),
  (97, .if_icmp .ne 10, 3, 0, [[55]]),
  (100, .aload_n 0, 1, 0, []),
  (101, .getfield 185, 3, 0, [[16, 0], [12], [904, 0]]),
  (104, .goto 26, 3, 0, [[69]]),
  (107, .iload_n 2, 1, 0, []),
  (108, .iconst 2, 1, 2, []),
  (109, .if_icmp .ne 10, 3, 0, [[61]]),
  (112, .aload_n 0, 1, 0, []),
  (113, .getfield 192, 3, 0, [[17, 0], [12], [905, 0]]),
  (116, .goto 14, 3, 0, [[69]]),
  (119, .aload_n 0, 1, 0, []),
  (120, .getfield 7, 3, 0, [[1, 0], [12], [889, 0]]),
  (123, .iconst 3, 1, 3, []),
  (124, .iload_n 2, 1, 0, []),
  (125, .iadd, 1, 0, []),
  (126, .bipush 10, 2, 10, []),
  (128, .isub, 1, 0, []),
  (129, .iaload, 1, 0, []),
  (130, .istore_n 3, 1, 0, []),
  (131, .aload_n 0, 1, 0, []),
  (132, .invokevirtual 201, 3, 0, [[0, 0], [12, 116, 0, 1103, 1104, 48, 64]]),
  (135, .iload_n 3, 1, 0, []),
  (136, .ireturn, 1, 0, [[0]])]
/-- 156: SoldWeatherModel.withNext(III)I -/
def m_X12_withNext : List aI := [
  (0, .aload_n 0, 1, 0, []),
  (1, .iload_n 3, 1, 0, []),
  (2, .iload_n 2, 1, 0, []),
  (3, .aload_n 0, 1, 0, []),
  (4, .getfield 7, 3, 0, [[1, 0], [12], [889, 0]]),
  (7, .iconst 0, 1, 0, []),
  (8, .iaload, 1, 0, []),
  (9, .iload_n 1, 1, 0, []),
  (10, .iadd, 1, 0, []),
  (11, .invokevirtual 188, 3, 0, [[0, 3], [12, 135, 0, 1083, 1084, 44, 64]]),
  (14, .aload_n 0, 1, 0, []),
  (15, .getfield 32, 3, 0, [[18, 0], [12], [906, 0]]),
  (18, .iconst 4, 1, 4, []),
  (19, .iload_n 1, 1, 0, []),
  (20, .iconst 1, 1, 1, []),
  (21, .iadd, 1, 0, []),
  (22, .imul, 1, 0, []),
  (23, .iload_n 3, 1, 0, []),
  (24, .iadd, 1, 0, []),
  (25, .iaload, 1, 0, []),
  (26, .iadd, 1, 0, []),
  (27, .ireturn, 1, 0, [[0]])]
/-- 157: SoldWeatherModel.best(II)I -/
def m_X12_best : List aI := [
  (0, .iload_n 1, 1, 0, []),
  (1, .iconst 1, 1, 1, []),
  (2, .bipush 8, 2, 8, []),
  (4, .invokestatic 45, 3, 0, [[0, 112, 3], [969, 970, 64]]),
  (7, .ifCond .ne 7, 3, 0, [[7]]),
  (10, .sipush (-10002), 3, (-10002), []),
  (13, .ireturn, 1, 0, [[0]]),
  (14, .iload_n 2, 1, 0, []),
  (15, .iconst (-1), 1, (-1), []),
  (16, .iload_n 1, 1, 0, []),
  (17, .iconst 1, 1, 1, []),
  (18, .isub, 1, 0, []),
  (19, .invokestatic 45, 3, 0, [[0, 112, 3], [969, 970, 64]]),
  (22, .ifCond .ne 7, 3, 0, [[16]]),
  (25, .sipush (-10001), 3, (-10001), []),
  (28, .ireturn, 1, 0, [[0]]),
  (29, .iconst 0, 1, 0, []),
  (30, .istore_n 3, 1, 0, []),
  (31, .iload_n 3, 1, 0, []),
  (32, .iconst 4, 1, 4, []),
  (33, .if_icmp .ge 20, 3, 0, [[32]]),
  (36, .aload_n 0, 1, 0, []),
  (37, .getfield 32, 3, 0, [[18, 0], [12], [906, 0]]),
  (40, .iconst 4, 1, 4, []),
  (41, .iload_n 1, 1, 0, []),
  (42, .imul, 1, 0, []),
  (43, .iload_n 3, 1, 0, []),
  (44, .iadd, 1, 0, []),
  (45, .iconst 0, 1, 0, []),
  (46, .iastore, 1, 0, []),
  (47, .iinc 3 1, 3, 1, []),
  (50, .goto (-19), 3, 0, [[18]]),
  (53, .iload_n 1, 1, 0, []),
  (54, .iconst 1, 1, 1, []),
  (55, .isub, 1, 0, []),
  (56, .istore_n 3, 1, 0, []),
  (57, .iload_n 3, 1, 0, []),
  (58, .ifCond .lt 89, 3, 0, [[82]]),
  (61, .iconst 0, 1, 0, []),
  (62, .istore 4, 2, 0, []),
  (64, .iload 4, 2, 0, []),
  (66, .iconst 4, 1, 4, []),
  (67, .if_icmp .ge 74, 3, 0, [[80]]),
  (70, .aload_n 0, 1, 0, []),
  (71, .iload_n 3, 1, 0, []),
  (72, .iload 4, 2, 0, []),
  (74, .iconst 0, 1, 0, []),
  (75, .invokevirtual 204, 3, 0, [[0, 3], [12, 156, 0, 1110, 1111, 49, 64]]),
  (78, .istore 5, 2, 0, []),
  (80, .iconst 1, 1, 1, []),
  (81, .istore 6, 2, 0, []),
  (83, .iload 6, 2, 0, []),
  (85, .iconst 4, 1, 4, []),
  (86, .if_icmp .ge 36, 3, 0, [[69]]),
  (89, .aload_n 0, 1, 0, []),
  (90, .iload_n 3, 1, 0, []),
  (91, .iload 4, 2, 0, []),
  (93, .iload 6, 2, 0, []),
  (95, .invokevirtual 204, 3, 0, [[0, 3], [12, 156, 0, 1110, 1111, 49, 64]]),
  (98, .istore 7, 2, 0, []),
  (100, .iload 7, 2, 0, []),
  (102, .iload 5, 2, 0, []),
  (104, .if_icmp .le 8, 3, 0, [[65]]),
  (107, .iload 7, 2, 0, []),
  (109, .goto 5, 3, 0, [[66]]),
  (112, .iload 5, 2, 0, []),
  (114, .istore 5, 2, 0, []),
  (116, .iinc 6 1, 3, 1, []),
  (119, .goto (-36), 3, 0, [[51]]),
  (122, .aload_n 0, 1, 0, []),
  (123, .getfield 32, 3, 0, [[18, 0], [12], [906, 0]]),
  (126, .iconst 4, 1, 4, []),
  (127, .iload_n 3, 1, 0, []),
  (128, .imul, 1, 0, []),
  (129, .iload 4, 2, 0, []),
  (131, .iadd, 1, 0, []),
  (132, .iload 5, 2, 0, []),
  (134, .iastore, 1, 0, []),
  (135, .iinc 4 1, 3, 1, []),
  (138, .goto (-74), 3, 0, [[40]]),
  (141, .iinc 3 (-1), 3, (-1), []),
  (144, .goto (-87), 3, 0, [[36]]),
  (147, .aload_n 0, 1, 0, []),
  (148, .getfield 7, 3, 0, [[1, 0], [12], [889, 0]]),
  (151, .iconst 1, 1, 1, []),
  (152, .iaload, 1, 0, []),
  (153, .istore_n 3, 1, 0, []),
  (154, .iconst 0, 1, 0, []),
  (155, .istore 4, 2, 0, []),
  (157, .iload 4, 2, 0, []),
  (159, .iload_n 2, 1, 0, []),
  (160, .if_icmp .gt 44, 3, 0, [[114]]),
  (163, .iconst 0, 1, 0, []),
  (164, .istore 5, 2, 0, []),
  (166, .aload_n 0, 1, 0, []),
  (167, .iload 4, 2, 0, []),
  (169, .iload_n 3, 1, 0, []),
  (170, .iload 5, 2, 0, []),
  (172, .invokevirtual 204, 3, 0, [[0, 3], [12, 156, 0, 1110, 1111, 49, 64]]),
  (175, .aload_n 0, 1, 0, []),
  (176, .getfield 32, 3, 0, [[18, 0], [12], [906, 0]]),
  (179, .iconst 4, 1, 4, []),
  (180, .iload 4, 2, 0, []),
  (182, .imul, 1, 0, []),
  (183, .iload_n 3, 1, 0, []),
  (184, .iadd, 1, 0, []),
  (185, .iaload, 1, 0, []),
  (186, .if_icmp .eq 9, 3, 0, [[110]]),
  (189, .iinc 5 1, 3, 1, []),
  (192, .goto (-26), 3, 0, [[94]]),
  (195, .iload 5, 2, 0, []),
  (197, .istore_n 3, 1, 0, []),
  (198, .iinc 4 1, 3, 1, []),
  (201, .goto (-44), 3, 0, [[89]]),
  (204, .iload_n 2, 1, 0, []),
  (205, .iconst (-1), 1, (-1), []),
  (206, .if_icmp .ne 17, 3, 0, [[125]]),
  (209, .aload_n 0, 1, 0, []),
  (210, .getfield 32, 3, 0, [[18, 0], [12], [906, 0]]),
  (213, .aload_n 0, 1, 0, []),
  (214, .getfield 7, 3, 0, [[1, 0], [12], [889, 0]]),
  (217, .iconst 1, 1, 1, []),
  (218, .iaload, 1, 0, []),
  (219, .iaload, 1, 0, []),
  (220, .goto 4, 3, 0, [[126]]),
  (223, .iload_n 3, 1, 0, []),
  (224, .ireturn, 1, 0, [[0]])]
/-- 158: SoldWeatherModel.truly(II)I -/
def m_X12_truly : List aI := [
  (0, .aload_n 0, 1, 0, []),
  (1, .iload_n 1, 1, 0, []),
  (2, .invokevirtual 145, 3, 0, [[0, 1], [12, 114, 0, 1042, 1043, 33, 64]]),
  (5, .ifCond .eq 12, 3, 0, [[9]]),
  (8, .iload_n 2, 1, 0, []),
  (9, .iconst 0, 1, 0, []),
  (10, .iconst 2, 1, 2, []),
  (11, .invokestatic 45, 3, 0, [[0, 112, 3], [969, 970, 64]]),
  (14, .ifCond .ne 5, 3, 0, [[11]]),
  (17, .iconst (-1), 1, (-1), []),
  (18, .ireturn, 1, 0, [[0]]),
  (19, .aload_n 0, 1, 0, []),
  (20, .invokevirtual 179, 3, 0, [[0, 0], [12, 147, 0, 1077, 1078, 42, 64]]),
  (23, .aload_n 0, 1, 0, []),
  (24, .invokevirtual 182, 3, 0, [[0, 0], [12, 148, 0, 1080, 1081, 43, 64]]),
  (27, .aload_n 0, 1, 0, []),
  (28, .iload_n 1, 1, 0, []),
  (29, .invokevirtual 207, 3, 0, [[0, 1], [12, 151, 0, 1117, 1118, 50, 64]]),
  (32, .istore_n 3, 1, 0, []),
  (33, .iconst 0, 1, 0, []),
  (34, .istore 4, 2, 0, []),
  (36, .bipush (-5), 2, (-5), []),
  (38, .istore 5, 2, 0, []),
  (40, .bipush (-5), 2, (-5), []),
  (42, .istore 6, 2, 0, []),
  (44, .iconst 0, 1, 0, []),
  (45, .istore 7, 2, 0, []),
  (47, .iload 7, 2, 0, []),
  (49, .iconst 4, 1, 4, []),
  (50, .if_icmp .ge 138, 3, 0, [[103]]),
  (53, .aload_n 0, 1, 0, []),
  (54, .getfield 26, 3, 0, [[12, 0], [12], [900, 0]]),
  (57, .iconst 4, 1, 4, []),
  (58, .iload_n 1, 1, 0, []),
  (59, .imul, 1, 0, []),
  (60, .iload 7, 2, 0, []),
  (62, .iadd, 1, 0, []),
  (63, .iaload, 1, 0, []),
  (64, .istore 8, 2, 0, []),
  (66, .iconst 0, 1, 0, []),
  (67, .istore 9, 2, 0, []),
  (69, .iload 9, 2, 0, []),
  (71, .bipush 40, 2, 40, []),
  (73, .if_icmp .gt 96, 3, 0, [[92]]),
  (76, .iload 9, 2, 0, []),
  (78, .aload_n 0, 1, 0, []),
  (79, .getfield 7, 3, 0, [[1, 0], [12], [889, 0]]),
  (82, .iconst 3, 1, 3, []),
  (83, .iload_n 1, 1, 0, []),
  (84, .iadd, 1, 0, []),
  (85, .iaload, 1, 0, []),
  (86, .if_icmp .gt 83, 3, 0, [[92]]),
  (89, .aload_n 0, 1, 0, []),
  (90, .getfield 26, 3, 0, [[12, 0], [12], [900, 0]]),
  (93, .iconst 4, 1, 4, []),
  (94, .iload_n 1, 1, 0, []),
  (95, .imul, 1, 0, []),
  (96, .iload 7, 2, 0, []),
  (98, .iadd, 1, 0, []),
  (99, .iload 9, 2, 0, []),
  (101, .iastore, 1, 0, []),
  (102, .aload_n 0, 1, 0, []),
  (103, .invokevirtual 182, 3, 0, [[0, 0], [12, 148, 0, 1080, 1081, 43, 64]]),
  (106, .aload_n 0, 1, 0, []),
  (107, .iload_n 1, 1, 0, []),
  (108, .invokevirtual 207, 3, 0, [[0, 1], [12, 151, 0, 1117, 1118, 50, 64]]),
  (111, .iload_n 3, 1, 0, []),
  (112, .isub, 1, 0, []),
  (113, .istore 10, 2, 0, []),
  (115, .iload 10, 2, 0, []),
  (117, .iload 4, 2, 0, []),
  (119, .if_icmp .le 8, 3, 0, [[74]]),
  (122, .iload 7, 2, 0, []),
  (124, .goto 5, 3, 0, [[75]]),
  (127, .iload 5, 2, 0, []),
  (129, .istore 5, 2, 0, []),
  (131, .iload 10, 2, 0, []),
  (133, .iload 4, 2, 0, []),
  (135, .if_icmp .le 8, 3, 0, [[81]]),
  (138, .iload 9, 2, 0, []),
  (140, .goto 5, 3, 0, [[82]]),
  (143, .iload 6, 2, 0, []),
  (145, .istore 6, 2, 0, []),
  (147, .iload 10, 2, 0, []),
  (149, .iload 4, 2, 0, []),
  (151, .if_icmp .le 8, 3, 0, [[88]]),
  (154, .iload 10, 2, 0, []),
  (156, .goto 5, 3, 0, [[89]]),
  (159, .iload 4, 2, 0, []),
  (161, .istore 4, 2, 0, []),
  (163, .iinc 9 1, 3, 1, []),
  (166, .goto (-97), 3, 0, [[41]]),
  (169, .aload_n 0, 1, 0, []),
  (170, .getfield 26, 3, 0, [[12, 0], [12], [900, 0]]),
  (173, .iconst 4, 1, 4, []),
  (174, .iload_n 1, 1, 0, []),
  (175, .imul, 1, 0, []),
  (176, .iload 7, 2, 0, []),
  (178, .iadd, 1, 0, []),
  (179, .iload 8, 2, 0, []),
  (181, .iastore, 1, 0, []),
  (182, .iinc 7 1, 3, 1, []),
  (185, .goto (-138), 3, 0, [[27]]),
  (188, .iload_n 2, 1, 0, []),
  (189, .ifCond .ne 8, 3, 0, [[107]]),
  (192, .iload 4, 2, 0, []),
  (194, .goto 15, 3, 0, [[113]]),
  (197, .iload_n 2, 1, 0, []),
  (198, .iconst 1, 1, 1, []),
  (199, .if_icmp .ne 8, 3, 0, [[112]]),
  (202, .iload 5, 2, 0, []),
  (204, .goto 5, 3, 0, [[113]]),
  (207, .iload 6, 2, 0, []),
  (209, .ireturn, 1, 0, [[0]])]
/-- 159: SoldWeatherModel.harm(I)I -/
def m_X12_harm : List aI := [
  (0, .aload_n 0, 1, 0, []),
  (1, .iload_n 1, 1, 0, []),
  (2, .invokevirtual 145, 3, 0, [[0, 1], [12, 114, 0, 1042, 1043, 33, 64]]),
  (5, .ifCond .ne 5, 3, 0, [[6]]),
  (8, .iconst (-1), 1, (-1), []),
  (9, .ireturn, 1, 0, [[0]]),
  (10, .aload_n 0, 1, 0, []),
  (11, .invokevirtual 179, 3, 0, [[0, 0], [12, 147, 0, 1077, 1078, 42, 64]]),
  (14, .aload_n 0, 1, 0, []),
  (15, .invokevirtual 182, 3, 0, [[0, 0], [12, 148, 0, 1080, 1081, 43, 64]]),
  (18, .aload_n 0, 1, 0, []),
  (19, .iload_n 1, 1, 0, []),
  (20, .invokevirtual 173, 3, 0, [[0, 1], [12, 149, 0, 1089, 1090, 46, 64]]),
  (23, .ireturn, 1, 0, [[0]])]
/-- 160: SoldWeatherModel.leagues(I)I -/
def m_X12_leagues : List aI := [
  (0, .iload_n 1, 1, 0, []),
  (1, .iconst 0, 1, 0, []),
  (2, .iconst 1, 1, 1, []),
  (3, .invokestatic 45, 3, 0, [[0, 112, 3], [969, 970, 64]]),
  (6, .ifCond .ne 5, 3, 0, [[7]]),
  (9, .iconst (-1), 1, (-1), []),
  (10, .ireturn, 1, 0, [[0]]),
  (11, .iconst 0, 1, 0, []),
  (12, .istore_n 2, 1, 0, []),
  (13, .bipush (-5), 2, (-5), []),
  (15, .istore_n 3, 1, 0, []),
  (16, .iconst 0, 1, 0, []),
  (17, .istore 4, 2, 0, []),
  (19, .iload 4, 2, 0, []),
  (21, .aload_n 0, 1, 0, []),
  (22, .getfield 7, 3, 0, [[1, 0], [12], [889, 0]]),
  (25, .bipush 11, 2, 11, []),
  (27, .iaload, 1, 0, []),
  (28, .if_icmp .ge 198, 3, 0, [[124]]),
  (31, .iload 4, 2, 0, []),
  (33, .iconst 1, 1, 1, []),
  (34, .iadd, 1, 0, []),
  (35, .istore 5, 2, 0, []),
  (37, .iload 5, 2, 0, []),
  (39, .aload_n 0, 1, 0, []),
  (40, .getfield 7, 3, 0, [[1, 0], [12], [889, 0]]),
  (43, .bipush 11, 2, 11, []),
  (45, .iaload, 1, 0, []),
  (46, .if_icmp .ge 174, 3, 0, [[122]]),
  (49, .aload_n 0, 1, 0, []),
  (50, .invokevirtual 179, 3, 0, [[0, 0], [12, 147, 0, 1077, 1078, 42, 64]]),
  (53, .aload_n 0, 1, 0, []),
  (54, .invokevirtual 182, 3, 0, [[0, 0], [12, 148, 0, 1080, 1081, 43, 64]]),
  (57, .aload_n 0, 1, 0, []),
  (58, .iload 4, 2, 0, []),
  (60, .invokevirtual 207, 3, 0, [[0, 1], [12, 151, 0, 1117, 1118, 50, 64]]),
  (63, .aload_n 0, 1, 0, []),
  (64, .iload 5, 2, 0, []),
  (66, .invokevirtual 207, 3, 0, [[0, 1], [12, 151, 0, 1117, 1118, 50, 64]]),
  (69, .iadd, 1, 0, []),
  (70, .istore 6, 2, 0, []),
  (72, .iconst 0, 1, 0, []),
  (73, .istore 7, 2, 0, []),
  (75, .iload 7, 2, 0, []),
  (77, .iconst 4, 1, 4, []),
  (78, .if_icmp .ge 70, 3, 0, [[84]]),
  (81, .aload_n 0, 1, 0, []),
  (82, .iload 4, 2, 0, []),
  (84, .iload 7, 2, 0, []),
  (86, .invokevirtual 148, 3, 0, [[0, 2], [12, 134, 0, 1052, 1053, 35, 64]]),
  (89, .aload_n 0, 1, 0, []),
  (90, .iload 5, 2, 0, []),
  (92, .iload 7, 2, 0, []),
  (94, .invokevirtual 148, 3, 0, [[0, 2], [12, 134, 0, 1052, 1053, 35, 64]]),
  (97, .iadd, 1, 0, []),
  (98, .iconst 2, 1, 2, []),
  (99, .idiv, 1, 0, []),
  (100, .istore 8, 2, 0, []),
  (102, .aload_n 0, 1, 0, []),
  (103, .getfield 26, 3, 0, [[12, 0], [12], [900, 0]]),
  (106, .iconst 4, 1, 4, []),
  (107, .iload 4, 2, 0, []),
  (109, .imul, 1, 0, []),
  (110, .iload 7, 2, 0, []),
  (112, .iadd, 1, 0, []),
  (113, .aload_n 0, 1, 0, []),
  (114, .iload 4, 2, 0, []),
  (116, .iload 8, 2, 0, []),
  (118, .invokevirtual 155, 3, 0, [[0, 2], [12, 141, 0, 1058, 1059, 37, 64]]),
  (121, .iastore, 1, 0, []),
  (122, .aload_n 0, 1, 0, []),
  (123, .getfield 26, 3, 0, [[12, 0], [12], [900, 0]]),
  (126, .iconst 4, 1, 4, []),
  (127, .iload 5, 2, 0, []),
  (129, .imul, 1, 0, []),
  (130, .iload 7, 2, 0, []),
  (132, .iadd, 1, 0, []),
  (133, .aload_n 0, 1, 0, []),
  (134, .iload 5, 2, 0, []),
  (136, .iload 8, 2, 0, []),
  (138, .invokevirtual 155, 3, 0, [[0, 2], [12, 141, 0, 1058, 1059, 37, 64]]),
  (141, .iastore, 1, 0, []),
  (142, .iinc 7 1, 3, 1, []),
  (145, .goto (-70), 3, 0, [[43]]),
  (148, .aload_n 0, 1, 0, []),
  (149, .invokevirtual 182, 3, 0, [[0, 0], [12, 148, 0, 1080, 1081, 43, 64]]),
  (152, .aload_n 0, 1, 0, []),
  (153, .iload 4, 2, 0, []),
  (155, .invokevirtual 207, 3, 0, [[0, 1], [12, 151, 0, 1117, 1118, 50, 64]]),
  (158, .aload_n 0, 1, 0, []),
  (159, .iload 5, 2, 0, []),
  (161, .invokevirtual 207, 3, 0, [[0, 1], [12, 151, 0, 1117, 1118, 50, 64]]),
  (164, .iadd, 1, 0, []),
  (165, .iload 6, 2, 0, []),
  (167, .if_icmp .le 7, 3, 0, [[97]]),
  (170, .iconst 1, 1, 1, []),
  (171, .goto 4, 3, 0, [[98]]),
  (174, .iconst 0, 1, 0, []),
  (175, .istore 7, 2, 0, []),
  (177, .iload_n 2, 1, 0, []),
  (178, .iload 7, 2, 0, []),
  (180, .ifCond .eq 7, 3, 0, [[104]]),
  (183, .iconst 1, 1, 1, []),
  (184, .goto 4, 3, 0, [[105]]),
  (187, .iconst 0, 1, 0, []),
  (188, .iadd, 1, 0, []),
  (189, .istore_n 2, 1, 0, []),
  (190, .iload 7, 2, 0, []),
  (192, .ifCond .eq 20, 3, 0, [[118]]),
  (195, .iload_n 3, 1, 0, []),
  (196, .bipush (-5), 2, (-5), []),
  (198, .if_icmp .ne 14, 3, 0, [[118]]),
  (201, .bipush 10, 2, 10, []),
  (203, .iload 4, 2, 0, []),
  (205, .imul, 1, 0, []),
  (206, .iload 5, 2, 0, []),
  (208, .iadd, 1, 0, []),
  (209, .goto 4, 3, 0, [[119]]),
  (212, .iload_n 3, 1, 0, []),
  (213, .istore_n 3, 1, 0, []),
  (214, .iinc 5 1, 3, 1, []),
  (217, .goto (-180), 3, 0, [[23]]),
  (220, .iinc 4 1, 3, 1, []),
  (223, .goto (-204), 3, 0, [[13]]),
  (226, .iload_n 1, 1, 0, []),
  (227, .ifCond .ne 7, 3, 0, [[128]]),
  (230, .iload_n 2, 1, 0, []),
  (231, .goto 4, 3, 0, [[129]]),
  (234, .iload_n 3, 1, 0, []),
  (235, .ireturn, 1, 0, [[0]])]
/-- 161: SoldWeatherModel.beside(I)I -/
def m_X12_beside : List aI := [
  (0, .iload_n 1, 1, 0, []),
  (1, .iconst (-1), 1, (-1), []),
  (2, .if_icmp .ne 13, 3, 0, [[10]]),
  (5, .aload_n 0, 1, 0, []),
  (6, .getfield 7, 3, 0, [[1, 0], [12], [889, 0]]),
  (9, .bipush 14, 2, 14, []),
  (11, .iconst 0, 1, 0, []),
  (12, .iastore, 1, 0, []),
  (13, .iconst 0, 1, 0, []),
  (14, .ireturn, 1, 0, [[0]]),
  (15, .iload_n 1, 1, 0, []),
  (16, .invokestatic 141, 3, 0, [[0, 113, 1], [1031, 1032, 64]]),
  (19, .ifCond .ne 5, 3, 0, [[15]]),
  (22, .iconst (-1), 1, (-1), []),
  (23, .ireturn, 1, 0, [[0]]),
  (24, .aload_n 0, 1, 0, []),
  (25, .getfield 7, 3, 0, [[1, 0], [12], [889, 0]]),
  (28, .bipush 14, 2, 14, []),
  (30, .iaload, 1, 0, []),
  (31, .bipush 20, 2, 20, []),
  (33, .if_icmp .ne 6, 3, 0, [[23]]),
  (36, .bipush (-4), 2, (-4), []),
  (38, .ireturn, 1, 0, [[0]]),
  (39, .aload_n 0, 1, 0, []),
  (40, .getfield 7, 3, 0, [[1, 0], [12], [889, 0]]),
  (43, .sipush 200, 3, 200, []),
  (46, .aload_n 0, 1, 0, []),
  (47, .getfield 7, 3, 0, [[1, 0], [12], [889, 0]]),
  (50, .bipush 14, 2, 14, []),
  (52, .iaload, 1, 0, []),
  (53, .iadd, 1, 0, []),
  (54, .iload_n 1, 1, 0, []),
  (55, .iastore, 1, 0, []),
  (56, .aload_n 0, 1, 0, []),
  (57, .getfield 7, 3, 0, [[1, 0], [12], [889, 0]]),
  (60, .bipush 14, 2, 14, []),
  (62, .dup2, 1, 0, []),
  (63, .iaload, 1, 0, []),
  (64, .iconst 1, 1, 1, []),
  (65, .iadd, 1, 0, []),
  (66, .iastore, 1, 0, []),
  (67, .aload_n 0, 1, 0, []),
  (68, .getfield 7, 3, 0, [[1, 0], [12], [889, 0]]),
  (71, .bipush 14, 2, 14, []),
  (73, .iaload, 1, 0, []),
  (74, .ireturn, 1, 0, [[0]])]
/-- 162: SoldWeatherModel.spill(II)I -/
def m_X12_spill : List aI := [
  (0, .iload_n 1, 1, 0, []),
  (1, .iconst 1, 1, 1, []),
  (2, .bipush 40, 2, 40, []),
  (4, .invokestatic 45, 3, 0, [[0, 112, 3], [969, 970, 64]]),
  (7, .ifCond .eq 13, 3, 0, [[10]]),
  (10, .iload_n 2, 1, 0, []),
  (11, .iconst 0, 1, 0, []),
  (12, .bipush 99, 2, 99, []),
  (14, .invokestatic 45, 3, 0, [[0, 112, 3], [969, 970, 64]]),
  (17, .ifCond .ne 7, 3, 0, [[12]]),
  (20, .sipush (-10002), 3, (-10002), []),
  (23, .ireturn, 1, 0, [[0]]),
  (24, .aload_n 0, 1, 0, []),
  (25, .invokevirtual 198, 3, 0, [[0, 0], [12, 115, 0, 1100, 1101, 47, 64]]),
  (28, .aload_n 0, 1, 0, []),
  (29, .iconst 0, 1, 0, []),
  (30, .putfield 185, 3, 0, [[16, 0], [12], [904, 0]]),
  (33, .iconst 0, 1, 0, []),
  (34, .istore_n 3, 1, 0, []),
  (35, .iconst 0, 1, 0, []),
  (36, .istore 4, 2, 0, []),
  (38, .iload 4, 2, 0, []),
  (40, .iload_n 1, 1, 0, []),
  (41, .if_icmp .ge 59, 3, 0, [[54]]),
  (44, .aload_n 0, 1, 0, []),
  (45, .invokevirtual 195, 3, 0, [[0, 0], [12, 152, 0, 1074, 1075, 41, 64]]),
  (48, .iload_n 3, 1, 0, []),
  (49, .iload 4, 2, 0, []),
  (51, .aload_n 0, 1, 0, []),
  (52, .getfield 7, 3, 0, [[1, 0], [12], [889, 0]]),
  (55, .bipush 14, 2, 14, []),
  (57, .iaload, 1, 0, []),
  (58, .if_icmp .ge 33, 3, 0, [[49]]),
  (61, .aload_n 0, 1, 0, []),
  (62, .getfield 7, 3, 0, [[1, 0], [12], [889, 0]]),
  (65, .sipush 200, 3, 200, []),
  (68, .iload 4, 2, 0, []),
  (70, .iadd, 1, 0, []),
  (71, .iaload, 1, 0, []),
  (72, .aload_n 0, 1, 0, []),
  (73, .getfield 167, 3, 0, [[14, 0], [12], [902, 0]]),
  (76, .if_icmp .ne 15, 3, 0, [[49]]),
  (79, .iload_n 2, 1, 0, []),
  (80, .aload_n 0, 1, 0, []),
  (81, .getfield 7, 3, 0, [[1, 0], [12], [889, 0]]),
  (84, .bipush 11, 2, 11, []),
  (86, .iaload, 1, 0, []),
  (87, .imul, 1, 0, []),
  (88, .goto 4, 3, 0, [[50]]),
  (91, .iconst 0, 1, 0, []),
  (92, .iadd, 1, 0, []),
  (93, .istore_n 3, 1, 0, []),
  (94, .iinc 4 1, 3, 1, []),
  (97, .goto (-59), 3, 0, [[21]]),
  (100, .aload_n 0, 1, 0, []),
  (101, .invokevirtual 201, 3, 0, [[0, 0], [12, 116, 0, 1103, 1104, 48, 64]]),
  (104, .aload_n 0, 1, 0, []),
  (105, .getfield 185, 3, 0, [[16, 0], [12], [904, 0]]),
  (108, .iload_n 3, 1, 0, []),
  (109, .iadd, 1, 0, []),
  (110, .ireturn, 1, 0, [[0]])]
/-- 163: SoldWeatherModel.poor(II)I -/
def m_X12_poor : List aI := [
  (0, .iload_n 2, 1, 0, []),
  (1, .iconst 0, 1, 0, []),
  (2, .iconst 1, 1, 1, []),
  (3, .invokestatic 45, 3, 0, [[0, 112, 3], [969, 970, 64]]),
  (6, .ifCond .ne 5, 3, 0, [[7]]),
  (9, .iconst (-1), 1, (-1), []),
  (10, .ireturn, 1, 0, [[0]]),
  (11, .iload_n 1, 1, 0, []),
  (12, .iconst 1, 1, 1, []),
  (13, .bipush 40, 2, 40, []),
  (15, .invokestatic 45, 3, 0, [[0, 112, 3], [969, 970, 64]]),
  (18, .ifCond .ne 6, 3, 0, [[14]]),
  (21, .bipush (-2), 2, (-2), []),
  (23, .ireturn, 1, 0, [[0]]),
  (24, .iconst 0, 1, 0, []),
  (25, .istore_n 3, 1, 0, []),
  (26, .iload_n 3, 1, 0, []),
  (27, .bipush 8, 2, 8, []),
  (29, .if_icmp .ge 16, 3, 0, [[26]]),
  (32, .aload_n 0, 1, 0, []),
  (33, .getfield 35, 3, 0, [[19, 0], [12], [907, 0]]),
  (36, .iload_n 3, 1, 0, []),
  (37, .iconst 0, 1, 0, []),
  (38, .iastore, 1, 0, []),
  (39, .iinc 3 1, 3, 1, []),
  (42, .goto (-16), 3, 0, [[16]]),
  (45, .iconst 0, 1, 0, []),
  (46, .istore_n 3, 1, 0, []),
  (47, .aload_n 0, 1, 0, []),
  (48, .invokevirtual 198, 3, 0, [[0, 0], [12, 115, 0, 1100, 1101, 47, 64]]),
  (51, .iconst 0, 1, 0, []),
  (52, .istore 4, 2, 0, []),
  (54, .iload 4, 2, 0, []),
  (56, .iload_n 1, 1, 0, []),
  (57, .if_icmp .ge 94, 3, 0, [[85]]),
  (60, .aload_n 0, 1, 0, []),
  (61, .getfield 7, 3, 0, [[1, 0], [12], [889, 0]]),
  (64, .iconst 1, 1, 1, []),
  (65, .iaload, 1, 0, []),
  (66, .istore 5, 2, 0, []),
  (68, .aload_n 0, 1, 0, []),
  (69, .getfield 7, 3, 0, [[1, 0], [12], [889, 0]]),
  (72, .iconst 0, 1, 0, []),
  (73, .iaload, 1, 0, []),
  (74, .istore 6, 2, 0, []),
  (76, .aload_n 0, 1, 0, []),
  (77, .invokevirtual 195, 3, 0, [[0, 0], [12, 152, 0, 1074, 1075, 41, 64]]),
  (80, .iconst 0, 1, 0, []),
  (81, .istore 7, 2, 0, []),
  (83, .iload 7, 2, 0, []),
  (85, .aload_n 0, 1, 0, []),
  (86, .getfield 7, 3, 0, [[1, 0], [12], [889, 0]]),
  (89, .bipush 11, 2, 11, []),
  (91, .iaload, 1, 0, []),
  (92, .if_icmp .ge 53, 3, 0, [[83]]),
  (95, .aload_n 0, 1, 0, []),
  (96, .iload 7, 2, 0, []),
  (98, .aload_n 0, 1, 0, []),
  (99, .getfield 167, 3, 0, [[14, 0], [12], [902, 0]]),
  (102, .iload 5, 2, 0, []),
  (104, .iload 6, 2, 0, []),
  (106, .invokevirtual 134, 3, 0, [[0, 4], [12, 133, 0, 1055, 1056, 36, 64]]),
  (109, .istore 8, 2, 0, []),
  (111, .aload_n 0, 1, 0, []),
  (112, .getfield 35, 3, 0, [[19, 0], [12], [907, 0]]),
  (115, .iload 7, 2, 0, []),
  (117, .dup2, 1, 0, []),
  (118, .iaload, 1, 0, []),
  (119, .iload 8, 2, 0, []),
  (121, .iadd, 1, 0, []),
  (122, .iastore, 1, 0, []),
  (123, .iload_n 3, 1, 0, []),
  (124, .iload 8, 2, 0, []),
  (126, .ifCond .le 10, 3, 0, [[78]]),
  (129, .iconst 1, 1, 1, []),
  (130, .iload 7, 2, 0, []),
  (132, .ishl, 1, 0, []),
  (133, .goto 4, 3, 0, [[79]]),
  (136, .iconst 0, 1, 0, []),
  (137, .ior, 1, 0, []),
  (138, .istore_n 3, 1, 0, []),
  (139, .iinc 7 1, 3, 1, []),
  (142, .goto (-59), 3, 0, [[49]]),
  (145, .iinc 4 1, 3, 1, []),
  (148, .goto (-94), 3, 0, [[32]]),
  (151, .aload_n 0, 1, 0, []),
  (152, .invokevirtual 201, 3, 0, [[0, 0], [12, 116, 0, 1103, 1104, 48, 64]]),
  (155, .aload_n 0, 1, 0, []),
  (156, .getfield 35, 3, 0, [[19, 0], [12], [907, 0]]),
  (159, .iconst 0, 1, 0, []),
  (160, .iaload, 1, 0, []),
  (161, .istore 4, 2, 0, []),
  (163, .aload_n 0, 1, 0, []),
  (164, .getfield 35, 3, 0, [[19, 0], [12], [907, 0]]),
  (167, .iconst 0, 1, 0, []),
  (168, .iaload, 1, 0, []),
  (169, .istore 5, 2, 0, []),
  (171, .iconst 1, 1, 1, []),
  (172, .istore 6, 2, 0, []),
  (174, .iload 6, 2, 0, []),
  (176, .aload_n 0, 1, 0, []),
  (177, .getfield 7, 3, 0, [[1, 0], [12], [889, 0]]),
  (180, .bipush 11, 2, 11, []),
  (182, .iaload, 1, 0, []),
  (183, .if_icmp .ge 61, 3, 0, [[133]]),
  (186, .aload_n 0, 1, 0, []),
  (187, .getfield 35, 3, 0, [[19, 0], [12], [907, 0]]),
  (190, .iload 6, 2, 0, []),
  (192, .iaload, 1, 0, []),
  (193, .iload 4, 2, 0, []),
  (195, .if_icmp .le 13, 3, 0, [[116]]),
  (198, .aload_n 0, 1, 0, []),
  (199, .getfield 35, 3, 0, [[19, 0], [12], [907, 0]]),
  (202, .iload 6, 2, 0, []),
  (204, .iaload, 1, 0, []),
  (205, .goto 5, 3, 0, [[117]]),
  (208, .iload 4, 2, 0, []),
  (210, .istore 4, 2, 0, []),
  (212, .aload_n 0, 1, 0, []),
  (213, .getfield 35, 3, 0, [[19, 0], [12], [907, 0]]),
  (216, .iload 6, 2, 0, []),
  (218, .iaload, 1, 0, []),
  (219, .iload 5, 2, 0, []),
  (221, .if_icmp .ge 13, 3, 0, [[129]]),
  (224, .aload_n 0, 1, 0, []),
  (225, .getfield 35, 3, 0, [[19, 0], [12], [907, 0]]),
  (228, .iload 6, 2, 0, []),
  (230, .iaload, 1, 0, []),
  (231, .goto 5, 3, 0, [[130]]),
  (234, .iload 5, 2, 0, []),
  (236, .istore 5, 2, 0, []),
  (238, .iinc 6 1, 3, 1, []),
  (241, .goto (-67), 3, 0, [[99]]),
  (244, .iload_n 2, 1, 0, []),
  (245, .ifCond .ne 21, 3, 0, [[148]]),
  (248, .iconst 1, 1, 1, []),
  (249, .aload_n 0, 1, 0, []),
  (250, .getfield 7, 3, 0, [[1, 0], [12], [889, 0]]),
  (253, .bipush 11, 2, 11, []),
  (255, .iaload, 1, 0, []),
  (256, .ishl, 1, 0, []),
  (257, .iconst 1, 1, 1, []),
  (258, .isub, 1, 0, []),
  (259, .iload_n 3, 1, 0, []),
  (260, .iconst (-1), 1, (-1), []),
  (261, .ixor, 1, 0, []),
  (262, .iand, 1, 0, []),
  (263, .goto 8, 3, 0, [[151]]),
  (266, .iload 4, 2, 0, []),
  (268, .iload 5, 2, 0, []),
  (270, .isub, 1, 0, []),
  (271, .ireturn, 1, 0, [[0]])]
/-- 164: SoldWeatherModel.worse(I)J -/
def m_X12_worse : List aI := [
  (0, .iload_n 1, 1, 0, []),
  (1, .iconst 1, 1, 1, []),
  (2, .bipush 40, 2, 40, []),
  (4, .invokestatic 45, 3, 0, [[0, 112, 3], [969, 970, 64]]),
  (7, .ifCond .ne 7, 3, 0, [[7]]),
  (10, .ldc2_w 210, 3, (-2), [[1144]]),
  (13, .lreturn, 1, 0, []),
  (14, .lconst 0, 1, 0, []),
  (15, .lstore_n 2, 1, 0, []),
  (16, .aload_n 0, 1, 0, []),
  (17, .invokevirtual 198, 3, 0, [[0, 0], [12, 115, 0, 1100, 1101, 47, 64]]),
  (20, .iconst 0, 1, 0, []),
  (21, .istore 4, 2, 0, []),
  (23, .iload 4, 2, 0, []),
  (25, .iload_n 1, 1, 0, []),
  (26, .if_icmp .ge 71, 3, 0, [[53]]),
  (29, .aload_n 0, 1, 0, []),
  (30, .getfield 7, 3, 0, [[1, 0], [12], [889, 0]]),
  (33, .iconst 1, 1, 1, []),
  (34, .iaload, 1, 0, []),
  (35, .istore 5, 2, 0, []),
  (37, .aload_n 0, 1, 0, []),
  (38, .getfield 7, 3, 0, [[1, 0], [12], [889, 0]]),
  (41, .iconst 0, 1, 0, []),
  (42, .iaload, 1, 0, []),
  (43, .istore 6, 2, 0, []),
  (45, .aload_n 0, 1, 0, []),
  (46, .invokevirtual 138, 3, 0, [[0, 0], [12, 136, 0, 1024, 1025, 32, 64]]),
  (49, .istore 7, 2, 0, []),
  (51, .aload_n 0, 1, 0, []),
  (52, .invokevirtual 195, 3, 0, [[0, 0], [12, 152, 0, 1074, 1075, 41, 64]]),
  (55, .lload_n 2, 1, 0, []),
  (56, .aload_n 0, 1, 0, []),
  (57, .aload_n 0, 1, 0, []),
  (58, .getfield 167, 3, 0, [[14, 0], [12], [902, 0]]),
  (61, .iload 5, 2, 0, []),
  (63, .iload 6, 2, 0, []),
  (65, .invokevirtual 188, 3, 0, [[0, 3], [12, 135, 0, 1083, 1084, 44, 64]]),
  (68, .aload_n 0, 1, 0, []),
  (69, .iload 7, 2, 0, []),
  (71, .iload 5, 2, 0, []),
  (73, .iload 6, 2, 0, []),
  (75, .invokevirtual 188, 3, 0, [[0, 3], [12, 135, 0, 1083, 1084, 44, 64]]),
  (78, .if_icmp .ge 10, 3, 0, [[48]]),
  (81, .lconst 1, 1, 0, []),
  (82, .iload 4, 2, 0, []),
  (84, .lshl, 1, 0, []),
  (85, .goto 4, 3, 0, [[49]]),
  (88, .lconst 0, 1, 0, []),
  (89, .lor, 1, 0, []),
  (90, .lstore_n 2, 1, 0, []),
  (91, .iinc 4 1, 3, 1, []),
  (94, .goto (-71), 3, 0, [[13]]),
  (97, .aload_n 0, 1, 0, []),
  (98, .invokevirtual 201, 3, 0, [[0, 0], [12, 116, 0, 1103, 1104, 48, 64]]),
  (101, .lload_n 2, 1, 0, []),
  (102, .lreturn, 1, 0, [])]
/-- 165: SoldWeatherModel.book(I)I -/
def m_X12_book : List aI := [
  (0, .iload_n 1, 1, 0, []),
  (1, .iconst (-1), 1, (-1), []),
  (2, .if_icmp .ne 13, 3, 0, [[10]]),
  (5, .aload_n 0, 1, 0, []),
  (6, .getfield 7, 3, 0, [[1, 0], [12], [889, 0]]),
  (9, .bipush 15, 2, 15, []),
  (11, .iconst 0, 1, 0, []),
  (12, .iastore, 1, 0, []),
  (13, .iconst 0, 1, 0, []),
  (14, .ireturn, 1, 0, [[0]]),
  (15, .iload_n 1, 1, 0, []),
  (16, .invokestatic 141, 3, 0, [[0, 113, 1], [1031, 1032, 64]]),
  (19, .ifCond .ne 5, 3, 0, [[15]]),
  (22, .iconst (-1), 1, (-1), []),
  (23, .ireturn, 1, 0, [[0]]),
  (24, .aload_n 0, 1, 0, []),
  (25, .getfield 7, 3, 0, [[1, 0], [12], [889, 0]]),
  (28, .bipush 15, 2, 15, []),
  (30, .iaload, 1, 0, []),
  (31, .bipush 12, 2, 12, []),
  (33, .if_icmp .ne 6, 3, 0, [[23]]),
  (36, .bipush (-4), 2, (-4), []),
  (38, .ireturn, 1, 0, [[0]]),
  (39, .aload_n 0, 1, 0, []),
  (40, .getfield 7, 3, 0, [[1, 0], [12], [889, 0]]),
  (43, .sipush 220, 3, 220, []),
  (46, .aload_n 0, 1, 0, []),
  (47, .getfield 7, 3, 0, [[1, 0], [12], [889, 0]]),
  (50, .bipush 15, 2, 15, []),
  (52, .iaload, 1, 0, []),
  (53, .iadd, 1, 0, []),
  (54, .iload_n 1, 1, 0, []),
  (55, .iastore, 1, 0, []),
  (56, .aload_n 0, 1, 0, []),
  (57, .getfield 7, 3, 0, [[1, 0], [12], [889, 0]]),
  (60, .bipush 15, 2, 15, []),
  (62, .dup2, 1, 0, []),
  (63, .iaload, 1, 0, []),
  (64, .iconst 1, 1, 1, []),
  (65, .iadd, 1, 0, []),
  (66, .iastore, 1, 0, []),
  (67, .aload_n 0, 1, 0, []),
  (68, .getfield 7, 3, 0, [[1, 0], [12], [889, 0]]),
  (71, .bipush 15, 2, 15, []),
  (73, .iaload, 1, 0, []),
  (74, .ireturn, 1, 0, [[0]])]
/-- 166: SoldWeatherModel.looked()I -/
def m_X12_looked : List aI := [
  (0, .bipush (-5), 2, (-5), []),
  (2, .istore_n 1, 1, 0, []),
  (3, .aload_n 0, 1, 0, []),
  (4, .invokevirtual 198, 3, 0, [[0, 0], [12, 115, 0, 1100, 1101, 47, 64]]),
  (7, .iconst 0, 1, 0, []),
  (8, .istore_n 2, 1, 0, []),
  (9, .iload_n 2, 1, 0, []),
  (10, .aload_n 0, 1, 0, []),
  (11, .getfield 7, 3, 0, [[1, 0], [12], [889, 0]]),
  (14, .bipush 15, 2, 15, []),
  (16, .iaload, 1, 0, []),
  (17, .if_icmp .ge 42, 3, 0, [[32]]),
  (20, .iload_n 1, 1, 0, []),
  (21, .bipush (-5), 2, (-5), []),
  (23, .if_icmp .ne 36, 3, 0, [[32]]),
  (26, .aload_n 0, 1, 0, []),
  (27, .invokevirtual 195, 3, 0, [[0, 0], [12, 152, 0, 1074, 1075, 41, 64]]),
  (30, .aload_n 0, 1, 0, []),
  (31, .getfield 167, 3, 0, [[14, 0], [12], [902, 0]]),
  (34, .aload_n 0, 1, 0, []),
  (35, .getfield 7, 3, 0, [[1, 0], [12], [889, 0]]),
  (38, .sipush 220, 3, 220, []),
  (41, .iload_n 2, 1, 0, []),
  (42, .iadd, 1, 0, []),
  (43, .iaload, 1, 0, []),
  (44, .if_icmp .eq 7, 3, 0, [[28]]),
  (47, .iload_n 2, 1, 0, []),
  (48, .goto 4, 3, 0, [[29]]),
  (51, .iload_n 1, 1, 0, []),
  (52, .istore_n 1, 1, 0, []),
  (53, .iinc 2 1, 3, 1, []),
  (56, .goto (-47), 3, 0, [[6]]),
  (59, .aload_n 0, 1, 0, []),
  (60, .invokevirtual 201, 3, 0, [[0, 0], [12, 116, 0, 1103, 1104, 48, 64]]),
  (63, .iload_n 1, 1, 0, []),
  (64, .ireturn, 1, 0, [[0]])]
/-- 167: SoldWeatherModel.ranBody(I)V -/
def m_X12_ranBody : List aI := [
  (0, .aload_n 0, 1, 0, []),
  (1, .getfield 212, 3, 0, [[21, 0], [12], [909, 0]]),
  (4, .bipush 20, 2, 20, []),
  (6, .if_icmp .ge 13, 3, 0, [[10]]),
  (9, .aload_n 0, 1, 0, []),
  (10, .getfield 38, 3, 0, [[20, 0], [12], [908, 0]]),
  (13, .aload_n 0, 1, 0, []),
  (14, .getfield 212, 3, 0, [[21, 0], [12], [909, 0]]),
  (17, .iload_n 1, 1, 0, []),
  (18, .iastore, 1, 0, []),
  (19, .aload_n 0, 1, 0, []),
  (20, .dup, 1, 0, []),
  (21, .getfield 212, 3, 0, [[21, 0], [12], [909, 0]]),
  (24, .iconst 1, 1, 1, []),
  (25, .iadd, 1, 0, []),
  (26, .putfield 212, 3, 0, [[21, 0], [12], [909, 0]]),
  (29, .return_, 1, 0, [])]
/-- 168: SoldWeatherModel.isUnder(II)Z -/
def m_X12_isUnder : List aI := [
  (0, .iload_n 1, 1, 0, []),
  (1, .ifCond .eq 34, 3, 0, [[20]]),
  (4, .iload_n 1, 1, 0, []),
  (5, .iload_n 0, 1, 0, []),
  (6, .if_icmp .eq 29, 3, 0, [[20]]),
  (9, .iload_n 1, 1, 0, []),
  (10, .iconst 1, 1, 1, []),
  (11, .if_icmp .ne 8, 3, 0, [[11]]),
  (14, .iload_n 0, 1, 0, []),
  (15, .iconst 4, 1, 4, []),
  (16, .if_icmp .eq 19, 3, 0, [[20]]),
  (19, .iload_n 1, 1, 0, []),
  (20, .iconst 2, 1, 2, []),
  (21, .if_icmp .ne 18, 3, 0, [[22]]),
  (24, .iload_n 0, 1, 0, []),
  (25, .iconst 5, 1, 5, []),
  (26, .if_icmp .eq 9, 3, 0, [[20]]),
  (29, .iload_n 0, 1, 0, []),
  (30, .bipush 6, 2, 6, []),
  (32, .if_icmp .ne 7, 3, 0, [[22]]),
  (35, .iconst 1, 1, 1, []),
  (36, .goto 4, 3, 0, [[23]]),
  (39, .iconst 0, 1, 0, []),
  (40, .ireturn, 1, 0, [[1]])]
/-- 169: SoldWeatherModel.plainBids(I)I -/
def m_X12_plainBids : List aI := [
  (0, .aload_n 0, 1, 0, []),
  (1, .iconst 1, 1, 1, []),
  (2, .invokevirtual 215, 3, 0, [[0, 1], [12, 167, 0, 1163, 1164, 52, 64]]),
  (5, .iload_n 1, 1, 0, []),
  (6, .aload_n 0, 1, 0, []),
  (7, .getfield 218, 3, 0, [[23, 0], [12], [911, 0]]),
  (10, .iadd, 1, 0, []),
  (11, .ireturn, 1, 0, [[0]])]
/-- 170: SoldWeatherModel.bidsActs(I)I -/
def m_X12_bidsActs : List aI := [
  (0, .aload_n 0, 1, 0, []),
  (1, .getfield 221, 3, 0, [[22, 0], [12], [910, 0]]),
  (4, .iconst 1, 1, 1, []),
  (5, .invokestatic 224, 3, 0, [[0, 168, 2], [1160, 1161, 64]]),
  (8, .ifCond .eq 17, 3, 0, [[14]]),
  (11, .aload_n 0, 1, 0, []),
  (12, .bipush 11, 2, 11, []),
  (14, .invokevirtual 215, 3, 0, [[0, 1], [12, 167, 0, 1163, 1164, 52, 64]]),
  (17, .aload_n 0, 1, 0, []),
  (18, .iload_n 1, 1, 0, []),
  (19, .iconst 3, 1, 3, []),
  (20, .imul, 1, 0, []),
  (21, .invokevirtual 228, 3, 0, [[0, 1], [12, 169, 0, 1166, 1167, 53, 64]]),
  (24, .ireturn, 1, 0, [[0]]),
  (25, .aload_n 0, 1, 0, []),
  (26, .getfield 221, 3, 0, [[22, 0], [12], [910, 0]]),
  (29, .iconst 5, 1, 5, []),
  (30, .if_icmp .ne 20, 3, 0, [[28]]),
  (33, .aload_n 0, 1, 0, []),
  (34, .bipush 51, 2, 51, []),
  (36, .invokevirtual 215, 3, 0, [[0, 1], [12, 167, 0, 1163, 1164, 52, 64]]),
  (39, .aload_n 0, 1, 0, []),
  (40, .iload_n 1, 1, 0, []),
  (41, .invokevirtual 228, 3, 0, [[0, 1], [12, 169, 0, 1166, 1167, 53, 64]]),
  (44, .aload_n 0, 1, 0, []),
  (45, .getfield 218, 3, 0, [[23, 0], [12], [911, 0]]),
  (48, .ixor, 1, 0, []),
  (49, .ireturn, 1, 0, [[0]]),
  (50, .aload_n 0, 1, 0, []),
  (51, .iload_n 1, 1, 0, []),
  (52, .invokevirtual 228, 3, 0, [[0, 1], [12, 169, 0, 1166, 1167, 53, 64]]),
  (55, .ireturn, 1, 0, [[0]])]
/-- 171: SoldWeatherModel.plainPays(I)I -/
def m_X12_plainPays : List aI := [
  (0, .aload_n 0, 1, 0, []),
  (1, .iconst 2, 1, 2, []),
  (2, .invokevirtual 215, 3, 0, [[0, 1], [12, 167, 0, 1163, 1164, 52, 64]]),
  (5, .aload_n 0, 1, 0, []),
  (6, .iload_n 1, 1, 0, []),
  (7, .invokevirtual 231, 3, 0, [[0, 1], [12, 170, 0, 1157, 1158, 51, 64]]),
  (10, .aload_n 0, 1, 0, []),
  (11, .getfield 234, 3, 0, [[24, 0], [12], [912, 0]]),
  (14, .isub, 1, 0, []),
  (15, .ireturn, 1, 0, [[0]])]
/-- 172: SoldWeatherModel.leaguePays(I)I -/
def m_X12_leaguePays : List aI := [
  (0, .aload_n 0, 1, 0, []),
  (1, .bipush 21, 2, 21, []),
  (3, .invokevirtual 215, 3, 0, [[0, 1], [12, 167, 0, 1163, 1164, 52, 64]]),
  (6, .aload_n 0, 1, 0, []),
  (7, .iload_n 1, 1, 0, []),
  (8, .invokevirtual 237, 3, 0, [[0, 1], [12, 171, 0, 1175, 1176, 56, 64]]),
  (11, .ineg, 1, 0, []),
  (12, .ireturn, 1, 0, [[0]])]
/-- 173: SoldWeatherModel.paysActs(I)I -/
def m_X12_paysActs : List aI := [
  (0, .aload_n 0, 1, 0, []),
  (1, .getfield 221, 3, 0, [[22, 0], [12], [910, 0]]),
  (4, .bipush 6, 2, 6, []),
  (6, .if_icmp .ne 20, 3, 0, [[14]]),
  (9, .aload_n 0, 1, 0, []),
  (10, .bipush 61, 2, 61, []),
  (12, .invokevirtual 215, 3, 0, [[0, 1], [12, 167, 0, 1163, 1164, 52, 64]]),
  (15, .aload_n 0, 1, 0, []),
  (16, .iload_n 1, 1, 0, []),
  (17, .invokevirtual 240, 3, 0, [[0, 1], [12, 172, 0, 1172, 1173, 55, 64]]),
  (20, .aload_n 0, 1, 0, []),
  (21, .getfield 234, 3, 0, [[24, 0], [12], [912, 0]]),
  (24, .iadd, 1, 0, []),
  (25, .ireturn, 1, 0, [[0]]),
  (26, .aload_n 0, 1, 0, []),
  (27, .getfield 221, 3, 0, [[22, 0], [12], [910, 0]]),
  (30, .iconst 2, 1, 2, []),
  (31, .invokestatic 224, 3, 0, [[0, 168, 2], [1160, 1161, 64]]),
  (34, .ifCond .eq 11, 3, 0, [[23]]),
  (37, .aload_n 0, 1, 0, []),
  (38, .iload_n 1, 1, 0, []),
  (39, .invokevirtual 240, 3, 0, [[0, 1], [12, 172, 0, 1172, 1173, 55, 64]]),
  (42, .goto 8, 3, 0, [[26]]),
  (45, .aload_n 0, 1, 0, []),
  (46, .iload_n 1, 1, 0, []),
  (47, .invokevirtual 237, 3, 0, [[0, 1], [12, 171, 0, 1175, 1176, 56, 64]]),
  (50, .ireturn, 1, 0, [[0]])]
/-- 174: SoldWeatherModel.plainTells(I)I -/
def m_X12_plainTells : List aI := [
  (0, .aload_n 0, 1, 0, []),
  (1, .iconst 3, 1, 3, []),
  (2, .invokevirtual 215, 3, 0, [[0, 1], [12, 167, 0, 1163, 1164, 52, 64]]),
  (5, .aload_n 0, 1, 0, []),
  (6, .iload_n 1, 1, 0, []),
  (7, .invokevirtual 243, 3, 0, [[0, 1], [12, 173, 0, 1169, 1170, 54, 64]]),
  (10, .iconst 2, 1, 2, []),
  (11, .imul, 1, 0, []),
  (12, .ireturn, 1, 0, [[0]])]
/-- 175: SoldWeatherModel.tellsActs(I)I -/
def m_X12_tellsActs : List aI := [
  (0, .aload_n 0, 1, 0, []),
  (1, .getfield 221, 3, 0, [[22, 0], [12], [910, 0]]),
  (4, .iconst 3, 1, 3, []),
  (5, .if_icmp .ne 18, 3, 0, [[13]]),
  (8, .aload_n 0, 1, 0, []),
  (9, .bipush 31, 2, 31, []),
  (11, .invokevirtual 215, 3, 0, [[0, 1], [12, 167, 0, 1163, 1164, 52, 64]]),
  (14, .aload_n 0, 1, 0, []),
  (15, .iload_n 1, 1, 0, []),
  (16, .invokevirtual 246, 3, 0, [[0, 1], [12, 174, 0, 1181, 1182, 58, 64]]),
  (19, .bipush 7, 2, 7, []),
  (21, .ixor, 1, 0, []),
  (22, .ireturn, 1, 0, [[0]]),
  (23, .aload_n 0, 1, 0, []),
  (24, .getfield 221, 3, 0, [[22, 0], [12], [910, 0]]),
  (27, .iconst 4, 1, 4, []),
  (28, .if_icmp .ne 25, 3, 0, [[32]]),
  (31, .aload_n 0, 1, 0, []),
  (32, .bipush 41, 2, 41, []),
  (34, .invokevirtual 215, 3, 0, [[0, 1], [12, 167, 0, 1163, 1164, 52, 64]]),
  (37, .aload_n 0, 1, 0, []),
  (38, .iload_n 1, 1, 0, []),
  (39, .iconst 1, 1, 1, []),
  (40, .isub, 1, 0, []),
  (41, .invokevirtual 246, 3, 0, [[0, 1], [12, 174, 0, 1181, 1182, 58, 64]]),
  (44, .istore_n 2, 1, 0, []),
  (45, .iload_n 2, 1, 0, []),
  (46, .aload_n 0, 1, 0, []),
  (47, .iconst 2, 1, 2, []),
  (48, .invokevirtual 231, 3, 0, [[0, 1], [12, 170, 0, 1157, 1158, 51, 64]]),
  (51, .iadd, 1, 0, []),
  (52, .ireturn, 1, 0, [[0]]),
  (53, .aload_n 0, 1, 0, []),
  (54, .iload_n 1, 1, 0, []),
  (55, .invokevirtual 246, 3, 0, [[0, 1], [12, 174, 0, 1181, 1182, 58, 64]]),
  (58, .ireturn, 1, 0, [[0]])]
/-- 176: SoldWeatherModel.act(III)I -/
def m_X12_act : List aI := [
  (0, .aload_n 0, 1, 0, []),
  (1, .iconst 0, 1, 0, []),
  (2, .putfield 212, 3, 0, [[21, 0], [12], [909, 0]]),
  (5, .aload_n 0, 1, 0, []),
  (6, .iload_n 1, 1, 0, []),
  (7, .invokevirtual 145, 3, 0, [[0, 1], [12, 114, 0, 1042, 1043, 33, 64]]),
  (10, .ifCond .eq 12, 3, 0, [[12]]),
  (13, .iload_n 2, 1, 0, []),
  (14, .iconst 0, 1, 0, []),
  (15, .iconst 2, 1, 2, []),
  (16, .invokestatic 45, 3, 0, [[0, 112, 3], [969, 970, 64]]),
  (19, .ifCond .ne 5, 3, 0, [[14]]),
  (22, .iconst 0, 1, 0, []),
  (23, .ireturn, 1, 0, [[0]]),
  (24, .aload_n 0, 1, 0, []),
  (25, .aload_n 0, 1, 0, []),
  (26, .getfield 7, 3, 0, [[1, 0], [12], [889, 0]]),
  (29, .sipush 140, 3, 140, []),
  (32, .iload_n 1, 1, 0, []),
  (33, .iadd, 1, 0, []),
  (34, .iaload, 1, 0, []),
  (35, .putfield 221, 3, 0, [[22, 0], [12], [910, 0]]),
  (38, .aload_n 0, 1, 0, []),
  (39, .iload_n 1, 1, 0, []),
  (40, .putfield 218, 3, 0, [[23, 0], [12], [911, 0]]),
  (43, .aload_n 0, 1, 0, []),
  (44, .aload_n 0, 1, 0, []),
  (45, .getfield 7, 3, 0, [[1, 0], [12], [889, 0]]),
  (48, .sipush 148, 3, 148, []),
  (51, .iload_n 1, 1, 0, []),
  (52, .iadd, 1, 0, []),
  (53, .iaload, 1, 0, []),
  (54, .putfield 234, 3, 0, [[24, 0], [12], [912, 0]]),
  (57, .iload_n 2, 1, 0, []),
  (58, .ifCond .ne 11, 3, 0, [[39]]),
  (61, .aload_n 0, 1, 0, []),
  (62, .iload_n 3, 1, 0, []),
  (63, .invokevirtual 231, 3, 0, [[0, 1], [12, 170, 0, 1157, 1158, 51, 64]]),
  (66, .goto 21, 3, 0, [[49]]),
  (69, .iload_n 2, 1, 0, []),
  (70, .iconst 1, 1, 1, []),
  (71, .if_icmp .ne 11, 3, 0, [[46]]),
  (74, .aload_n 0, 1, 0, []),
  (75, .iload_n 3, 1, 0, []),
  (76, .invokevirtual 243, 3, 0, [[0, 1], [12, 173, 0, 1169, 1170, 54, 64]]),
  (79, .goto 8, 3, 0, [[49]]),
  (82, .aload_n 0, 1, 0, []),
  (83, .iload_n 3, 1, 0, []),
  (84, .invokevirtual 249, 3, 0, [[0, 1], [12, 175, 0, 1178, 1179, 57, 64]]),
  (87, .ireturn, 1, 0, [[0]])]
/-- 177: SoldWeatherModel.trace(I)I -/
def m_X12_trace : List aI := [
  (0, .iload_n 1, 1, 0, []),
  (1, .iconst 0, 1, 0, []),
  (2, .aload_n 0, 1, 0, []),
  (3, .getfield 212, 3, 0, [[21, 0], [12], [909, 0]]),
  (6, .bipush 20, 2, 20, []),
  (8, .if_icmp .ge 10, 3, 0, [[9]]),
  (11, .aload_n 0, 1, 0, []),
  (12, .getfield 212, 3, 0, [[21, 0], [12], [909, 0]]),
  (15, .goto 5, 3, 0, [[10]]),
  (18, .bipush 20, 2, 20, []),
  (20, .iconst 1, 1, 1, []),
  (21, .isub, 1, 0, []),
  (22, .invokestatic 45, 3, 0, [[0, 112, 3], [969, 970, 64]]),
  (25, .ifCond .eq 12, 3, 0, [[19]]),
  (28, .aload_n 0, 1, 0, []),
  (29, .getfield 38, 3, 0, [[20, 0], [12], [908, 0]]),
  (32, .iload_n 1, 1, 0, []),
  (33, .iaload, 1, 0, []),
  (34, .goto 4, 3, 0, [[20]]),
  (37, .iconst (-1), 1, (-1), []),
  (38, .ireturn, 1, 0, [[0]])]
/-- 178: SoldWeatherModel.as(II)I -/
def m_X12_as : List aI := [
  (0, .aload_n 0, 1, 0, []),
  (1, .iload_n 1, 1, 0, []),
  (2, .invokevirtual 145, 3, 0, [[0, 1], [12, 114, 0, 1042, 1043, 33, 64]]),
  (5, .ifCond .eq 13, 3, 0, [[9]]),
  (8, .iload_n 2, 1, 0, []),
  (9, .iconst 0, 1, 0, []),
  (10, .bipush 6, 2, 6, []),
  (12, .invokestatic 45, 3, 0, [[0, 112, 3], [969, 970, 64]]),
  (15, .ifCond .ne 5, 3, 0, [[11]]),
  (18, .iconst (-1), 1, (-1), []),
  (19, .ireturn, 1, 0, [[0]]),
  (20, .aload_n 0, 1, 0, []),
  (21, .getfield 7, 3, 0, [[1, 0], [12], [889, 0]]),
  (24, .sipush 140, 3, 140, []),
  (27, .iload_n 1, 1, 0, []),
  (28, .iadd, 1, 0, []),
  (29, .iaload, 1, 0, []),
  (30, .iload_n 2, 1, 0, []),
  (31, .invokestatic 224, 3, 0, [[0, 168, 2], [1160, 1161, 64]]),
  (34, .ifCond .eq 16, 3, 0, [[27]]),
  (37, .aload_n 0, 1, 0, []),
  (38, .getfield 7, 3, 0, [[1, 0], [12], [889, 0]]),
  (41, .sipush 148, 3, 148, []),
  (44, .iload_n 1, 1, 0, []),
  (45, .iadd, 1, 0, []),
  (46, .iaload, 1, 0, []),
  (47, .goto 5, 3, 0, [[28]]),
  (50, .bipush (-6), 2, (-6), []),
  (52, .ireturn, 1, 0, [[0]])]
/-- 179: SoldWeatherModel.image()I -/
def m_X12_image : List aI := [
  (0, .iconst 0, 1, 0, []),
  (1, .istore_n 1, 1, 0, []),
  (2, .iload_n 1, 1, 0, []),
  (3, .sipush 947, 3, 947, []),
  (6, .if_icmp .ge 21, 3, 0, [[15]]),
  (9, .aload_n 0, 1, 0, []),
  (10, .getfield 13, 3, 0, [[2, 0], [12], [890, 0]]),
  (13, .iload_n 1, 1, 0, []),
  (14, .aload_n 0, 1, 0, []),
  (15, .getfield 7, 3, 0, [[1, 0], [12], [889, 0]]),
  (18, .iload_n 1, 1, 0, []),
  (19, .iaload, 1, 0, []),
  (20, .iastore, 1, 0, []),
  (21, .iinc 1 1, 3, 1, []),
  (24, .goto (-22), 3, 0, [[2]]),
  (27, .aload_n 0, 1, 0, []),
  (28, .iconst 1, 1, 1, []),
  (29, .putfield 252, 3, 0, [[4, 1], [12], [892, 0]]),
  (32, .aload_n 0, 1, 0, []),
  (33, .getfield 7, 3, 0, [[1, 0], [12], [889, 0]]),
  (36, .bipush 11, 2, 11, []),
  (38, .iaload, 1, 0, []),
  (39, .ireturn, 1, 0, [[0]])]
/-- 180: SoldWeatherModel.undo()I -/
def m_X12_undo : List aI := [
  (0, .aload_n 0, 1, 0, []),
  (1, .getfield 252, 3, 0, [[4, 0], [12], [892, 0]]),
  (4, .ifCond .ne 6, 3, 0, [[5]]),
  (7, .bipush (-3), 2, (-3), []),
  (9, .ireturn, 1, 0, [[0]]),
  (10, .iconst 0, 1, 0, []),
  (11, .istore_n 1, 1, 0, []),
  (12, .iload_n 1, 1, 0, []),
  (13, .sipush 947, 3, 947, []),
  (16, .if_icmp .ge 21, 3, 0, [[20]]),
  (19, .aload_n 0, 1, 0, []),
  (20, .getfield 7, 3, 0, [[1, 0], [12], [889, 0]]),
  (23, .iload_n 1, 1, 0, []),
  (24, .aload_n 0, 1, 0, []),
  (25, .getfield 13, 3, 0, [[2, 0], [12], [890, 0]]),
  (28, .iload_n 1, 1, 0, []),
  (29, .iaload, 1, 0, []),
  (30, .iastore, 1, 0, []),
  (31, .iinc 1 1, 3, 1, []),
  (34, .goto (-22), 3, 0, [[7]]),
  (37, .aload_n 0, 1, 0, []),
  (38, .getfield 7, 3, 0, [[1, 0], [12], [889, 0]]),
  (41, .bipush 11, 2, 11, []),
  (43, .iaload, 1, 0, []),
  (44, .ireturn, 1, 0, [[0]])]
/-- 181: SoldWeatherModel.count(I)I -/
def m_X12_count : List aI := [
  (0, .iload_n 1, 1, 0, []),
  (1, .tableswitch 96 0 6 #[43, 51, 59, 67, 75, 83, 91], 43, 0, [[35], [2, 7, 12, 17, 22, 27, 32]]),
  (44, .aload_n 0, 1, 0, []),
  (45, .getfield 7, 3, 0, [[1, 0], [12], [889, 0]]),
  (48, .bipush 11, 2, 11, []),
  (50, .iaload, 1, 0, []),
  (51, .ireturn, 1, 0, [[0]]),
  (52, .aload_n 0, 1, 0, []),
  (53, .getfield 7, 3, 0, [[1, 0], [12], [889, 0]]),
  (56, .bipush 12, 2, 12, []),
  (58, .iaload, 1, 0, []),
  (59, .ireturn, 1, 0, [[0]]),
  (60, .aload_n 0, 1, 0, []),
  (61, .getfield 7, 3, 0, [[1, 0], [12], [889, 0]]),
  (64, .bipush 13, 2, 13, []),
  (66, .iaload, 1, 0, []),
  (67, .ireturn, 1, 0, [[0]]),
  (68, .aload_n 0, 1, 0, []),
  (69, .getfield 7, 3, 0, [[1, 0], [12], [889, 0]]),
  (72, .bipush 14, 2, 14, []),
  (74, .iaload, 1, 0, []),
  (75, .ireturn, 1, 0, [[0]]),
  (76, .aload_n 0, 1, 0, []),
  (77, .getfield 7, 3, 0, [[1, 0], [12], [889, 0]]),
  (80, .bipush 15, 2, 15, []),
  (82, .iaload, 1, 0, []),
  (83, .ireturn, 1, 0, [[0]]),
  (84, .aload_n 0, 1, 0, []),
  (85, .getfield 7, 3, 0, [[1, 0], [12], [889, 0]]),
  (88, .bipush 16, 2, 16, []),
  (90, .iaload, 1, 0, []),
  (91, .ireturn, 1, 0, [[0]]),
  (92, .aload_n 0, 1, 0, []),
  (93, .getfield 212, 3, 0, [[21, 0], [12], [909, 0]]),
  (96, .ireturn, 1, 0, [[0]]),
  (97, .iconst (-1), 1, (-1), []),
  (98, .ireturn, 1, 0, [[0]])]
/-- 182: java/lang/String.length()I -/
def m_J0_length_8abf5 : List aI := [
  (0, .aload_n 0, 1, 0, []),
  (1, .getfield 9, 3, 0, [[0, 9], [1207]]),
  (4, .arraylength, 1, 0, []),
  (5, .aload_n 0, 1, 0, []),
  (6, .invokevirtual 335, 3, 0, [[5, 184, 0], [313, 314, 315, 66]]),
  (9, .ishr, 1, 0, []),
  (10, .ireturn, 1, 0, [[0]])]
/-- 183: java/lang/String.charAt(I)C -/
def m_J0_charAt_5068e : List aI := [
  (0, .aload_n 0, 1, 0, []),
  (1, .invokevirtual 492, 3, 0, [[5, 185, 0], [322, 323, 324, 66]]),
  (4, .ifCond .eq 12, 3, 0, [[8]]),
  (7, .aload_n 0, 1, 0, []),
  (8, .getfield 9, 3, 0, [[0, 9], [1207]]),
  (11, .iload_n 1, 1, 0, []),
  (12, .invokestatic 495, 3, 0, [[0, 187, 2], [326, 327, 67]]),
  (15, .ireturn, 1, 0, [[3]]),
  (16, .aload_n 0, 1, 0, []),
  (17, .getfield 9, 3, 0, [[0, 9], [1207]]),
  (20, .iload_n 1, 1, 0, []),
  (21, .invokestatic 498, 3, 0, []),
  (24, .ireturn, 1, 0, [[3]])]
/-- 184: java/lang/String.coder()B -/
def m_J0_coder_7d493 : List aI := [
  (0, .getstatic 38, 3, 0, [[0], [317]]),
  (3, .ifCond .eq 10, 3, 0, [[5]]),
  (6, .aload_n 0, 1, 0, []),
  (7, .getfield 15, 3, 0, [[1, 9], [1208]]),
  (10, .goto 4, 3, 0, [[6]]),
  (13, .iconst 1, 1, 1, []),
  (14, .ireturn, 1, 0, [[2]])]
/-- 185: java/lang/String.isLatin1()Z -/
def m_J0_isLatin1_aae02 : List aI := [
  (0, .getstatic 38, 3, 0, [[0], [317]]),
  (3, .ifCond .eq 14, 3, 0, [[7]]),
  (6, .aload_n 0, 1, 0, []),
  (7, .getfield 15, 3, 0, [[1, 9], [1208]]),
  (10, .ifCond .ne 7, 3, 0, [[7]]),
  (13, .iconst 1, 1, 1, []),
  (14, .goto 4, 3, 0, [[8]]),
  (17, .iconst 0, 1, 0, []),
  (18, .ireturn, 1, 0, [[1]])]
/-- 186: java/lang/String.checkIndex(II)V -/
def m_J0_checkIndex_df160 : List aI := [
  (0, .iload_n 0, 1, 0, []),
  (1, .iload_n 1, 1, 0, []),
  (2, .getstatic 1053, 3, 0, [[1], [332]]),
  (5, .invokestatic 1059, 3, 0, [[0, 188, 3], [333, 334, 68]]),
  (8, .pop, 1, 0, []),
  (9, .return_, 1, 0, [])]
/-- 187: java/lang/StringLatin1.charAt([BI)C -/
def m_J1_charAt_3b067 : List aI := [
  (0, .iload_n 1, 1, 0, []),
  (1, .aload_n 0, 1, 0, []),
  (2, .arraylength, 1, 0, []),
  (3, .invokestatic 9, 3, 0, [[0, 186, 2], [329, 330, 66]]),
  (6, .aload_n 0, 1, 0, []),
  (7, .iload_n 1, 1, 0, []),
  (8, .baload, 1, 0, []),
  (9, .sipush 255, 3, 255, []),
  (12, .iand, 1, 0, []),
  (13, .i2c, 1, 0, []),
  (14, .ireturn, 1, 0, [[3]])]
/-- 188: jdk/internal/util/Preconditions.checkIndex(IILjava/util/function/BiFunction;)I -/
def m_J3_checkIndex_8e157 : List aI := [
  (0, .iload_n 0, 1, 0, []),
  (1, .ifCond .lt 8, 3, 0, [[5]]),
  (4, .iload_n 0, 1, 0, []),
  (5, .iload_n 1, 1, 0, []),
  (6, .if_icmp .lt 10, 3, 0, [[10]]),
  (9, .aload_n 2, 1, 0, []),
  (10, .iload_n 0, 1, 0, []),
  (11, .iload_n 1, 1, 0, []),
  (12, .invokestatic 95, 3, 0, []),
  (15, .athrow, 1, 0, []),
  (16, .iload_n 0, 1, 0, []),
  (17, .ireturn, 1, 0, [[0]])]
/-- 189: SoldWeatherLaw.law([I)Z -/
def m_L_law : List aI := [
  (0, .new 7, 3, 0, [[11], [79, 80, 60]]),
  (3, .dup, 1, 0, []),
  (4, .invokespecial 9, 3, 0, [[0, 75, 0], [81, 82, 60]]),
  (7, .astore_n 1, 1, 0, []),
  (8, .new 10, 3, 0, [[12], [883, 884, 64]]),
  (11, .dup, 1, 0, []),
  (12, .invokespecial 12, 3, 0, [[0, 111, 0], [885, 886, 64]]),
  (15, .astore_n 2, 1, 0, []),
  (16, .iconst 0, 1, 0, []),
  (17, .istore_n 3, 1, 0, []),
  (18, .iload_n 3, 1, 0, []),
  (19, .aload_n 0, 1, 0, []),
  (20, .arraylength, 1, 0, []),
  (21, .iconst 4, 1, 4, []),
  (22, .isub, 1, 0, []),
  (23, .if_icmp .gt 814, 3, 0, [[547]]),
  (26, .aload_n 0, 1, 0, []),
  (27, .iload_n 3, 1, 0, []),
  (28, .iaload, 1, 0, []),
  (29, .bipush 31, 2, 31, []),
  (31, .iand, 1, 0, []),
  (32, .tableswitch 799 0 25 #[120, 143, 156, 179, 202, 245, 288, 321, 334, 357, 390, 423, 456, 479, 502, 525, 558, 591, 615, 638, 651, 694, 717, 750, 763, 776], 120, 0, [[545], [22, 39, 46, 63, 80, 117, 154, 181, 188, 205, 232, 259, 286, 303, 320, 337, 364, 391, 409, 426, 433, 470, 487, 514, 521, 528]]),
  (152, .aload_n 1, 1, 0, []),
  (153, .aload_n 0, 1, 0, []),
  (154, .iload_n 3, 1, 0, []),
  (155, .iconst 1, 1, 1, []),
  (156, .iadd, 1, 0, []),
  (157, .iaload, 1, 0, []),
  (158, .invokevirtual 13, 3, 0, [[0, 1], [11, 76, 0, 282, 283, 284, 60]]),
  (161, .aload_n 2, 1, 0, []),
  (162, .aload_n 0, 1, 0, []),
  (163, .iload_n 3, 1, 0, []),
  (164, .iconst 1, 1, 1, []),
  (165, .iadd, 1, 0, []),
  (166, .iaload, 1, 0, []),
  (167, .invokevirtual 17, 3, 0, [[0, 1], [12, 117, 0, 965, 966, 967, 64]]),
  (170, .if_icmp .eq 661, 3, 0, [[545]]),
  (173, .iconst 0, 1, 0, []),
  (174, .ireturn, 1, 0, [[1]]),
  (175, .aload_n 1, 1, 0, []),
  (176, .invokevirtual 18, 3, 0, [[0, 0], [11, 77, 0, 286, 287, 288, 60]]),
  (179, .aload_n 2, 1, 0, []),
  (180, .invokevirtual 22, 3, 0, [[0, 0], [12, 131, 0, 972, 973, 974, 64]]),
  (183, .if_icmp .eq 648, 3, 0, [[545]]),
  (186, .iconst 0, 1, 0, []),
  (187, .ireturn, 1, 0, [[1]]),
  (188, .aload_n 1, 1, 0, []),
  (189, .aload_n 0, 1, 0, []),
  (190, .iload_n 3, 1, 0, []),
  (191, .iconst 1, 1, 1, []),
  (192, .iadd, 1, 0, []),
  (193, .iaload, 1, 0, []),
  (194, .invokevirtual 23, 3, 0, [[0, 1], [11, 78, 0, 411, 412, 413, 60]]),
  (197, .aload_n 2, 1, 0, []),
  (198, .aload_n 0, 1, 0, []),
  (199, .iload_n 3, 1, 0, []),
  (200, .iconst 1, 1, 1, []),
  (201, .iadd, 1, 0, []),
  (202, .iaload, 1, 0, []),
  (203, .invokevirtual 26, 3, 0, [[0, 1], [12, 137, 0, 1017, 1018, 1019, 64]]),
  (206, .if_icmp .eq 625, 3, 0, [[545]]),
  (209, .iconst 0, 1, 0, []),
  (210, .ireturn, 1, 0, [[1]]),
  (211, .aload_n 1, 1, 0, []),
  (212, .aload_n 0, 1, 0, []),
  (213, .iload_n 3, 1, 0, []),
  (214, .iconst 1, 1, 1, []),
  (215, .iadd, 1, 0, []),
  (216, .iaload, 1, 0, []),
  (217, .invokevirtual 27, 3, 0, [[0, 1], [11, 79, 0, 427, 428, 429, 60]]),
  (220, .aload_n 2, 1, 0, []),
  (221, .aload_n 0, 1, 0, []),
  (222, .iload_n 3, 1, 0, []),
  (223, .iconst 1, 1, 1, []),
  (224, .iadd, 1, 0, []),
  (225, .iaload, 1, 0, []),
  (226, .invokevirtual 30, 3, 0, [[0, 1], [12, 138, 0, 1027, 1028, 1029, 64]]),
  (229, .if_icmp .eq 602, 3, 0, [[545]]),
  (232, .iconst 0, 1, 0, []),
  (233, .ireturn, 1, 0, [[1]]),
  (234, .aload_n 1, 1, 0, []),
  (235, .aload_n 0, 1, 0, []),
  (236, .iload_n 3, 1, 0, []),
  (237, .iconst 1, 1, 1, []),
  (238, .iadd, 1, 0, []),
  (239, .iaload, 1, 0, []),
  (240, .aload_n 0, 1, 0, []),
  (241, .iload_n 3, 1, 0, []),
  (242, .iconst 2, 1, 2, []),
  (243, .iadd, 1, 0, []),
  (244, .iaload, 1, 0, []),
  (245, .aload_n 0, 1, 0, []),
  (246, .iload_n 3, 1, 0, []),
  (247, .iconst 3, 1, 3, []),
  (248, .iadd, 1, 0, []),
  (249, .iaload, 1, 0, []),
  (250, .invokevirtual 31, 3, 0, [[0, 3], [11, 80, 0, 437, 438, 439, 60]]),
  (253, .aload_n 2, 1, 0, []),
  (254, .aload_n 0, 1, 0, []),
  (255, .iload_n 3, 1, 0, []),
  (256, .iconst 1, 1, 1, []),
  (257, .iadd, 1, 0, []),
  (258, .iaload, 1, 0, []),
  (259, .aload_n 0, 1, 0, []),
  (260, .iload_n 3, 1, 0, []),
  (261, .iconst 2, 1, 2, []),
  (262, .iadd, 1, 0, []),
  (263, .iaload, 1, 0, []),
  (264, .aload_n 0, 1, 0, []),
  (265, .iload_n 3, 1, 0, []),
  (266, .iconst 3, 1, 3, []),
  (267, .iadd, 1, 0, []),
  (268, .iaload, 1, 0, []),
  (269, .invokevirtual 35, 3, 0, [[0, 3], [12, 139, 0, 1034, 1035, 1036, 64]]),
  (272, .if_icmp .eq 559, 3, 0, [[545]]),
  (275, .iconst 0, 1, 0, []),
  (276, .ireturn, 1, 0, [[1]]),
  (277, .aload_n 1, 1, 0, []),
  (278, .aload_n 0, 1, 0, []),
  (279, .iload_n 3, 1, 0, []),
  (280, .iconst 1, 1, 1, []),
  (281, .iadd, 1, 0, []),
  (282, .iaload, 1, 0, []),
  (283, .aload_n 0, 1, 0, []),
  (284, .iload_n 3, 1, 0, []),
  (285, .iconst 2, 1, 2, []),
  (286, .iadd, 1, 0, []),
  (287, .iaload, 1, 0, []),
  (288, .aload_n 0, 1, 0, []),
  (289, .iload_n 3, 1, 0, []),
  (290, .iconst 3, 1, 3, []),
  (291, .iadd, 1, 0, []),
  (292, .iaload, 1, 0, []),
  (293, .invokevirtual 36, 3, 0, [[0, 3], [11, 81, 0, 545, 546, 547, 60]]),
  (296, .aload_n 2, 1, 0, []),
  (297, .aload_n 0, 1, 0, []),
  (298, .iload_n 3, 1, 0, []),
  (299, .iconst 1, 1, 1, []),
  (300, .iadd, 1, 0, []),
  (301, .iaload, 1, 0, []),
  (302, .aload_n 0, 1, 0, []),
  (303, .iload_n 3, 1, 0, []),
  (304, .iconst 2, 1, 2, []),
  (305, .iadd, 1, 0, []),
  (306, .iaload, 1, 0, []),
  (307, .aload_n 0, 1, 0, []),
  (308, .iload_n 3, 1, 0, []),
  (309, .iconst 3, 1, 3, []),
  (310, .iadd, 1, 0, []),
  (311, .iaload, 1, 0, []),
  (312, .invokevirtual 39, 3, 0, [[0, 3], [12, 140, 0, 1038, 1039, 1040, 64]]),
  (315, .if_icmp .eq 516, 3, 0, [[545]]),
  (318, .iconst 0, 1, 0, []),
  (319, .ireturn, 1, 0, [[1]]),
  (320, .aload_n 1, 1, 0, []),
  (321, .aload_n 0, 1, 0, []),
  (322, .iload_n 3, 1, 0, []),
  (323, .iconst 1, 1, 1, []),
  (324, .iadd, 1, 0, []),
  (325, .iaload, 1, 0, []),
  (326, .aload_n 0, 1, 0, []),
  (327, .iload_n 3, 1, 0, []),
  (328, .iconst 2, 1, 2, []),
  (329, .iadd, 1, 0, []),
  (330, .iaload, 1, 0, []),
  (331, .invokevirtual 40, 3, 0, [[0, 2], [11, 82, 0, 557, 558, 559, 60]]),
  (334, .aload_n 2, 1, 0, []),
  (335, .aload_n 0, 1, 0, []),
  (336, .iload_n 3, 1, 0, []),
  (337, .iconst 1, 1, 1, []),
  (338, .iadd, 1, 0, []),
  (339, .iaload, 1, 0, []),
  (340, .aload_n 0, 1, 0, []),
  (341, .iload_n 3, 1, 0, []),
  (342, .iconst 2, 1, 2, []),
  (343, .iadd, 1, 0, []),
  (344, .iaload, 1, 0, []),
  (345, .invokevirtual 44, 3, 0, [[0, 2], [12, 146, 0, 1045, 1046, 1047, 64]]),
  (348, .if_icmp .eq 483, 3, 0, [[545]]),
  (351, .iconst 0, 1, 0, []),
  (352, .ireturn, 1, 0, [[1]]),
  (353, .aload_n 1, 1, 0, []),
  (354, .invokevirtual 45, 3, 0, [[0, 0], [11, 83, 0, 640, 641, 642, 60]]),
  (357, .aload_n 2, 1, 0, []),
  (358, .invokevirtual 48, 3, 0, [[0, 0], [12, 153, 0, 1070, 1071, 1072, 64]]),
  (361, .if_icmp .eq 470, 3, 0, [[545]]),
  (364, .iconst 0, 1, 0, []),
  (365, .ireturn, 1, 0, [[1]]),
  (366, .aload_n 1, 1, 0, []),
  (367, .aload_n 0, 1, 0, []),
  (368, .iload_n 3, 1, 0, []),
  (369, .iconst 1, 1, 1, []),
  (370, .iadd, 1, 0, []),
  (371, .iaload, 1, 0, []),
  (372, .invokevirtual 49, 3, 0, [[0, 1], [11, 84, 0, 683, 684, 685, 60]]),
  (375, .aload_n 2, 1, 0, []),
  (376, .aload_n 0, 1, 0, []),
  (377, .iload_n 3, 1, 0, []),
  (378, .iconst 1, 1, 1, []),
  (379, .iadd, 1, 0, []),
  (380, .iaload, 1, 0, []),
  (381, .invokevirtual 52, 3, 0, [[0, 1], [12, 154, 0, 1092, 1093, 1094, 64]]),
  (384, .if_icmp .eq 447, 3, 0, [[545]]),
  (387, .iconst 0, 1, 0, []),
  (388, .ireturn, 1, 0, [[1]]),
  (389, .aload_n 1, 1, 0, []),
  (390, .aload_n 0, 1, 0, []),
  (391, .iload_n 3, 1, 0, []),
  (392, .iconst 1, 1, 1, []),
  (393, .iadd, 1, 0, []),
  (394, .iaload, 1, 0, []),
  (395, .aload_n 0, 1, 0, []),
  (396, .iload_n 3, 1, 0, []),
  (397, .iconst 2, 1, 2, []),
  (398, .iadd, 1, 0, []),
  (399, .iaload, 1, 0, []),
  (400, .invokevirtual 53, 3, 0, [[0, 2], [11, 85, 0, 693, 694, 695, 60]]),
  (403, .aload_n 2, 1, 0, []),
  (404, .aload_n 0, 1, 0, []),
  (405, .iload_n 3, 1, 0, []),
  (406, .iconst 1, 1, 1, []),
  (407, .iadd, 1, 0, []),
  (408, .iaload, 1, 0, []),
  (409, .aload_n 0, 1, 0, []),
  (410, .iload_n 3, 1, 0, []),
  (411, .iconst 2, 1, 2, []),
  (412, .iadd, 1, 0, []),
  (413, .iaload, 1, 0, []),
  (414, .invokevirtual 56, 3, 0, [[0, 2], [12, 155, 0, 1096, 1097, 1098, 64]]),
  (417, .if_icmp .eq 414, 3, 0, [[545]]),
  (420, .iconst 0, 1, 0, []),
  (421, .ireturn, 1, 0, [[1]]),
  (422, .aload_n 1, 1, 0, []),
  (423, .aload_n 0, 1, 0, []),
  (424, .iload_n 3, 1, 0, []),
  (425, .iconst 1, 1, 1, []),
  (426, .iadd, 1, 0, []),
  (427, .iaload, 1, 0, []),
  (428, .aload_n 0, 1, 0, []),
  (429, .iload_n 3, 1, 0, []),
  (430, .iconst 2, 1, 2, []),
  (431, .iadd, 1, 0, []),
  (432, .iaload, 1, 0, []),
  (433, .invokevirtual 57, 3, 0, [[0, 2], [11, 86, 0, 706, 707, 708, 60]]),
  (436, .aload_n 2, 1, 0, []),
  (437, .aload_n 0, 1, 0, []),
  (438, .iload_n 3, 1, 0, []),
  (439, .iconst 1, 1, 1, []),
  (440, .iadd, 1, 0, []),
  (441, .iaload, 1, 0, []),
  (442, .aload_n 0, 1, 0, []),
  (443, .iload_n 3, 1, 0, []),
  (444, .iconst 2, 1, 2, []),
  (445, .iadd, 1, 0, []),
  (446, .iaload, 1, 0, []),
  (447, .invokevirtual 60, 3, 0, [[0, 2], [12, 157, 0, 1106, 1107, 1108, 64]]),
  (450, .if_icmp .eq 381, 3, 0, [[545]]),
  (453, .iconst 0, 1, 0, []),
  (454, .ireturn, 1, 0, [[1]]),
  (455, .aload_n 1, 1, 0, []),
  (456, .aload_n 0, 1, 0, []),
  (457, .iload_n 3, 1, 0, []),
  (458, .iconst 1, 1, 1, []),
  (459, .iadd, 1, 0, []),
  (460, .iaload, 1, 0, []),
  (461, .aload_n 0, 1, 0, []),
  (462, .iload_n 3, 1, 0, []),
  (463, .iconst 2, 1, 2, []),
  (464, .iadd, 1, 0, []),
  (465, .iaload, 1, 0, []),
  (466, .invokevirtual 61, 3, 0, [[0, 2], [11, 87, 0, 714, 715, 716, 60]]),
  (469, .aload_n 2, 1, 0, []),
  (470, .aload_n 0, 1, 0, []),
  (471, .iload_n 3, 1, 0, []),
  (472, .iconst 1, 1, 1, []),
  (473, .iadd, 1, 0, []),
  (474, .iaload, 1, 0, []),
  (475, .aload_n 0, 1, 0, []),
  (476, .iload_n 3, 1, 0, []),
  (477, .iconst 2, 1, 2, []),
  (478, .iadd, 1, 0, []),
  (479, .iaload, 1, 0, []),
  (480, .invokevirtual 64, 3, 0, [[0, 2], [12, 158, 0, 1113, 1114, 1115, 64]]),
  (483, .if_icmp .eq 348, 3, 0, [[545]]),
  (486, .iconst 0, 1, 0, []),
  (487, .ireturn, 1, 0, [[1]]),
  (488, .aload_n 1, 1, 0, []),
  (489, .aload_n 0, 1, 0, []),
  (490, .iload_n 3, 1, 0, []),
  (491, .iconst 1, 1, 1, []),
  (492, .iadd, 1, 0, []),
  (493, .iaload, 1, 0, []),
  (494, .invokevirtual 65, 3, 0, [[0, 1], [11, 88, 0, 729, 730, 731, 60]]),
  (497, .aload_n 2, 1, 0, []),
  (498, .aload_n 0, 1, 0, []),
  (499, .iload_n 3, 1, 0, []),
  (500, .iconst 1, 1, 1, []),
  (501, .iadd, 1, 0, []),
  (502, .iaload, 1, 0, []),
  (503, .invokevirtual 68, 3, 0, [[0, 1], [12, 159, 0, 1120, 1121, 1122, 64]]),
  (506, .if_icmp .eq 325, 3, 0, [[545]]),
  (509, .iconst 0, 1, 0, []),
  (510, .ireturn, 1, 0, [[1]]),
  (511, .aload_n 1, 1, 0, []),
  (512, .aload_n 0, 1, 0, []),
  (513, .iload_n 3, 1, 0, []),
  (514, .iconst 1, 1, 1, []),
  (515, .iadd, 1, 0, []),
  (516, .iaload, 1, 0, []),
  (517, .invokevirtual 69, 3, 0, [[0, 1], [11, 89, 0, 734, 735, 736, 60]]),
  (520, .aload_n 2, 1, 0, []),
  (521, .aload_n 0, 1, 0, []),
  (522, .iload_n 3, 1, 0, []),
  (523, .iconst 1, 1, 1, []),
  (524, .iadd, 1, 0, []),
  (525, .iaload, 1, 0, []),
  (526, .invokevirtual 72, 3, 0, [[0, 1], [12, 160, 0, 1124, 1125, 1126, 64]]),
  (529, .if_icmp .eq 302, 3, 0, [[545]]),
  (532, .iconst 0, 1, 0, []),
  (533, .ireturn, 1, 0, [[1]]),
  (534, .aload_n 1, 1, 0, []),
  (535, .aload_n 0, 1, 0, []),
  (536, .iload_n 3, 1, 0, []),
  (537, .iconst 1, 1, 1, []),
  (538, .iadd, 1, 0, []),
  (539, .iaload, 1, 0, []),
  (540, .invokevirtual 73, 3, 0, [[0, 1], [11, 90, 0, 742, 743, 744, 60]]),
  (543, .aload_n 2, 1, 0, []),
  (544, .aload_n 0, 1, 0, []),
  (545, .iload_n 3, 1, 0, []),
  (546, .iconst 1, 1, 1, []),
  (547, .iadd, 1, 0, []),
  (548, .iaload, 1, 0, []),
  (549, .invokevirtual 76, 3, 0, [[0, 1], [12, 161, 0, 1128, 1129, 1130, 64]]),
  (552, .if_icmp .eq 279, 3, 0, [[545]]),
  (555, .iconst 0, 1, 0, []),
  (556, .ireturn, 1, 0, [[1]]),
  (557, .aload_n 1, 1, 0, []),
  (558, .aload_n 0, 1, 0, []),
  (559, .iload_n 3, 1, 0, []),
  (560, .iconst 1, 1, 1, []),
  (561, .iadd, 1, 0, []),
  (562, .iaload, 1, 0, []),
  (563, .aload_n 0, 1, 0, []),
  (564, .iload_n 3, 1, 0, []),
  (565, .iconst 2, 1, 2, []),
  (566, .iadd, 1, 0, []),
  (567, .iaload, 1, 0, []),
  (568, .invokevirtual 77, 3, 0, [[0, 2], [11, 91, 0, 746, 747, 748, 60]]),
  (571, .aload_n 2, 1, 0, []),
  (572, .aload_n 0, 1, 0, []),
  (573, .iload_n 3, 1, 0, []),
  (574, .iconst 1, 1, 1, []),
  (575, .iadd, 1, 0, []),
  (576, .iaload, 1, 0, []),
  (577, .aload_n 0, 1, 0, []),
  (578, .iload_n 3, 1, 0, []),
  (579, .iconst 2, 1, 2, []),
  (580, .iadd, 1, 0, []),
  (581, .iaload, 1, 0, []),
  (582, .invokevirtual 80, 3, 0, [[0, 2], [12, 162, 0, 1132, 1133, 1134, 64]]),
  (585, .if_icmp .eq 246, 3, 0, [[545]]),
  (588, .iconst 0, 1, 0, []),
  (589, .ireturn, 1, 0, [[1]]),
  (590, .aload_n 1, 1, 0, []),
  (591, .aload_n 0, 1, 0, []),
  (592, .iload_n 3, 1, 0, []),
  (593, .iconst 1, 1, 1, []),
  (594, .iadd, 1, 0, []),
  (595, .iaload, 1, 0, []),
  (596, .aload_n 0, 1, 0, []),
  (597, .iload_n 3, 1, 0, []),
  (598, .iconst 2, 1, 2, []),
  (599, .iadd, 1, 0, []),
  (600, .iaload, 1, 0, []),
  (601, .invokevirtual 81, 3, 0, [[0, 2], [11, 92, 0, 753, 754, 755, 60]]),
  (604, .aload_n 2, 1, 0, []),
  (605, .aload_n 0, 1, 0, []),
  (606, .iload_n 3, 1, 0, []),
  (607, .iconst 1, 1, 1, []),
  (608, .iadd, 1, 0, []),
  (609, .iaload, 1, 0, []),
  (610, .aload_n 0, 1, 0, []),
  (611, .iload_n 3, 1, 0, []),
  (612, .iconst 2, 1, 2, []),
  (613, .iadd, 1, 0, []),
  (614, .iaload, 1, 0, []),
  (615, .invokevirtual 84, 3, 0, [[0, 2], [12, 163, 0, 1136, 1137, 1138, 64]]),
  (618, .if_icmp .eq 213, 3, 0, [[545]]),
  (621, .iconst 0, 1, 0, []),
  (622, .ireturn, 1, 0, [[1]]),
  (623, .aload_n 1, 1, 0, []),
  (624, .aload_n 0, 1, 0, []),
  (625, .iload_n 3, 1, 0, []),
  (626, .iconst 1, 1, 1, []),
  (627, .iadd, 1, 0, []),
  (628, .iaload, 1, 0, []),
  (629, .invokevirtual 85, 3, 0, [[0, 1], [11, 93, 0, 764, 765, 766, 60]]),
  (632, .aload_n 2, 1, 0, []),
  (633, .aload_n 0, 1, 0, []),
  (634, .iload_n 3, 1, 0, []),
  (635, .iconst 1, 1, 1, []),
  (636, .iadd, 1, 0, []),
  (637, .iaload, 1, 0, []),
  (638, .invokevirtual 89, 3, 0, [[0, 1], [12, 164, 0, 1140, 1141, 1142, 64]]),
  (641, .lcmp, 1, 0, []),
  (642, .ifCond .eq 189, 3, 0, [[545]]),
  (645, .iconst 0, 1, 0, []),
  (646, .ireturn, 1, 0, [[1]]),
  (647, .aload_n 1, 1, 0, []),
  (648, .aload_n 0, 1, 0, []),
  (649, .iload_n 3, 1, 0, []),
  (650, .iconst 1, 1, 1, []),
  (651, .iadd, 1, 0, []),
  (652, .iaload, 1, 0, []),
  (653, .invokevirtual 90, 3, 0, [[0, 1], [11, 94, 0, 770, 771, 772, 60]]),
  (656, .aload_n 2, 1, 0, []),
  (657, .aload_n 0, 1, 0, []),
  (658, .iload_n 3, 1, 0, []),
  (659, .iconst 1, 1, 1, []),
  (660, .iadd, 1, 0, []),
  (661, .iaload, 1, 0, []),
  (662, .invokevirtual 93, 3, 0, [[0, 1], [12, 165, 0, 1145, 1146, 1147, 64]]),
  (665, .if_icmp .eq 166, 3, 0, [[545]]),
  (668, .iconst 0, 1, 0, []),
  (669, .ireturn, 1, 0, [[1]]),
  (670, .aload_n 1, 1, 0, []),
  (671, .invokevirtual 94, 3, 0, [[0, 0], [11, 95, 0, 774, 775, 776, 60]]),
  (674, .aload_n 2, 1, 0, []),
  (675, .invokevirtual 97, 3, 0, [[0, 0], [12, 166, 0, 1149, 1150, 1151, 64]]),
  (678, .if_icmp .eq 153, 3, 0, [[545]]),
  (681, .iconst 0, 1, 0, []),
  (682, .ireturn, 1, 0, [[1]]),
  (683, .aload_n 1, 1, 0, []),
  (684, .aload_n 0, 1, 0, []),
  (685, .iload_n 3, 1, 0, []),
  (686, .iconst 1, 1, 1, []),
  (687, .iadd, 1, 0, []),
  (688, .iaload, 1, 0, []),
  (689, .aload_n 0, 1, 0, []),
  (690, .iload_n 3, 1, 0, []),
  (691, .iconst 2, 1, 2, []),
  (692, .iadd, 1, 0, []),
  (693, .iaload, 1, 0, []),
  (694, .aload_n 0, 1, 0, []),
  (695, .iload_n 3, 1, 0, []),
  (696, .iconst 3, 1, 3, []),
  (697, .iadd, 1, 0, []),
  (698, .iaload, 1, 0, []),
  (699, .invokevirtual 98, 3, 0, [[0, 3], [11, 96, 0, 778, 779, 780, 60]]),
  (702, .aload_n 2, 1, 0, []),
  (703, .aload_n 0, 1, 0, []),
  (704, .iload_n 3, 1, 0, []),
  (705, .iconst 1, 1, 1, []),
  (706, .iadd, 1, 0, []),
  (707, .iaload, 1, 0, []),
  (708, .aload_n 0, 1, 0, []),
  (709, .iload_n 3, 1, 0, []),
  (710, .iconst 2, 1, 2, []),
  (711, .iadd, 1, 0, []),
  (712, .iaload, 1, 0, []),
  (713, .aload_n 0, 1, 0, []),
  (714, .iload_n 3, 1, 0, []),
  (715, .iconst 3, 1, 3, []),
  (716, .iadd, 1, 0, []),
  (717, .iaload, 1, 0, []),
  (718, .invokevirtual 101, 3, 0, [[0, 3], [12, 176, 0, 1153, 1154, 1155, 64]]),
  (721, .if_icmp .eq 110, 3, 0, [[545]]),
  (724, .iconst 0, 1, 0, []),
  (725, .ireturn, 1, 0, [[1]]),
  (726, .aload_n 1, 1, 0, []),
  (727, .aload_n 0, 1, 0, []),
  (728, .iload_n 3, 1, 0, []),
  (729, .iconst 1, 1, 1, []),
  (730, .iadd, 1, 0, []),
  (731, .iaload, 1, 0, []),
  (732, .invokevirtual 102, 3, 0, [[0, 1], [11, 97, 0, 855, 856, 857, 60]]),
  (735, .aload_n 2, 1, 0, []),
  (736, .aload_n 0, 1, 0, []),
  (737, .iload_n 3, 1, 0, []),
  (738, .iconst 1, 1, 1, []),
  (739, .iadd, 1, 0, []),
  (740, .iaload, 1, 0, []),
  (741, .invokevirtual 105, 3, 0, [[0, 1], [12, 177, 0, 1184, 1185, 1186, 64]]),
  (744, .if_icmp .eq 87, 3, 0, [[545]]),
  (747, .iconst 0, 1, 0, []),
  (748, .ireturn, 1, 0, [[1]]),
  (749, .aload_n 1, 1, 0, []),
  (750, .aload_n 0, 1, 0, []),
  (751, .iload_n 3, 1, 0, []),
  (752, .iconst 1, 1, 1, []),
  (753, .iadd, 1, 0, []),
  (754, .iaload, 1, 0, []),
  (755, .aload_n 0, 1, 0, []),
  (756, .iload_n 3, 1, 0, []),
  (757, .iconst 2, 1, 2, []),
  (758, .iadd, 1, 0, []),
  (759, .iaload, 1, 0, []),
  (760, .invokevirtual 106, 3, 0, [[0, 2], [11, 98, 0, 859, 860, 861, 60]]),
  (763, .aload_n 2, 1, 0, []),
  (764, .aload_n 0, 1, 0, []),
  (765, .iload_n 3, 1, 0, []),
  (766, .iconst 1, 1, 1, []),
  (767, .iadd, 1, 0, []),
  (768, .iaload, 1, 0, []),
  (769, .aload_n 0, 1, 0, []),
  (770, .iload_n 3, 1, 0, []),
  (771, .iconst 2, 1, 2, []),
  (772, .iadd, 1, 0, []),
  (773, .iaload, 1, 0, []),
  (774, .invokevirtual 109, 3, 0, [[0, 2], [12, 178, 0, 1188, 1189, 1190, 64]]),
  (777, .if_icmp .eq 54, 3, 0, [[545]]),
  (780, .iconst 0, 1, 0, []),
  (781, .ireturn, 1, 0, [[1]]),
  (782, .aload_n 1, 1, 0, []),
  (783, .invokevirtual 110, 3, 0, [[0, 0], [11, 99, 0, 866, 867, 868, 60]]),
  (786, .aload_n 2, 1, 0, []),
  (787, .invokevirtual 113, 3, 0, [[0, 0], [12, 179, 0, 1192, 1193, 1194, 64]]),
  (790, .if_icmp .eq 41, 3, 0, [[545]]),
  (793, .iconst 0, 1, 0, []),
  (794, .ireturn, 1, 0, [[1]]),
  (795, .aload_n 1, 1, 0, []),
  (796, .invokevirtual 114, 3, 0, [[0, 0], [11, 100, 0, 875, 876, 877, 60]]),
  (799, .aload_n 2, 1, 0, []),
  (800, .invokevirtual 117, 3, 0, [[0, 0], [12, 180, 0, 1196, 1197, 1198, 64]]),
  (803, .if_icmp .eq 28, 3, 0, [[545]]),
  (806, .iconst 0, 1, 0, []),
  (807, .ireturn, 1, 0, [[1]]),
  (808, .aload_n 1, 1, 0, []),
  (809, .aload_n 0, 1, 0, []),
  (810, .iload_n 3, 1, 0, []),
  (811, .iconst 1, 1, 1, []),
  (812, .iadd, 1, 0, []),
  (813, .iaload, 1, 0, []),
  (814, .invokevirtual 118, 3, 0, [[0, 1], [11, 101, 0, 879, 880, 881, 60]]),
  (817, .aload_n 2, 1, 0, []),
  (818, .aload_n 0, 1, 0, []),
  (819, .iload_n 3, 1, 0, []),
  (820, .iconst 1, 1, 1, []),
  (821, .iadd, 1, 0, []),
  (822, .iaload, 1, 0, []),
  (823, .invokevirtual 121, 3, 0, [[0, 1], [12, 181, 0, 1200, 1201, 1202, 64]]),
  (826, .if_icmp .eq 5, 3, 0, [[545]]),
  (829, .iconst 0, 1, 0, []),
  (830, .ireturn, 1, 0, [[1]]),
  (831, .iinc 3 4, 3, 4, []),
  (834, .goto (-816), 3, 0, [[10]]),
  (837, .iconst 1, 1, 1, []),
  (838, .ireturn, 1, 0, [[1]])]
end
section
/-! 14.prog: the table of methods -/
def a_P : List aM := [
  (⟨"SoldWeather$Ahead", "<init>", "(III)V"⟩, prog_2_method_1_code, 4, none, m_X0_init),
  (⟨"SoldWeather$Ahead", "wish", "(LSoldWeather$Course;I)I"⟩, prog_2_method_2_code, 5, (some .int), m_X0_wish),
  (⟨"SoldWeather$Ahead", "tells", "(I[I)I"⟩, prog_2_method_3_code, 3, (some .int), m_X0_tells),
  (⟨"SoldWeather$Bidder", "<init>", "(III)V"⟩, prog_3_method_1_code, 4, none, m_X1_init),
  (⟨"SoldWeather$Bidder", "wish", "(LSoldWeather$Course;I)I"⟩, prog_3_method_2_code, 3, (some .int), m_X1_wish),
  (⟨"SoldWeather$Bidder", "bids", "(I[I)I"⟩, prog_3_method_3_code, 3, (some .int), m_X1_bids),
  (⟨"SoldWeather$Bidder", "pays", "(I[I)I"⟩, prog_3_method_4_code, 3, (some .int), m_X1_pays),
  (⟨"SoldWeather$Bidder", "tells", "(I[I)I"⟩, prog_3_method_5_code, 3, (some .int), m_X1_tells),
  (⟨"SoldWeather$Bidder", "began", "([II)V"⟩, prog_3_method_6_code, 2, none, m_X1_began),
  (⟨"SoldWeather$Course", "<init>", "(LSoldWeather$World;)V"⟩, prog_4_method_1_code, 2, none, m_X2_init),
  (⟨"SoldWeather$Course", "begin", "()V"⟩, prog_4_method_2_code, 1, none, m_X2_begin),
  (⟨"SoldWeather$Course", "keep", "()V"⟩, prog_4_method_3_code, 1, none, m_X2_keep),
  (⟨"SoldWeather$Course", "open", "()V"⟩, prog_4_method_4_code, 2, none, m_X2_open),
  (⟨"SoldWeather$Course", "ask", "(I)V"⟩, prog_4_method_5_code, 4, none, m_X2_ask),
  (⟨"SoldWeather$Course", "putBid", "(III)V"⟩, prog_4_method_6_code, 4, none, m_X2_putBid),
  (⟨"SoldWeather$Course", "settle", "()V"⟩, prog_4_method_7_code, 4, none, m_X2_settle),
  (⟨"SoldWeather$Course", "due", "(I)I"⟩, prog_4_method_8_code, 3, (some .int), m_X2_due),
  (⟨"SoldWeather$Course", "harmBy", "(I)I"⟩, prog_4_method_9_code, 4, (some .int), m_X2_harmBy),
  (⟨"SoldWeather$Course", "rebate", "()I"⟩, prog_4_method_10_code, 4, (some .int), m_X2_rebate),
  (⟨"SoldWeather$Course", "close", "()I"⟩, prog_4_method_11_code, 5, (some .int), m_X2_close),
  (⟨"SoldWeather$Course", "fortuneNext", "()I"⟩, prog_4_method_12_code, 1, (some .int), m_X2_fortuneNext),
  (⟨"SoldWeather$Course", "purseOf", "(I)I"⟩, prog_4_method_13_code, 2, (some .int), m_X2_purseOf),
  (⟨"SoldWeather$Course", "bidOf", "(II)I"⟩, prog_4_method_14_code, 3, (some .int), m_X2_bidOf),
  (⟨"SoldWeather$Course", "bidsFor", "(I)I"⟩, prog_4_method_15_code, 2, (some .int), m_X2_bidsFor),
  (⟨"SoldWeather$Course", "gain", "(I)I"⟩, prog_4_method_16_code, 2, (some .int), m_X2_gain),
  (⟨"SoldWeather$Course", "gainByLie", "(III)I"⟩, prog_4_method_17_code, 7, (some .int), m_X2_gainByLie),
  (⟨"SoldWeather$Course", "gainTogether", "(II)I"⟩, prog_4_method_18_code, 5, (some .int), m_X2_gainTogether),
  (⟨"SoldWeather$Course", "rowOf", "(II)I"⟩, prog_4_method_19_code, 3, (some .int), m_X2_rowOf),
  (⟨"SoldWeather$Course", "one", "(I)LSoldWeather$Bidder;"⟩, prog_4_method_20_code, 2, (some (.object "SoldWeather$Bidder")), m_X2_one),
  (⟨"SoldWeather$Course", "worthTo", "(II)I"⟩, prog_4_method_21_code, 3, (some .int), m_X2_worthTo),
  (⟨"SoldWeather$Course", "worthToAll", "(I)I"⟩, prog_4_method_22_code, 2, (some .int), m_X2_worthToAll),
  (⟨"SoldWeather$Course", "worthToAllOn", "(III)I"⟩, prog_4_method_23_code, 6, (some .int), m_X2_worthToAllOn),
  (⟨"SoldWeather$Course", "worth", "(LSoldWeather$Bidder;III)I"⟩, prog_4_method_24_code, 6, (some .int), m_X2_worth),
  (⟨"SoldWeather$League", "<init>", "(III)V"⟩, prog_5_method_1_code, 4, none, m_X3_init),
  (⟨"SoldWeather$League", "wish", "(LSoldWeather$Course;I)I"⟩, prog_5_method_2_code, 5, (some .int), m_X3_wish),
  (⟨"SoldWeather$League", "pays", "(I[I)I"⟩, prog_5_method_3_code, 3, (some .int), m_X3_pays),
  (⟨"SoldWeather$Low", "<init>", "(III)V"⟩, prog_6_method_1_code, 4, none, m_X4_init),
  (⟨"SoldWeather$Low", "wish", "(LSoldWeather$Course;I)I"⟩, prog_6_method_2_code, 4, (some .int), m_X4_wish),
  (⟨"SoldWeather$Low", "bids", "(I[I)I"⟩, prog_6_method_3_code, 3, (some .int), m_X4_bids),
  (⟨"SoldWeather$Reader", "<init>", "([I)V"⟩, prog_7_method_1_code, 2, none, m_X5_init),
  (⟨"SoldWeather$Reader", "faultOf", "(I)I"⟩, prog_7_method_2_code, 3, (some .int), m_X5_faultOf),
  (⟨"SoldWeather$Reader", "made", "()LSoldWeather$Valley;"⟩, prog_7_method_3_code, 1, (some (.object "SoldWeather$Valley")), m_X5_made),
  (⟨"SoldWeather$Reader", "head", "([II)[I"⟩, prog_7_method_4_code, 3, (some (.array .int)), m_X5_head),
  (⟨"SoldWeather$Reader", "step", "()V"⟩, prog_7_method_5_code, 1, none, m_X5_step),
  (⟨"SoldWeather$Reader", "clause", "()Z"⟩, prog_7_method_6_code, 3, (some .boolean), m_X5_clause),
  (⟨"SoldWeather$Reader", "wordOf", "(I)Ljava/lang/String;"⟩, prog_7_method_7_code, 1, (some (.object "java/lang/String")), m_X5_wordOf),
  (⟨"SoldWeather$Reader", "word", "(Ljava/lang/String;)Z"⟩, prog_7_method_8_code, 3, (some .boolean), m_X5_word),
  (⟨"SoldWeather$Reader", "ruleNumber", "()I"⟩, prog_7_method_9_code, 2, (some .int), m_X5_ruleNumber),
  (⟨"SoldWeather$Reader", "number", "()I"⟩, prog_7_method_10_code, 2, (some .int), m_X5_number),
  (⟨"SoldWeather$Reader", "keepClause", "(I)Z"⟩, prog_7_method_11_code, 2, (some .boolean), m_X5_keepClause),
  (⟨"SoldWeather$Reader", "expression", "(I)Z"⟩, prog_7_method_12_code, 5, (some .boolean), m_X5_expression),
  (⟨"SoldWeather$Reader", "factor", "(I)Z"⟩, prog_7_method_13_code, 3, (some .boolean), m_X5_factor),
  (⟨"SoldWeather$Reader", "test", "()Z"⟩, prog_7_method_14_code, 4, (some .boolean), m_X5_test),
  (⟨"SoldWeather$Reader", "askedBy", "(I)I"⟩, prog_7_method_15_code, 1, (some .int), m_X5_askedBy),
  (⟨"SoldWeather$Reader", "put", "(I)Z"⟩, prog_7_method_16_code, 2, (some .boolean), m_X5_put),
  (⟨"SoldWeather$Saving", "<init>", "(III)V"⟩, prog_8_method_1_code, 4, none, m_X6_init),
  (⟨"SoldWeather$Saving", "wish", "(LSoldWeather$Course;I)I"⟩, prog_8_method_2_code, 3, (some .int), m_X6_wish),
  (⟨"SoldWeather$Saving", "tells", "(I[I)I"⟩, prog_8_method_3_code, 4, (some .int), m_X6_tells),
  (⟨"SoldWeather$Sharing", "<init>", "(III)V"⟩, prog_9_method_1_code, 4, none, m_X7_init),
  (⟨"SoldWeather$Sharing", "wish", "(LSoldWeather$Course;I)I"⟩, prog_9_method_2_code, 6, (some .int), m_X7_wish),
  (⟨"SoldWeather$Sharing", "bids", "(I[I)I"⟩, prog_9_method_3_code, 3, (some .int), m_X7_bids),
  (⟨"SoldWeather$Told", "<init>", "(III)V"⟩, prog_10_method_1_code, 4, none, m_X8_init),
  (⟨"SoldWeather$Told", "wish", "(LSoldWeather$Course;I)I"⟩, prog_10_method_2_code, 3, (some .int), m_X8_wish),
  (⟨"SoldWeather$Told", "pays", "(I[I)I"⟩, prog_10_method_3_code, 3, (some .int), m_X8_pays),
  (⟨"SoldWeather$Valley", "<init>", "([I[I[III)V"⟩, prog_11_method_1_code, 6, none, m_X9_init),
  (⟨"SoldWeather$Valley", "worth", "([I)I"⟩, prog_11_method_2_code, 5, (some .int), m_X9_worth),
  (⟨"SoldWeather$Valley", "holds", "(II[I)Z"⟩, prog_11_method_3_code, 10, (some .boolean), m_X9_holds),
  (⟨"SoldWeather$World", "<init>", "()V"⟩, prog_12_method_1_code, 2, none, m_X10_init),
  (⟨"SoldWeather$World", "becomeLike", "(LSoldWeather$World;)V"⟩, prog_12_method_2_code, 3, none, m_X10_becomeLike),
  (⟨"SoldWeather$World", "isOne", "(I)Z"⟩, prog_12_method_3_code, 2, (some .boolean), m_X10_isOne),
  (⟨"SoldWeather$World", "one", "(I)LSoldWeather$Bidder;"⟩, prog_12_method_4_code, 2, (some (.object "SoldWeather$Bidder")), m_X10_one),
  (⟨"SoldWeather$World", "payRule", "()I"⟩, prog_12_method_5_code, 1, (some .int), m_X10_payRule),
  (⟨"SoldWeather$World", "giftEach", "()I"⟩, prog_12_method_6_code, 1, (some .int), m_X10_giftEach),
  (⟨"SoldWeather$World", "fortuneAt", "(I)I"⟩, prog_12_method_7_code, 2, (some .int), m_X10_fortuneAt),
  (⟨"SoldWeather$World", "turnBehind", "(I)I"⟩, prog_12_method_8_code, 2, (some .int), m_X10_turnBehind),
  (⟨"SoldWeather", "<init>", "()V"⟩, prog_1_method_1_code, 1, none, m_X11_init),
  (⟨"SoldWeather", "feed", "(I)I"⟩, prog_1_method_2_code, 2, (some .int), m_X11_feed),
  (⟨"SoldWeather", "valley", "()I"⟩, prog_1_method_3_code, 2, (some .int), m_X11_valley),
  (⟨"SoldWeather", "told", "(I)I"⟩, prog_1_method_4_code, 2, (some .int), m_X11_told),
  (⟨"SoldWeather", "fortune", "(I)I"⟩, prog_1_method_5_code, 3, (some .int), m_X11_fortune),
  (⟨"SoldWeather", "person", "(III)I"⟩, prog_1_method_6_code, 5, (some .int), m_X11_person),
  (⟨"SoldWeather", "row", "(III)I"⟩, prog_1_method_7_code, 7, (some .int), m_X11_row),
  (⟨"SoldWeather", "of", "(II)I"⟩, prog_1_method_8_code, 4, (some .int), m_X11_of),
  (⟨"SoldWeather", "go", "()I"⟩, prog_1_method_9_code, 1, (some .int), m_X11_go),
  (⟨"SoldWeather", "sold", "(I)I"⟩, prog_1_method_10_code, 3, (some .int), m_X11_sold),
  (⟨"SoldWeather", "run", "(II)I"⟩, prog_1_method_11_code, 8, (some .int), m_X11_run),
  (⟨"SoldWeather", "best", "(II)I"⟩, prog_1_method_12_code, 5, (some .int), m_X11_best),
  (⟨"SoldWeather", "truly", "(II)I"⟩, prog_1_method_13_code, 11, (some .int), m_X11_truly),
  (⟨"SoldWeather", "harm", "(I)I"⟩, prog_1_method_14_code, 2, (some .int), m_X11_harm),
  (⟨"SoldWeather", "leagues", "(I)I"⟩, prog_1_method_15_code, 6, (some .int), m_X11_leagues),
  (⟨"SoldWeather", "beside", "(I)I"⟩, prog_1_method_16_code, 3, (some .int), m_X11_beside),
  (⟨"SoldWeather", "spill", "(II)I"⟩, prog_1_method_17_code, 5, (some .int), m_X11_spill),
  (⟨"SoldWeather", "poor", "(II)I"⟩, prog_1_method_18_code, 5, (some .int), m_X11_poor),
  (⟨"SoldWeather", "worse", "(I)J"⟩, prog_1_method_19_code, 5, (some .long), m_X11_worse),
  (⟨"SoldWeather", "book", "(I)I"⟩, prog_1_method_20_code, 3, (some .int), m_X11_book),
  (⟨"SoldWeather", "looked", "()I"⟩, prog_1_method_21_code, 2, (some .int), m_X11_looked),
  (⟨"SoldWeather", "act", "(III)I"⟩, prog_1_method_22_code, 5, (some .int), m_X11_act),
  (⟨"SoldWeather", "trace", "(I)I"⟩, prog_1_method_23_code, 2, (some .int), m_X11_trace),
  (⟨"SoldWeather", "as", "(II)I"⟩, prog_1_method_24_code, 4, (some .int), m_X11_as),
  (⟨"SoldWeather", "image", "()I"⟩, prog_1_method_25_code, 1, (some .int), m_X11_image),
  (⟨"SoldWeather", "undo", "()I"⟩, prog_1_method_26_code, 1, (some .int), m_X11_undo),
  (⟨"SoldWeather", "count", "(I)I"⟩, prog_1_method_27_code, 2, (some .int), m_X11_count),
  (⟨"SoldWeather", "isWeather", "(I)Z"⟩, prog_1_method_28_code, 1, (some .boolean), m_X11_isWeather),
  (⟨"SoldWeather", "isKind", "(I)Z"⟩, prog_1_method_29_code, 1, (some .boolean), m_X11_isKind),
  (⟨"SoldWeather", "isRun", "(I)Z"⟩, prog_1_method_30_code, 1, (some .boolean), m_X11_isRun),
  (⟨"SoldWeather", "grown", "([III)I"⟩, prog_1_method_31_code, 3, (some .int), m_X11_grown),
  (⟨"SoldWeather", "ofKind", "(III)LSoldWeather$Bidder;"⟩, prog_1_method_32_code, 3, (some (.object "SoldWeather$Bidder")), m_X11_ofKind),
  (⟨"SoldWeather", "isUnder", "(LSoldWeather$Bidder;I)Z"⟩, prog_1_method_33_code, 2, (some .boolean), m_X11_isUnder),
  (⟨"SoldWeather", "planDay", "(II)V"⟩, prog_1_method_34_code, 7, none, m_X11_planDay),
  (⟨"SoldWeather", "tallyWorth", "()I"⟩, prog_1_method_35_code, 4, (some .int), m_X11_tallyWorth),
  (⟨"SoldWeather", "tallySpan", "()I"⟩, prog_1_method_36_code, 4, (some .int), m_X11_tallySpan),
  (⟨"SoldWeatherModel", "<init>", "()V"⟩, prog_14_method_1_code, 2, none, m_X12_init),
  (⟨"SoldWeatherModel", "in", "(III)Z"⟩, prog_14_method_3_code, 3, (some .boolean), m_X12_in),
  (⟨"SoldWeatherModel", "isWeather", "(I)Z"⟩, prog_14_method_4_code, 1, (some .boolean), m_X12_isWeather),
  (⟨"SoldWeatherModel", "isPerson", "(I)Z"⟩, prog_14_method_5_code, 2, (some .boolean), m_X12_isPerson),
  (⟨"SoldWeatherModel", "keeps", "()V"⟩, prog_14_method_6_code, 2, none, m_X12_keeps),
  (⟨"SoldWeatherModel", "goesBack", "()V"⟩, prog_14_method_7_code, 2, none, m_X12_goesBack),
  (⟨"SoldWeatherModel", "feed", "(I)I"⟩, prog_14_method_8_code, 2, (some .int), m_X12_feed),
  (⟨"SoldWeatherModel", "here", "()I"⟩, prog_14_method_9_code, 1, (some .int), m_X12_here),
  (⟨"SoldWeatherModel", "must", "(I)V"⟩, prog_14_method_10_code, 2, none, m_X12_must),
  (⟨"SoldWeatherModel", "spells", "(Ljava/lang/String;)V"⟩, prog_14_method_11_code, 3, none, m_X12_spells),
  (⟨"SoldWeatherModel", "figures", "()I"⟩, prog_14_method_12_code, 3, (some .int), m_X12_figures),
  (⟨"SoldWeatherModel", "among", "(Ljava/lang/String;)I"⟩, prog_14_method_13_code, 3, (some .int), m_X12_among),
  (⟨"SoldWeatherModel", "emits", "(I)V"⟩, prog_14_method_14_code, 2, none, m_X12_emits),
  (⟨"SoldWeatherModel", "factor", "()V"⟩, prog_14_method_15_code, 5, none, m_X12_factor),
  (⟨"SoldWeatherModel", "every", "()V"⟩, prog_14_method_16_code, 1, none, m_X12_every),
  (⟨"SoldWeatherModel", "some", "()V"⟩, prog_14_method_17_code, 1, none, m_X12_some),
  (⟨"SoldWeatherModel", "much", "(ILjava/lang/String;)V"⟩, prog_14_method_18_code, 4, none, m_X12_much),
  (⟨"SoldWeatherModel", "ruleHere", "()V"⟩, prog_14_method_19_code, 1, none, m_X12_ruleHere),
  (⟨"SoldWeatherModel", "giftHere", "()V"⟩, prog_14_method_20_code, 2, none, m_X12_giftHere),
  (⟨"SoldWeatherModel", "clauseHere", "()V"⟩, prog_14_method_21_code, 1, none, m_X12_clauseHere),
  (⟨"SoldWeatherModel", "valley", "()I"⟩, prog_14_method_22_code, 2, (some .int), m_X12_valley),
  (⟨"SoldWeatherModel", "tellsOf", "(I)I"⟩, prog_14_method_23_code, 2, (some .int), m_X12_tellsOf),
  (⟨"SoldWeatherModel", "worthOf", "(IIII)I"⟩, prog_14_method_24_code, 14, (some .int), m_X12_worthOf),
  (⟨"SoldWeatherModel", "worthNow", "(II)I"⟩, prog_14_method_25_code, 3, (some .int), m_X12_worthNow),
  (⟨"SoldWeatherModel", "worthToAll", "(III)I"⟩, prog_14_method_26_code, 6, (some .int), m_X12_worthToAll),
  (⟨"SoldWeatherModel", "fortuneNext", "()I"⟩, prog_14_method_27_code, 1, (some .int), m_X12_fortuneNext),
  (⟨"SoldWeatherModel", "told", "(I)I"⟩, prog_14_method_28_code, 2, (some .int), m_X12_told),
  (⟨"SoldWeatherModel", "fortune", "(I)I"⟩, prog_14_method_29_code, 2, (some .int), m_X12_fortune),
  (⟨"SoldWeatherModel", "person", "(III)I"⟩, prog_14_method_30_code, 6, (some .int), m_X12_person),
  (⟨"SoldWeatherModel", "row", "(III)I"⟩, prog_14_method_31_code, 5, (some .int), m_X12_row),
  (⟨"SoldWeatherModel", "kept", "(II)I"⟩, prog_14_method_32_code, 3, (some .int), m_X12_kept),
  (⟨"SoldWeatherModel", "league", "(II)I"⟩, prog_14_method_33_code, 5, (some .int), m_X12_league),
  (⟨"SoldWeatherModel", "ahead", "(II)I"⟩, prog_14_method_34_code, 6, (some .int), m_X12_ahead),
  (⟨"SoldWeatherModel", "sharing", "(II)I"⟩, prog_14_method_35_code, 5, (some .int), m_X12_sharing),
  (⟨"SoldWeatherModel", "bidOf", "(II)I"⟩, prog_14_method_36_code, 4, (some .int), m_X12_bidOf),
  (⟨"SoldWeatherModel", "of", "(II)I"⟩, prog_14_method_37_code, 3, (some .int), m_X12_of),
  (⟨"SoldWeatherModel", "takesBids", "()V"⟩, prog_14_method_38_code, 3, none, m_X12_takesBids),
  (⟨"SoldWeatherModel", "sells", "()V"⟩, prog_14_method_39_code, 3, none, m_X12_sells),
  (⟨"SoldWeatherModel", "harmOf", "(I)I"⟩, prog_14_method_40_code, 5, (some .int), m_X12_harmOf),
  (⟨"SoldWeatherModel", "paysOf", "(I)I"⟩, prog_14_method_41_code, 6, (some .int), m_X12_paysOf),
  (⟨"SoldWeatherModel", "gainOf", "(I)I"⟩, prog_14_method_42_code, 2, (some .int), m_X12_gainOf),
  (⟨"SoldWeatherModel", "evening", "()V"⟩, prog_14_method_43_code, 4, none, m_X12_evening),
  (⟨"SoldWeatherModel", "go", "()I"⟩, prog_14_method_44_code, 1, (some .int), m_X12_go),
  (⟨"SoldWeatherModel", "sold", "(I)I"⟩, prog_14_method_45_code, 2, (some .int), m_X12_sold),
  (⟨"SoldWeatherModel", "run", "(II)I"⟩, prog_14_method_46_code, 4, (some .int), m_X12_run),
  (⟨"SoldWeatherModel", "withNext", "(III)I"⟩, prog_14_method_47_code, 4, (some .int), m_X12_withNext),
  (⟨"SoldWeatherModel", "best", "(II)I"⟩, prog_14_method_48_code, 8, (some .int), m_X12_best),
  (⟨"SoldWeatherModel", "truly", "(II)I"⟩, prog_14_method_49_code, 11, (some .int), m_X12_truly),
  (⟨"SoldWeatherModel", "harm", "(I)I"⟩, prog_14_method_50_code, 2, (some .int), m_X12_harm),
  (⟨"SoldWeatherModel", "leagues", "(I)I"⟩, prog_14_method_51_code, 9, (some .int), m_X12_leagues),
  (⟨"SoldWeatherModel", "beside", "(I)I"⟩, prog_14_method_52_code, 2, (some .int), m_X12_beside),
  (⟨"SoldWeatherModel", "spill", "(II)I"⟩, prog_14_method_53_code, 5, (some .int), m_X12_spill),
  (⟨"SoldWeatherModel", "poor", "(II)I"⟩, prog_14_method_54_code, 9, (some .int), m_X12_poor),
  (⟨"SoldWeatherModel", "worse", "(I)J"⟩, prog_14_method_55_code, 8, (some .long), m_X12_worse),
  (⟨"SoldWeatherModel", "book", "(I)I"⟩, prog_14_method_56_code, 2, (some .int), m_X12_book),
  (⟨"SoldWeatherModel", "looked", "()I"⟩, prog_14_method_57_code, 3, (some .int), m_X12_looked),
  (⟨"SoldWeatherModel", "ranBody", "(I)V"⟩, prog_14_method_58_code, 2, none, m_X12_ranBody),
  (⟨"SoldWeatherModel", "isUnder", "(II)Z"⟩, prog_14_method_59_code, 2, (some .boolean), m_X12_isUnder),
  (⟨"SoldWeatherModel", "plainBids", "(I)I"⟩, prog_14_method_60_code, 2, (some .int), m_X12_plainBids),
  (⟨"SoldWeatherModel", "bidsActs", "(I)I"⟩, prog_14_method_61_code, 2, (some .int), m_X12_bidsActs),
  (⟨"SoldWeatherModel", "plainPays", "(I)I"⟩, prog_14_method_62_code, 2, (some .int), m_X12_plainPays),
  (⟨"SoldWeatherModel", "leaguePays", "(I)I"⟩, prog_14_method_63_code, 2, (some .int), m_X12_leaguePays),
  (⟨"SoldWeatherModel", "paysActs", "(I)I"⟩, prog_14_method_64_code, 2, (some .int), m_X12_paysActs),
  (⟨"SoldWeatherModel", "plainTells", "(I)I"⟩, prog_14_method_65_code, 2, (some .int), m_X12_plainTells),
  (⟨"SoldWeatherModel", "tellsActs", "(I)I"⟩, prog_14_method_66_code, 3, (some .int), m_X12_tellsActs),
  (⟨"SoldWeatherModel", "act", "(III)I"⟩, prog_14_method_67_code, 4, (some .int), m_X12_act),
  (⟨"SoldWeatherModel", "trace", "(I)I"⟩, prog_14_method_68_code, 2, (some .int), m_X12_trace),
  (⟨"SoldWeatherModel", "as", "(II)I"⟩, prog_14_method_69_code, 3, (some .int), m_X12_as),
  (⟨"SoldWeatherModel", "image", "()I"⟩, prog_14_method_70_code, 2, (some .int), m_X12_image),
  (⟨"SoldWeatherModel", "undo", "()I"⟩, prog_14_method_71_code, 2, (some .int), m_X12_undo),
  (⟨"SoldWeatherModel", "count", "(I)I"⟩, prog_14_method_72_code, 2, (some .int), m_X12_count),
  (⟨"java/lang/String", "length", "()I"⟩, prog_16_method_54_code, 1, (some .int), m_J0_length_8abf5),
  (⟨"java/lang/String", "charAt", "(I)C"⟩, prog_16_method_56_code, 2, (some .char), m_J0_charAt_5068e),
  (⟨"java/lang/String", "coder", "()B"⟩, prog_16_method_152_code, 1, (some .byte), m_J0_coder_7d493),
  (⟨"java/lang/String", "isLatin1", "()Z"⟩, prog_16_method_154_code, 1, (some .boolean), m_J0_isLatin1_aae02),
  (⟨"java/lang/String", "checkIndex", "(II)V"⟩, prog_16_method_155_code, 2, none, m_J0_checkIndex_df160),
  (⟨"java/lang/StringLatin1", "charAt", "([BI)C"⟩, prog_17_method_2_code, 2, (some .char), m_J1_charAt_3b067),
  (⟨"jdk/internal/util/Preconditions", "checkIndex", "(IILjava/util/function/BiFunction;)I"⟩, prog_20_method_11_code, 3, (some .int), m_J3_checkIndex_8e157),
  (x, code, maxLocals, ret, m_L_law)]
end
section
/-! 15.chk: rows against bytes and words (by program) -/
def a_Mok (q : aM) : Prop := Jvm.Cond.code q.1 q.2.1 q.2.2.1 q.2.2.2.1 ∈ a_TB ∧ plainName q.1.cls = true ∧ q.2.2.1 ≤ 20 ∧ a_pf q.2.2.2.2 0 = 0 ∧ (q.2.2.2.2.zipIdx.all fun r => a_rowok q.1.cls (q.1.name == "<init>") a_P a_cl a_TB "SoldWeather$Bidder" a_NC a_SR (a_sv .null) q.2.1 q.2.2.2.1 q.2.2.2.2 r.2 r.1) = true
set_option maxRecDepth 100000 in
theorem k_X0_init : a_Mok (⟨"SoldWeather$Ahead", "<init>", "(III)V"⟩, prog_2_method_1_code, 4, none, m_X0_init) := ⟨List.mem_of_getElem? (i := 502) (by decide +kernel), by decide +kernel, by decide +kernel, by decide +kernel, by decide +kernel⟩
set_option maxRecDepth 100000 in
theorem k_X0_wish : a_Mok (⟨"SoldWeather$Ahead", "wish", "(LSoldWeather$Course;I)I"⟩, prog_2_method_2_code, 5, (some .int), m_X0_wish) := ⟨List.mem_of_getElem? (i := 577) (by decide +kernel), by decide +kernel, by decide +kernel, by decide +kernel, by decide +kernel⟩
set_option maxRecDepth 100000 in
theorem k_X0_tells : a_Mok (⟨"SoldWeather$Ahead", "tells", "(I[I)I"⟩, prog_2_method_3_code, 3, (some .int), m_X0_tells) := ⟨List.mem_of_getElem? (i := 835) (by decide +kernel), by decide +kernel, by decide +kernel, by decide +kernel, by decide +kernel⟩
set_option maxRecDepth 100000 in
theorem k_X1_init : a_Mok (⟨"SoldWeather$Bidder", "<init>", "(III)V"⟩, prog_3_method_1_code, 4, none, m_X1_init) := ⟨List.mem_of_getElem? (i := 454) (by decide +kernel), by decide +kernel, by decide +kernel, by decide +kernel, by decide +kernel⟩
set_option maxRecDepth 100000 in
theorem k_X1_wish : a_Mok (⟨"SoldWeather$Bidder", "wish", "(LSoldWeather$Course;I)I"⟩, prog_3_method_2_code, 3, (some .int), m_X1_wish) := ⟨List.mem_of_getElem? (i := 624) (by decide +kernel), by decide +kernel, by decide +kernel, by decide +kernel, by decide +kernel⟩
set_option maxRecDepth 100000 in
theorem k_X1_bids : a_Mok (⟨"SoldWeather$Bidder", "bids", "(I[I)I"⟩, prog_3_method_3_code, 3, (some .int), m_X1_bids) := ⟨List.mem_of_getElem? (i := 805) (by decide +kernel), by decide +kernel, by decide +kernel, by decide +kernel, by decide +kernel⟩
set_option maxRecDepth 100000 in
theorem k_X1_pays : a_Mok (⟨"SoldWeather$Bidder", "pays", "(I[I)I"⟩, prog_3_method_4_code, 3, (some .int), m_X1_pays) := ⟨List.mem_of_getElem? (i := 827) (by decide +kernel), by decide +kernel, by decide +kernel, by decide +kernel, by decide +kernel⟩
set_option maxRecDepth 100000 in
theorem k_X1_tells : a_Mok (⟨"SoldWeather$Bidder", "tells", "(I[I)I"⟩, prog_3_method_5_code, 3, (some .int), m_X1_tells) := ⟨List.mem_of_getElem? (i := 853) (by decide +kernel), by decide +kernel, by decide +kernel, by decide +kernel, by decide +kernel⟩
set_option maxRecDepth 100000 in
theorem k_X1_began : a_Mok (⟨"SoldWeather$Bidder", "began", "([II)V"⟩, prog_3_method_6_code, 2, none, m_X1_began) := ⟨List.mem_of_getElem? (i := 794) (by decide +kernel), by decide +kernel, by decide +kernel, by decide +kernel, by decide +kernel⟩
set_option maxRecDepth 100000 in
theorem k_X2_init : a_Mok (⟨"SoldWeather$Course", "<init>", "(LSoldWeather$World;)V"⟩, prog_4_method_1_code, 2, none, m_X2_init) := ⟨List.mem_of_getElem? (i := 215) (by decide +kernel), by decide +kernel, by decide +kernel, by decide +kernel, by decide +kernel⟩
set_option maxRecDepth 100000 in
theorem k_X2_begin : a_Mok (⟨"SoldWeather$Course", "begin", "()V"⟩, prog_4_method_2_code, 1, none, m_X2_begin) := ⟨List.mem_of_getElem? (i := 564) (by decide +kernel), by decide +kernel, by decide +kernel, by decide +kernel, by decide +kernel⟩
set_option maxRecDepth 100000 in
theorem k_X2_keep : a_Mok (⟨"SoldWeather$Course", "keep", "()V"⟩, prog_4_method_3_code, 1, none, m_X2_keep) := ⟨List.mem_of_getElem? (i := 682) (by decide +kernel), by decide +kernel, by decide +kernel, by decide +kernel, by decide +kernel⟩
set_option maxRecDepth 100000 in
theorem k_X2_open : a_Mok (⟨"SoldWeather$Course", "open", "()V"⟩, prog_4_method_4_code, 2, none, m_X2_open) := ⟨List.mem_of_getElem? (i := 647) (by decide +kernel), by decide +kernel, by decide +kernel, by decide +kernel, by decide +kernel⟩
set_option maxRecDepth 100000 in
theorem k_X2_ask : a_Mok (⟨"SoldWeather$Course", "ask", "(I)V"⟩, prog_4_method_5_code, 4, none, m_X2_ask) := ⟨List.mem_of_getElem? (i := 569) (by decide +kernel), by decide +kernel, by decide +kernel, by decide +kernel, by decide +kernel⟩
set_option maxRecDepth 100000 in
theorem k_X2_putBid : a_Mok (⟨"SoldWeather$Course", "putBid", "(III)V"⟩, prog_4_method_6_code, 4, none, m_X2_putBid) := ⟨List.mem_of_getElem? (i := 628) (by decide +kernel), by decide +kernel, by decide +kernel, by decide +kernel, by decide +kernel⟩
set_option maxRecDepth 100000 in
theorem k_X2_settle : a_Mok (⟨"SoldWeather$Course", "settle", "()V"⟩, prog_4_method_7_code, 4, none, m_X2_settle) := ⟨List.mem_of_getElem? (i := 651) (by decide +kernel), by decide +kernel, by decide +kernel, by decide +kernel, by decide +kernel⟩
set_option maxRecDepth 100000 in
theorem k_X2_due : a_Mok (⟨"SoldWeather$Course", "due", "(I)I"⟩, prog_4_method_8_code, 3, (some .int), m_X2_due) := ⟨List.mem_of_getElem? (i := 665) (by decide +kernel), by decide +kernel, by decide +kernel, by decide +kernel, by decide +kernel⟩
set_option maxRecDepth 100000 in
theorem k_X2_harmBy : a_Mok (⟨"SoldWeather$Course", "harmBy", "(I)I"⟩, prog_4_method_9_code, 4, (some .int), m_X2_harmBy) := ⟨List.mem_of_getElem? (i := 671) (by decide +kernel), by decide +kernel, by decide +kernel, by decide +kernel, by decide +kernel⟩
set_option maxRecDepth 100000 in
theorem k_X2_rebate : a_Mok (⟨"SoldWeather$Course", "rebate", "()I"⟩, prog_4_method_10_code, 4, (some .int), m_X2_rebate) := ⟨List.mem_of_getElem? (i := 674) (by decide +kernel), by decide +kernel, by decide +kernel, by decide +kernel, by decide +kernel⟩
set_option maxRecDepth 100000 in
theorem k_X2_close : a_Mok (⟨"SoldWeather$Course", "close", "()I"⟩, prog_4_method_11_code, 5, (some .int), m_X2_close) := ⟨List.mem_of_getElem? (i := 660) (by decide +kernel), by decide +kernel, by decide +kernel, by decide +kernel, by decide +kernel⟩
set_option maxRecDepth 100000 in
theorem k_X2_fortuneNext : a_Mok (⟨"SoldWeather$Course", "fortuneNext", "()I"⟩, prog_4_method_12_code, 1, (some .int), m_X2_fortuneNext) := ⟨List.mem_of_getElem? (i := 655) (by decide +kernel), by decide +kernel, by decide +kernel, by decide +kernel, by decide +kernel⟩
set_option maxRecDepth 100000 in
theorem k_X2_purseOf : a_Mok (⟨"SoldWeather$Course", "purseOf", "(I)I"⟩, prog_4_method_13_code, 2, (some .int), m_X2_purseOf) := ⟨List.mem_of_getElem? (i := 611) (by decide +kernel), by decide +kernel, by decide +kernel, by decide +kernel, by decide +kernel⟩
set_option maxRecDepth 100000 in
theorem k_X2_bidOf : a_Mok (⟨"SoldWeather$Course", "bidOf", "(II)I"⟩, prog_4_method_14_code, 3, (some .int), m_X2_bidOf) := ⟨List.mem_of_getElem? (i := 634) (by decide +kernel), by decide +kernel, by decide +kernel, by decide +kernel, by decide +kernel⟩
set_option maxRecDepth 100000 in
theorem k_X2_bidsFor : a_Mok (⟨"SoldWeather$Course", "bidsFor", "(I)I"⟩, prog_4_method_15_code, 2, (some .int), m_X2_bidsFor) := ⟨List.mem_of_getElem? (i := 692) (by decide +kernel), by decide +kernel, by decide +kernel, by decide +kernel, by decide +kernel⟩
end
section
/-! 15.chk, piece 1 -/
set_option maxRecDepth 100000 in
theorem k_X2_gain : a_Mok (⟨"SoldWeather$Course", "gain", "(I)I"⟩, prog_4_method_16_code, 2, (some .int), m_X2_gain) := ⟨List.mem_of_getElem? (i := 721) (by decide +kernel), by decide +kernel, by decide +kernel, by decide +kernel, by decide +kernel⟩
set_option maxRecDepth 100000 in
theorem k_X2_gainByLie : a_Mok (⟨"SoldWeather$Course", "gainByLie", "(III)I"⟩, prog_4_method_17_code, 7, (some .int), m_X2_gainByLie) := ⟨List.mem_of_getElem? (i := 727) (by decide +kernel), by decide +kernel, by decide +kernel, by decide +kernel, by decide +kernel⟩
set_option maxRecDepth 100000 in
theorem k_X2_gainTogether : a_Mok (⟨"SoldWeather$Course", "gainTogether", "(II)I"⟩, prog_4_method_18_code, 5, (some .int), m_X2_gainTogether) := ⟨List.mem_of_getElem? (i := 741) (by decide +kernel), by decide +kernel, by decide +kernel, by decide +kernel, by decide +kernel⟩
set_option maxRecDepth 100000 in
theorem k_X2_rowOf : a_Mok (⟨"SoldWeather$Course", "rowOf", "(II)I"⟩, prog_4_method_19_code, 3, (some .int), m_X2_rowOf) := ⟨List.mem_of_getElem? (i := 623) (by decide +kernel), by decide +kernel, by decide +kernel, by decide +kernel, by decide +kernel⟩
set_option maxRecDepth 100000 in
theorem k_X2_one : a_Mok (⟨"SoldWeather$Course", "one", "(I)LSoldWeather$Bidder;"⟩, prog_4_method_20_code, 2, (some (.object "SoldWeather$Bidder")), m_X2_one) := ⟨List.mem_of_getElem? (i := 599) (by decide +kernel), by decide +kernel, by decide +kernel, by decide +kernel, by decide +kernel⟩
set_option maxRecDepth 100000 in
theorem k_X2_worthTo : a_Mok (⟨"SoldWeather$Course", "worthTo", "(II)I"⟩, prog_4_method_21_code, 3, (some .int), m_X2_worthTo) := ⟨List.mem_of_getElem? (i := 638) (by decide +kernel), by decide +kernel, by decide +kernel, by decide +kernel, by decide +kernel⟩
set_option maxRecDepth 100000 in
theorem k_X2_worthToAll : a_Mok (⟨"SoldWeather$Course", "worthToAll", "(I)I"⟩, prog_4_method_22_code, 2, (some .int), m_X2_worthToAll) := ⟨List.mem_of_getElem? (i := 700) (by decide +kernel), by decide +kernel, by decide +kernel, by decide +kernel, by decide +kernel⟩
set_option maxRecDepth 100000 in
theorem k_X2_worthToAllOn : a_Mok (⟨"SoldWeather$Course", "worthToAllOn", "(III)I"⟩, prog_4_method_23_code, 6, (some .int), m_X2_worthToAllOn) := ⟨List.mem_of_getElem? (i := 704) (by decide +kernel), by decide +kernel, by decide +kernel, by decide +kernel, by decide +kernel⟩
set_option maxRecDepth 100000 in
theorem k_X2_worth : a_Mok (⟨"SoldWeather$Course", "worth", "(LSoldWeather$Bidder;III)I"⟩, prog_4_method_24_code, 6, (some .int), m_X2_worth) := ⟨List.mem_of_getElem? (i := 581) (by decide +kernel), by decide +kernel, by decide +kernel, by decide +kernel, by decide +kernel⟩
set_option maxRecDepth 100000 in
theorem k_X3_init : a_Mok (⟨"SoldWeather$League", "<init>", "(III)V"⟩, prog_5_method_1_code, 4, none, m_X3_init) := ⟨List.mem_of_getElem? (i := 492) (by decide +kernel), by decide +kernel, by decide +kernel, by decide +kernel, by decide +kernel⟩
set_option maxRecDepth 100000 in
theorem k_X3_wish : a_Mok (⟨"SoldWeather$League", "wish", "(LSoldWeather$Course;I)I"⟩, prog_5_method_2_code, 5, (some .int), m_X3_wish) := ⟨List.mem_of_getElem? (i := 594) (by decide +kernel), by decide +kernel, by decide +kernel, by decide +kernel, by decide +kernel⟩
set_option maxRecDepth 100000 in
theorem k_X3_pays : a_Mok (⟨"SoldWeather$League", "pays", "(I[I)I"⟩, prog_5_method_3_code, 3, (some .int), m_X3_pays) := ⟨List.mem_of_getElem? (i := 814) (by decide +kernel), by decide +kernel, by decide +kernel, by decide +kernel, by decide +kernel⟩
set_option maxRecDepth 100000 in
theorem k_X4_init : a_Mok (⟨"SoldWeather$Low", "<init>", "(III)V"⟩, prog_6_method_1_code, 4, none, m_X4_init) := ⟨List.mem_of_getElem? (i := 451) (by decide +kernel), by decide +kernel, by decide +kernel, by decide +kernel, by decide +kernel⟩
set_option maxRecDepth 100000 in
theorem k_X4_wish : a_Mok (⟨"SoldWeather$Low", "wish", "(LSoldWeather$Course;I)I"⟩, prog_6_method_2_code, 4, (some .int), m_X4_wish) := ⟨List.mem_of_getElem? (i := 603) (by decide +kernel), by decide +kernel, by decide +kernel, by decide +kernel, by decide +kernel⟩
set_option maxRecDepth 100000 in
theorem k_X4_bids : a_Mok (⟨"SoldWeather$Low", "bids", "(I[I)I"⟩, prog_6_method_3_code, 3, (some .int), m_X4_bids) := ⟨List.mem_of_getElem? (i := 790) (by decide +kernel), by decide +kernel, by decide +kernel, by decide +kernel, by decide +kernel⟩
set_option maxRecDepth 100000 in
theorem k_X5_init : a_Mok (⟨"SoldWeather$Reader", "<init>", "([I)V"⟩, prog_7_method_1_code, 2, none, m_X5_init) := ⟨List.mem_of_getElem? (i := 175) (by decide +kernel), by decide +kernel, by decide +kernel, by decide +kernel, by decide +kernel⟩
set_option maxRecDepth 100000 in
theorem k_X5_faultOf : a_Mok (⟨"SoldWeather$Reader", "faultOf", "(I)I"⟩, prog_7_method_2_code, 3, (some .int), m_X5_faultOf) := ⟨List.mem_of_getElem? (i := 293) (by decide +kernel), by decide +kernel, by decide +kernel, by decide +kernel, by decide +kernel⟩
set_option maxRecDepth 100000 in
theorem k_X5_made : a_Mok (⟨"SoldWeather$Reader", "made", "()LSoldWeather$Valley;"⟩, prog_7_method_3_code, 1, (some (.object "SoldWeather$Valley")), m_X5_made) := ⟨List.mem_of_getElem? (i := 379) (by decide +kernel), by decide +kernel, by decide +kernel, by decide +kernel, by decide +kernel⟩
set_option maxRecDepth 100000 in
theorem k_X5_head : a_Mok (⟨"SoldWeather$Reader", "head", "([II)[I"⟩, prog_7_method_4_code, 3, (some (.array .int)), m_X5_head) := ⟨List.mem_of_getElem? (i := 384) (by decide +kernel), by decide +kernel, by decide +kernel, by decide +kernel, by decide +kernel⟩
set_option maxRecDepth 100000 in
theorem k_X5_step : a_Mok (⟨"SoldWeather$Reader", "step", "()V"⟩, prog_7_method_5_code, 1, none, m_X5_step) := ⟨List.mem_of_getElem? (i := 299) (by decide +kernel), by decide +kernel, by decide +kernel, by decide +kernel, by decide +kernel⟩
set_option maxRecDepth 100000 in
theorem k_X5_clause : a_Mok (⟨"SoldWeather$Reader", "clause", "()Z"⟩, prog_7_method_6_code, 3, (some .boolean), m_X5_clause) := ⟨List.mem_of_getElem? (i := 302) (by decide +kernel), by decide +kernel, by decide +kernel, by decide +kernel, by decide +kernel⟩
set_option maxRecDepth 100000 in
theorem k_X5_wordOf : a_Mok (⟨"SoldWeather$Reader", "wordOf", "(I)Ljava/lang/String;"⟩, prog_7_method_7_code, 1, (some (.object "java/lang/String")), m_X5_wordOf) := ⟨List.mem_of_getElem? (i := 305) (by decide +kernel), by decide +kernel, by decide +kernel, by decide +kernel, by decide +kernel⟩
set_option maxRecDepth 100000 in
theorem k_X5_word : a_Mok (⟨"SoldWeather$Reader", "word", "(Ljava/lang/String;)Z"⟩, prog_7_method_8_code, 3, (some .boolean), m_X5_word) := ⟨List.mem_of_getElem? (i := 308) (by decide +kernel), by decide +kernel, by decide +kernel, by decide +kernel, by decide +kernel⟩
set_option maxRecDepth 100000 in
theorem k_X5_ruleNumber : a_Mok (⟨"SoldWeather$Reader", "ruleNumber", "()I"⟩, prog_7_method_9_code, 2, (some .int), m_X5_ruleNumber) := ⟨List.mem_of_getElem? (i := 354) (by decide +kernel), by decide +kernel, by decide +kernel, by decide +kernel, by decide +kernel⟩
end
section
/-! 15.chk, piece 2 -/
set_option maxRecDepth 100000 in
theorem k_X5_number : a_Mok (⟨"SoldWeather$Reader", "number", "()I"⟩, prog_7_method_10_code, 2, (some .int), m_X5_number) := ⟨List.mem_of_getElem? (i := 357) (by decide +kernel), by decide +kernel, by decide +kernel, by decide +kernel, by decide +kernel⟩
set_option maxRecDepth 100000 in
theorem k_X5_keepClause : a_Mok (⟨"SoldWeather$Reader", "keepClause", "(I)Z"⟩, prog_7_method_11_code, 2, (some .boolean), m_X5_keepClause) := ⟨List.mem_of_getElem? (i := 375) (by decide +kernel), by decide +kernel, by decide +kernel, by decide +kernel, by decide +kernel⟩
set_option maxRecDepth 100000 in
theorem k_X5_expression : a_Mok (⟨"SoldWeather$Reader", "expression", "(I)Z"⟩, prog_7_method_12_code, 5, (some .boolean), m_X5_expression) := ⟨List.mem_of_getElem? (i := 360) (by decide +kernel), by decide +kernel, by decide +kernel, by decide +kernel, by decide +kernel⟩
set_option maxRecDepth 100000 in
theorem k_X5_factor : a_Mok (⟨"SoldWeather$Reader", "factor", "(I)Z"⟩, prog_7_method_13_code, 3, (some .boolean), m_X5_factor) := ⟨List.mem_of_getElem? (i := 363) (by decide +kernel), by decide +kernel, by decide +kernel, by decide +kernel, by decide +kernel⟩
set_option maxRecDepth 100000 in
theorem k_X5_test : a_Mok (⟨"SoldWeather$Reader", "test", "()Z"⟩, prog_7_method_14_code, 4, (some .boolean), m_X5_test) := ⟨List.mem_of_getElem? (i := 366) (by decide +kernel), by decide +kernel, by decide +kernel, by decide +kernel, by decide +kernel⟩
set_option maxRecDepth 100000 in
theorem k_X5_askedBy : a_Mok (⟨"SoldWeather$Reader", "askedBy", "(I)I"⟩, prog_7_method_15_code, 1, (some .int), m_X5_askedBy) := ⟨List.mem_of_getElem? (i := 369) (by decide +kernel), by decide +kernel, by decide +kernel, by decide +kernel, by decide +kernel⟩
set_option maxRecDepth 100000 in
theorem k_X5_put : a_Mok (⟨"SoldWeather$Reader", "put", "(I)Z"⟩, prog_7_method_16_code, 2, (some .boolean), m_X5_put) := ⟨List.mem_of_getElem? (i := 372) (by decide +kernel), by decide +kernel, by decide +kernel, by decide +kernel, by decide +kernel⟩
set_option maxRecDepth 100000 in
theorem k_X6_init : a_Mok (⟨"SoldWeather$Saving", "<init>", "(III)V"⟩, prog_8_method_1_code, 4, none, m_X6_init) := ⟨List.mem_of_getElem? (i := 512) (by decide +kernel), by decide +kernel, by decide +kernel, by decide +kernel, by decide +kernel⟩
set_option maxRecDepth 100000 in
theorem k_X6_wish : a_Mok (⟨"SoldWeather$Saving", "wish", "(LSoldWeather$Course;I)I"⟩, prog_8_method_2_code, 3, (some .int), m_X6_wish) := ⟨List.mem_of_getElem? (i := 607) (by decide +kernel), by decide +kernel, by decide +kernel, by decide +kernel, by decide +kernel⟩
set_option maxRecDepth 100000 in
theorem k_X6_tells : a_Mok (⟨"SoldWeather$Saving", "tells", "(I[I)I"⟩, prog_8_method_3_code, 4, (some .int), m_X6_tells) := ⟨List.mem_of_getElem? (i := 843) (by decide +kernel), by decide +kernel, by decide +kernel, by decide +kernel, by decide +kernel⟩
set_option maxRecDepth 100000 in
theorem k_X7_init : a_Mok (⟨"SoldWeather$Sharing", "<init>", "(III)V"⟩, prog_9_method_1_code, 4, none, m_X7_init) := ⟨List.mem_of_getElem? (i := 522) (by decide +kernel), by decide +kernel, by decide +kernel, by decide +kernel, by decide +kernel⟩
set_option maxRecDepth 100000 in
theorem k_X7_wish : a_Mok (⟨"SoldWeather$Sharing", "wish", "(LSoldWeather$Course;I)I"⟩, prog_9_method_2_code, 6, (some .int), m_X7_wish) := ⟨List.mem_of_getElem? (i := 615) (by decide +kernel), by decide +kernel, by decide +kernel, by decide +kernel, by decide +kernel⟩
set_option maxRecDepth 100000 in
theorem k_X7_bids : a_Mok (⟨"SoldWeather$Sharing", "bids", "(I[I)I"⟩, prog_9_method_3_code, 3, (some .int), m_X7_bids) := ⟨List.mem_of_getElem? (i := 799) (by decide +kernel), by decide +kernel, by decide +kernel, by decide +kernel, by decide +kernel⟩
set_option maxRecDepth 100000 in
theorem k_X8_init : a_Mok (⟨"SoldWeather$Told", "<init>", "(III)V"⟩, prog_10_method_1_code, 4, none, m_X8_init) := ⟨List.mem_of_getElem? (i := 532) (by decide +kernel), by decide +kernel, by decide +kernel, by decide +kernel, by decide +kernel⟩
set_option maxRecDepth 100000 in
theorem k_X8_wish : a_Mok (⟨"SoldWeather$Told", "wish", "(LSoldWeather$Course;I)I"⟩, prog_10_method_2_code, 3, (some .int), m_X8_wish) := ⟨List.mem_of_getElem? (i := 619) (by decide +kernel), by decide +kernel, by decide +kernel, by decide +kernel, by decide +kernel⟩
set_option maxRecDepth 100000 in
theorem k_X8_pays : a_Mok (⟨"SoldWeather$Told", "pays", "(I[I)I"⟩, prog_10_method_3_code, 3, (some .int), m_X8_pays) := ⟨List.mem_of_getElem? (i := 823) (by decide +kernel), by decide +kernel, by decide +kernel, by decide +kernel, by decide +kernel⟩
set_option maxRecDepth 100000 in
theorem k_X9_init : a_Mok (⟨"SoldWeather$Valley", "<init>", "([I[I[III)V"⟩, prog_11_method_1_code, 6, none, m_X9_init) := ⟨List.mem_of_getElem? (i := 390) (by decide +kernel), by decide +kernel, by decide +kernel, by decide +kernel, by decide +kernel⟩
set_option maxRecDepth 100000 in
theorem k_X9_worth : a_Mok (⟨"SoldWeather$Valley", "worth", "([I)I"⟩, prog_11_method_2_code, 5, (some .int), m_X9_worth) := ⟨List.mem_of_getElem? (i := 585) (by decide +kernel), by decide +kernel, by decide +kernel, by decide +kernel, by decide +kernel⟩
set_option maxRecDepth 100000 in
theorem k_X9_holds : a_Mok (⟨"SoldWeather$Valley", "holds", "(II[I)Z"⟩, prog_11_method_3_code, 10, (some .boolean), m_X9_holds) := ⟨List.mem_of_getElem? (i := 588) (by decide +kernel), by decide +kernel, by decide +kernel, by decide +kernel, by decide +kernel⟩
set_option maxRecDepth 100000 in
theorem k_X10_init : a_Mok (⟨"SoldWeather$World", "<init>", "()V"⟩, prog_12_method_1_code, 2, none, m_X10_init) := ⟨List.mem_of_getElem? (i := 91) (by decide +kernel), by decide +kernel, by decide +kernel, by decide +kernel, by decide +kernel⟩
set_option maxRecDepth 100000 in
theorem k_X10_becomeLike : a_Mok (⟨"SoldWeather$World", "becomeLike", "(LSoldWeather$World;)V"⟩, prog_12_method_2_code, 3, none, m_X10_becomeLike) := ⟨List.mem_of_getElem? (i := 873) (by decide +kernel), by decide +kernel, by decide +kernel, by decide +kernel, by decide +kernel⟩
set_option maxRecDepth 100000 in
theorem k_X10_isOne : a_Mok (⟨"SoldWeather$World", "isOne", "(I)Z"⟩, prog_12_method_3_code, 2, (some .boolean), m_X10_isOne) := ⟨List.mem_of_getElem? (i := 556) (by decide +kernel), by decide +kernel, by decide +kernel, by decide +kernel, by decide +kernel⟩
set_option maxRecDepth 100000 in
theorem k_X10_one : a_Mok (⟨"SoldWeather$World", "one", "(I)LSoldWeather$Bidder;"⟩, prog_12_method_4_code, 2, (some (.object "SoldWeather$Bidder")), m_X10_one) := ⟨List.mem_of_getElem? (i := 552) (by decide +kernel), by decide +kernel, by decide +kernel, by decide +kernel, by decide +kernel⟩
set_option maxRecDepth 100000 in
theorem k_X10_payRule : a_Mok (⟨"SoldWeather$World", "payRule", "()I"⟩, prog_12_method_5_code, 1, (some .int), m_X10_payRule) := ⟨List.mem_of_getElem? (i := 418) (by decide +kernel), by decide +kernel, by decide +kernel, by decide +kernel, by decide +kernel⟩
end
section
/-! 15.chk, piece 3 -/
set_option maxRecDepth 100000 in
theorem k_X10_giftEach : a_Mok (⟨"SoldWeather$World", "giftEach", "()I"⟩, prog_12_method_6_code, 1, (some .int), m_X10_giftEach) := ⟨List.mem_of_getElem? (i := 422) (by decide +kernel), by decide +kernel, by decide +kernel, by decide +kernel, by decide +kernel⟩
set_option maxRecDepth 100000 in
theorem k_X10_fortuneAt : a_Mok (⟨"SoldWeather$World", "fortuneAt", "(I)I"⟩, prog_12_method_7_code, 2, (some .int), m_X10_fortuneAt) := ⟨List.mem_of_getElem? (i := 426) (by decide +kernel), by decide +kernel, by decide +kernel, by decide +kernel, by decide +kernel⟩
set_option maxRecDepth 100000 in
theorem k_X10_turnBehind : a_Mok (⟨"SoldWeather$World", "turnBehind", "(I)I"⟩, prog_12_method_8_code, 2, (some .int), m_X10_turnBehind) := ⟨List.mem_of_getElem? (i := 678) (by decide +kernel), by decide +kernel, by decide +kernel, by decide +kernel, by decide +kernel⟩
set_option maxRecDepth 100000 in
theorem k_X11_init : a_Mok (⟨"SoldWeather", "<init>", "()V"⟩, prog_1_method_1_code, 1, none, m_X11_init) := ⟨List.mem_of_getElem? (i := 83) (by decide +kernel), by decide +kernel, by decide +kernel, by decide +kernel, by decide +kernel⟩
set_option maxRecDepth 100000 in
theorem k_X11_feed : a_Mok (⟨"SoldWeather", "feed", "(I)I"⟩, prog_1_method_2_code, 2, (some .int), m_X11_feed) := ⟨List.mem_of_getElem? (i := 285) (by decide +kernel), by decide +kernel, by decide +kernel, by decide +kernel, by decide +kernel⟩
set_option maxRecDepth 100000 in
theorem k_X11_valley : a_Mok (⟨"SoldWeather", "valley", "()I"⟩, prog_1_method_3_code, 2, (some .int), m_X11_valley) := ⟨List.mem_of_getElem? (i := 289) (by decide +kernel), by decide +kernel, by decide +kernel, by decide +kernel, by decide +kernel⟩
set_option maxRecDepth 100000 in
theorem k_X11_told : a_Mok (⟨"SoldWeather", "told", "(I)I"⟩, prog_1_method_4_code, 2, (some .int), m_X11_told) := ⟨List.mem_of_getElem? (i := 414) (by decide +kernel), by decide +kernel, by decide +kernel, by decide +kernel, by decide +kernel⟩
set_option maxRecDepth 100000 in
theorem k_X11_fortune : a_Mok (⟨"SoldWeather", "fortune", "(I)I"⟩, prog_1_method_5_code, 3, (some .int), m_X11_fortune) := ⟨List.mem_of_getElem? (i := 430) (by decide +kernel), by decide +kernel, by decide +kernel, by decide +kernel, by decide +kernel⟩
set_option maxRecDepth 100000 in
theorem k_X11_person : a_Mok (⟨"SoldWeather", "person", "(III)I"⟩, prog_1_method_6_code, 5, (some .int), m_X11_person) := ⟨List.mem_of_getElem? (i := 440) (by decide +kernel), by decide +kernel, by decide +kernel, by decide +kernel, by decide +kernel⟩
set_option maxRecDepth 100000 in
theorem k_X11_row : a_Mok (⟨"SoldWeather", "row", "(III)I"⟩, prog_1_method_7_code, 7, (some .int), m_X11_row) := ⟨List.mem_of_getElem? (i := 548) (by decide +kernel), by decide +kernel, by decide +kernel, by decide +kernel, by decide +kernel⟩
set_option maxRecDepth 100000 in
theorem k_X11_of : a_Mok (⟨"SoldWeather", "of", "(II)I"⟩, prog_1_method_8_code, 4, (some .int), m_X11_of) := ⟨List.mem_of_getElem? (i := 560) (by decide +kernel), by decide +kernel, by decide +kernel, by decide +kernel, by decide +kernel⟩
set_option maxRecDepth 100000 in
theorem k_X11_go : a_Mok (⟨"SoldWeather", "go", "()I"⟩, prog_1_method_9_code, 1, (some .int), m_X11_go) := ⟨List.mem_of_getElem? (i := 643) (by decide +kernel), by decide +kernel, by decide +kernel, by decide +kernel, by decide +kernel⟩
set_option maxRecDepth 100000 in
theorem k_X11_sold : a_Mok (⟨"SoldWeather", "sold", "(I)I"⟩, prog_1_method_10_code, 3, (some .int), m_X11_sold) := ⟨List.mem_of_getElem? (i := 686) (by decide +kernel), by decide +kernel, by decide +kernel, by decide +kernel, by decide +kernel⟩
set_option maxRecDepth 100000 in
theorem k_X11_run : a_Mok (⟨"SoldWeather", "run", "(II)I"⟩, prog_1_method_11_code, 8, (some .int), m_X11_run) := ⟨List.mem_of_getElem? (i := 696) (by decide +kernel), by decide +kernel, by decide +kernel, by decide +kernel, by decide +kernel⟩
set_option maxRecDepth 100000 in
theorem k_X11_best : a_Mok (⟨"SoldWeather", "best", "(II)I"⟩, prog_1_method_12_code, 5, (some .int), m_X11_best) := ⟨List.mem_of_getElem? (i := 709) (by decide +kernel), by decide +kernel, by decide +kernel, by decide +kernel, by decide +kernel⟩
set_option maxRecDepth 100000 in
theorem k_X11_truly : a_Mok (⟨"SoldWeather", "truly", "(II)I"⟩, prog_1_method_13_code, 11, (some .int), m_X11_truly) := ⟨List.mem_of_getElem? (i := 717) (by decide +kernel), by decide +kernel, by decide +kernel, by decide +kernel, by decide +kernel⟩
set_option maxRecDepth 100000 in
theorem k_X11_harm : a_Mok (⟨"SoldWeather", "harm", "(I)I"⟩, prog_1_method_14_code, 2, (some .int), m_X11_harm) := ⟨List.mem_of_getElem? (i := 732) (by decide +kernel), by decide +kernel, by decide +kernel, by decide +kernel, by decide +kernel⟩
set_option maxRecDepth 100000 in
theorem k_X11_leagues : a_Mok (⟨"SoldWeather", "leagues", "(I)I"⟩, prog_1_method_15_code, 6, (some .int), m_X11_leagues) := ⟨List.mem_of_getElem? (i := 737) (by decide +kernel), by decide +kernel, by decide +kernel, by decide +kernel, by decide +kernel⟩
set_option maxRecDepth 100000 in
theorem k_X11_beside : a_Mok (⟨"SoldWeather", "beside", "(I)I"⟩, prog_1_method_16_code, 3, (some .int), m_X11_beside) := ⟨List.mem_of_getElem? (i := 745) (by decide +kernel), by decide +kernel, by decide +kernel, by decide +kernel, by decide +kernel⟩
set_option maxRecDepth 100000 in
theorem k_X11_spill : a_Mok (⟨"SoldWeather", "spill", "(II)I"⟩, prog_1_method_17_code, 5, (some .int), m_X11_spill) := ⟨List.mem_of_getElem? (i := 749) (by decide +kernel), by decide +kernel, by decide +kernel, by decide +kernel, by decide +kernel⟩
set_option maxRecDepth 100000 in
theorem k_X11_poor : a_Mok (⟨"SoldWeather", "poor", "(II)I"⟩, prog_1_method_18_code, 5, (some .int), m_X11_poor) := ⟨List.mem_of_getElem? (i := 756) (by decide +kernel), by decide +kernel, by decide +kernel, by decide +kernel, by decide +kernel⟩
set_option maxRecDepth 100000 in
theorem k_X11_worse : a_Mok (⟨"SoldWeather", "worse", "(I)J"⟩, prog_1_method_19_code, 5, (some .long), m_X11_worse) := ⟨List.mem_of_getElem? (i := 767) (by decide +kernel), by decide +kernel, by decide +kernel, by decide +kernel, by decide +kernel⟩
set_option maxRecDepth 100000 in
theorem k_X11_book : a_Mok (⟨"SoldWeather", "book", "(I)I"⟩, prog_1_method_20_code, 3, (some .int), m_X11_book) := ⟨List.mem_of_getElem? (i := 773) (by decide +kernel), by decide +kernel, by decide +kernel, by decide +kernel, by decide +kernel⟩
set_option maxRecDepth 100000 in
theorem k_X11_looked : a_Mok (⟨"SoldWeather", "looked", "()I"⟩, prog_1_method_21_code, 2, (some .int), m_X11_looked) := ⟨List.mem_of_getElem? (i := 777) (by decide +kernel), by decide +kernel, by decide +kernel, by decide +kernel, by decide +kernel⟩
end
section
/-! 15.chk, piece 4 -/
set_option maxRecDepth 100000 in
theorem k_X11_act : a_Mok (⟨"SoldWeather", "act", "(III)I"⟩, prog_1_method_22_code, 5, (some .int), m_X11_act) := ⟨List.mem_of_getElem? (i := 781) (by decide +kernel), by decide +kernel, by decide +kernel, by decide +kernel, by decide +kernel⟩
set_option maxRecDepth 100000 in
theorem k_X11_trace : a_Mok (⟨"SoldWeather", "trace", "(I)I"⟩, prog_1_method_23_code, 2, (some .int), m_X11_trace) := ⟨List.mem_of_getElem? (i := 858) (by decide +kernel), by decide +kernel, by decide +kernel, by decide +kernel, by decide +kernel⟩
set_option maxRecDepth 100000 in
theorem k_X11_as : a_Mok (⟨"SoldWeather", "as", "(II)I"⟩, prog_1_method_24_code, 4, (some .int), m_X11_as) := ⟨List.mem_of_getElem? (i := 862) (by decide +kernel), by decide +kernel, by decide +kernel, by decide +kernel, by decide +kernel⟩
set_option maxRecDepth 100000 in
theorem k_X11_image : a_Mok (⟨"SoldWeather", "image", "()I"⟩, prog_1_method_25_code, 1, (some .int), m_X11_image) := ⟨List.mem_of_getElem? (i := 869) (by decide +kernel), by decide +kernel, by decide +kernel, by decide +kernel, by decide +kernel⟩
set_option maxRecDepth 100000 in
theorem k_X11_undo : a_Mok (⟨"SoldWeather", "undo", "()I"⟩, prog_1_method_26_code, 1, (some .int), m_X11_undo) := ⟨List.mem_of_getElem? (i := 878) (by decide +kernel), by decide +kernel, by decide +kernel, by decide +kernel, by decide +kernel⟩
set_option maxRecDepth 100000 in
theorem k_X11_count : a_Mok (⟨"SoldWeather", "count", "(I)I"⟩, prog_1_method_27_code, 2, (some .int), m_X11_count) := ⟨List.mem_of_getElem? (i := 882) (by decide +kernel), by decide +kernel, by decide +kernel, by decide +kernel, by decide +kernel⟩
set_option maxRecDepth 100000 in
theorem k_X11_isWeather : a_Mok (⟨"SoldWeather", "isWeather", "(I)Z"⟩, prog_1_method_28_code, 1, (some .boolean), m_X11_isWeather) := ⟨List.mem_of_getElem? (i := 436) (by decide +kernel), by decide +kernel, by decide +kernel, by decide +kernel, by decide +kernel⟩
set_option maxRecDepth 100000 in
theorem k_X11_isKind : a_Mok (⟨"SoldWeather", "isKind", "(I)Z"⟩, prog_1_method_29_code, 1, (some .boolean), m_X11_isKind) := ⟨List.mem_of_getElem? (i := 443) (by decide +kernel), by decide +kernel, by decide +kernel, by decide +kernel, by decide +kernel⟩
set_option maxRecDepth 100000 in
theorem k_X11_isRun : a_Mok (⟨"SoldWeather", "isRun", "(I)Z"⟩, prog_1_method_30_code, 1, (some .boolean), m_X11_isRun) := ⟨List.mem_of_getElem? (i := 752) (by decide +kernel), by decide +kernel, by decide +kernel, by decide +kernel, by decide +kernel⟩
set_option maxRecDepth 100000 in
theorem k_X11_grown : a_Mok (⟨"SoldWeather", "grown", "([III)I"⟩, prog_1_method_31_code, 3, (some .int), m_X11_grown) := ⟨List.mem_of_getElem? (i := 433) (by decide +kernel), by decide +kernel, by decide +kernel, by decide +kernel, by decide +kernel⟩
set_option maxRecDepth 100000 in
theorem k_X11_ofKind : a_Mok (⟨"SoldWeather", "ofKind", "(III)LSoldWeather$Bidder;"⟩, prog_1_method_32_code, 3, (some (.object "SoldWeather$Bidder")), m_X11_ofKind) := ⟨List.mem_of_getElem? (i := 446) (by decide +kernel), by decide +kernel, by decide +kernel, by decide +kernel, by decide +kernel⟩
set_option maxRecDepth 100000 in
theorem k_X11_isUnder : a_Mok (⟨"SoldWeather", "isUnder", "(LSoldWeather$Bidder;I)Z"⟩, prog_1_method_33_code, 2, (some .boolean), m_X11_isUnder) := ⟨List.mem_of_getElem? (i := 865) (by decide +kernel), by decide +kernel, by decide +kernel, by decide +kernel, by decide +kernel⟩
set_option maxRecDepth 100000 in
theorem k_X11_planDay : a_Mok (⟨"SoldWeather", "planDay", "(II)V"⟩, prog_1_method_34_code, 7, none, m_X11_planDay) := ⟨List.mem_of_getElem? (i := 712) (by decide +kernel), by decide +kernel, by decide +kernel, by decide +kernel, by decide +kernel⟩
set_option maxRecDepth 100000 in
theorem k_X11_tallyWorth : a_Mok (⟨"SoldWeather", "tallyWorth", "()I"⟩, prog_1_method_35_code, 4, (some .int), m_X11_tallyWorth) := ⟨List.mem_of_getElem? (i := 759) (by decide +kernel), by decide +kernel, by decide +kernel, by decide +kernel, by decide +kernel⟩
set_option maxRecDepth 100000 in
theorem k_X11_tallySpan : a_Mok (⟨"SoldWeather", "tallySpan", "()I"⟩, prog_1_method_36_code, 4, (some .int), m_X11_tallySpan) := ⟨List.mem_of_getElem? (i := 762) (by decide +kernel), by decide +kernel, by decide +kernel, by decide +kernel, by decide +kernel⟩
set_option maxRecDepth 100000 in
theorem k_X12_init : a_Mok (⟨"SoldWeatherModel", "<init>", "()V"⟩, prog_14_method_1_code, 2, none, m_X12_init) := ⟨List.mem_of_getElem? (i := 887) (by decide +kernel), by decide +kernel, by decide +kernel, by decide +kernel, by decide +kernel⟩
set_option maxRecDepth 100000 in
theorem k_X12_in : a_Mok (⟨"SoldWeatherModel", "in", "(III)Z"⟩, prog_14_method_3_code, 3, (some .boolean), m_X12_in) := ⟨List.mem_of_getElem? (i := 971) (by decide +kernel), by decide +kernel, by decide +kernel, by decide +kernel, by decide +kernel⟩
set_option maxRecDepth 100000 in
theorem k_X12_isWeather : a_Mok (⟨"SoldWeatherModel", "isWeather", "(I)Z"⟩, prog_14_method_4_code, 1, (some .boolean), m_X12_isWeather) := ⟨List.mem_of_getElem? (i := 1033) (by decide +kernel), by decide +kernel, by decide +kernel, by decide +kernel, by decide +kernel⟩
set_option maxRecDepth 100000 in
theorem k_X12_isPerson : a_Mok (⟨"SoldWeatherModel", "isPerson", "(I)Z"⟩, prog_14_method_5_code, 2, (some .boolean), m_X12_isPerson) := ⟨List.mem_of_getElem? (i := 1044) (by decide +kernel), by decide +kernel, by decide +kernel, by decide +kernel, by decide +kernel⟩
set_option maxRecDepth 100000 in
theorem k_X12_keeps : a_Mok (⟨"SoldWeatherModel", "keeps", "()V"⟩, prog_14_method_6_code, 2, none, m_X12_keeps) := ⟨List.mem_of_getElem? (i := 1102) (by decide +kernel), by decide +kernel, by decide +kernel, by decide +kernel, by decide +kernel⟩
set_option maxRecDepth 100000 in
theorem k_X12_goesBack : a_Mok (⟨"SoldWeatherModel", "goesBack", "()V"⟩, prog_14_method_7_code, 2, none, m_X12_goesBack) := ⟨List.mem_of_getElem? (i := 1105) (by decide +kernel), by decide +kernel, by decide +kernel, by decide +kernel, by decide +kernel⟩
set_option maxRecDepth 100000 in
theorem k_X12_feed : a_Mok (⟨"SoldWeatherModel", "feed", "(I)I"⟩, prog_14_method_8_code, 2, (some .int), m_X12_feed) := ⟨List.mem_of_getElem? (i := 968) (by decide +kernel), by decide +kernel, by decide +kernel, by decide +kernel, by decide +kernel⟩
set_option maxRecDepth 100000 in
theorem k_X12_here : a_Mok (⟨"SoldWeatherModel", "here", "()I"⟩, prog_14_method_9_code, 1, (some .int), m_X12_here) := ⟨List.mem_of_getElem? (i := 981) (by decide +kernel), by decide +kernel, by decide +kernel, by decide +kernel, by decide +kernel⟩
set_option maxRecDepth 100000 in
theorem k_X12_must : a_Mok (⟨"SoldWeatherModel", "must", "(I)V"⟩, prog_14_method_10_code, 2, none, m_X12_must) := ⟨List.mem_of_getElem? (i := 992) (by decide +kernel), by decide +kernel, by decide +kernel, by decide +kernel, by decide +kernel⟩
end
section
/-! 15.chk, piece 5 -/
set_option maxRecDepth 100000 in
theorem k_X12_spells : a_Mok (⟨"SoldWeatherModel", "spells", "(Ljava/lang/String;)V"⟩, prog_14_method_11_code, 3, none, m_X12_spells) := ⟨List.mem_of_getElem? (i := 987) (by decide +kernel), by decide +kernel, by decide +kernel, by decide +kernel, by decide +kernel⟩
set_option maxRecDepth 100000 in
theorem k_X12_figures : a_Mok (⟨"SoldWeatherModel", "figures", "()I"⟩, prog_14_method_12_code, 3, (some .int), m_X12_figures) := ⟨List.mem_of_getElem? (i := 995) (by decide +kernel), by decide +kernel, by decide +kernel, by decide +kernel, by decide +kernel⟩
set_option maxRecDepth 100000 in
theorem k_X12_among : a_Mok (⟨"SoldWeatherModel", "among", "(Ljava/lang/String;)I"⟩, prog_14_method_13_code, 3, (some .int), m_X12_among) := ⟨List.mem_of_getElem? (i := 1010) (by decide +kernel), by decide +kernel, by decide +kernel, by decide +kernel, by decide +kernel⟩
set_option maxRecDepth 100000 in
theorem k_X12_emits : a_Mok (⟨"SoldWeatherModel", "emits", "(I)V"⟩, prog_14_method_14_code, 2, none, m_X12_emits) := ⟨List.mem_of_getElem? (i := 1007) (by decide +kernel), by decide +kernel, by decide +kernel, by decide +kernel, by decide +kernel⟩
set_option maxRecDepth 100000 in
theorem k_X12_factor : a_Mok (⟨"SoldWeatherModel", "factor", "()V"⟩, prog_14_method_15_code, 5, none, m_X12_factor) := ⟨List.mem_of_getElem? (i := 1004) (by decide +kernel), by decide +kernel, by decide +kernel, by decide +kernel, by decide +kernel⟩
set_option maxRecDepth 100000 in
theorem k_X12_every : a_Mok (⟨"SoldWeatherModel", "every", "()V"⟩, prog_14_method_16_code, 1, none, m_X12_every) := ⟨List.mem_of_getElem? (i := 1001) (by decide +kernel), by decide +kernel, by decide +kernel, by decide +kernel, by decide +kernel⟩
set_option maxRecDepth 100000 in
theorem k_X12_some : a_Mok (⟨"SoldWeatherModel", "some", "()V"⟩, prog_14_method_17_code, 1, none, m_X12_some) := ⟨List.mem_of_getElem? (i := 998) (by decide +kernel), by decide +kernel, by decide +kernel, by decide +kernel, by decide +kernel⟩
set_option maxRecDepth 100000 in
theorem k_X12_much : a_Mok (⟨"SoldWeatherModel", "much", "(ILjava/lang/String;)V"⟩, prog_14_method_18_code, 4, none, m_X12_much) := ⟨List.mem_of_getElem? (i := 984) (by decide +kernel), by decide +kernel, by decide +kernel, by decide +kernel, by decide +kernel⟩
set_option maxRecDepth 100000 in
theorem k_X12_ruleHere : a_Mok (⟨"SoldWeatherModel", "ruleHere", "()V"⟩, prog_14_method_19_code, 1, none, m_X12_ruleHere) := ⟨List.mem_of_getElem? (i := 1013) (by decide +kernel), by decide +kernel, by decide +kernel, by decide +kernel, by decide +kernel⟩
set_option maxRecDepth 100000 in
theorem k_X12_giftHere : a_Mok (⟨"SoldWeatherModel", "giftHere", "()V"⟩, prog_14_method_20_code, 2, none, m_X12_giftHere) := ⟨List.mem_of_getElem? (i := 1016) (by decide +kernel), by decide +kernel, by decide +kernel, by decide +kernel, by decide +kernel⟩
set_option maxRecDepth 100000 in
theorem k_X12_clauseHere : a_Mok (⟨"SoldWeatherModel", "clauseHere", "()V"⟩, prog_14_method_21_code, 1, none, m_X12_clauseHere) := ⟨List.mem_of_getElem? (i := 978) (by decide +kernel), by decide +kernel, by decide +kernel, by decide +kernel, by decide +kernel⟩
set_option maxRecDepth 100000 in
theorem k_X12_valley : a_Mok (⟨"SoldWeatherModel", "valley", "()I"⟩, prog_14_method_22_code, 2, (some .int), m_X12_valley) := ⟨List.mem_of_getElem? (i := 975) (by decide +kernel), by decide +kernel, by decide +kernel, by decide +kernel, by decide +kernel⟩
set_option maxRecDepth 100000 in
theorem k_X12_tellsOf : a_Mok (⟨"SoldWeatherModel", "tellsOf", "(I)I"⟩, prog_14_method_23_code, 2, (some .int), m_X12_tellsOf) := ⟨List.mem_of_getElem? (i := 1023) (by decide +kernel), by decide +kernel, by decide +kernel, by decide +kernel, by decide +kernel⟩
set_option maxRecDepth 100000 in
theorem k_X12_worthOf : a_Mok (⟨"SoldWeatherModel", "worthOf", "(IIII)I"⟩, prog_14_method_24_code, 14, (some .int), m_X12_worthOf) := ⟨List.mem_of_getElem? (i := 1057) (by decide +kernel), by decide +kernel, by decide +kernel, by decide +kernel, by decide +kernel⟩
set_option maxRecDepth 100000 in
theorem k_X12_worthNow : a_Mok (⟨"SoldWeatherModel", "worthNow", "(II)I"⟩, prog_14_method_25_code, 3, (some .int), m_X12_worthNow) := ⟨List.mem_of_getElem? (i := 1054) (by decide +kernel), by decide +kernel, by decide +kernel, by decide +kernel, by decide +kernel⟩
set_option maxRecDepth 100000 in
theorem k_X12_worthToAll : a_Mok (⟨"SoldWeatherModel", "worthToAll", "(III)I"⟩, prog_14_method_26_code, 6, (some .int), m_X12_worthToAll) := ⟨List.mem_of_getElem? (i := 1085) (by decide +kernel), by decide +kernel, by decide +kernel, by decide +kernel, by decide +kernel⟩
set_option maxRecDepth 100000 in
theorem k_X12_fortuneNext : a_Mok (⟨"SoldWeatherModel", "fortuneNext", "()I"⟩, prog_14_method_27_code, 1, (some .int), m_X12_fortuneNext) := ⟨List.mem_of_getElem? (i := 1026) (by decide +kernel), by decide +kernel, by decide +kernel, by decide +kernel, by decide +kernel⟩
set_option maxRecDepth 100000 in
theorem k_X12_told : a_Mok (⟨"SoldWeatherModel", "told", "(I)I"⟩, prog_14_method_28_code, 2, (some .int), m_X12_told) := ⟨List.mem_of_getElem? (i := 1020) (by decide +kernel), by decide +kernel, by decide +kernel, by decide +kernel, by decide +kernel⟩
set_option maxRecDepth 100000 in
theorem k_X12_fortune : a_Mok (⟨"SoldWeatherModel", "fortune", "(I)I"⟩, prog_14_method_29_code, 2, (some .int), m_X12_fortune) := ⟨List.mem_of_getElem? (i := 1030) (by decide +kernel), by decide +kernel, by decide +kernel, by decide +kernel, by decide +kernel⟩
set_option maxRecDepth 100000 in
theorem k_X12_person : a_Mok (⟨"SoldWeatherModel", "person", "(III)I"⟩, prog_14_method_30_code, 6, (some .int), m_X12_person) := ⟨List.mem_of_getElem? (i := 1037) (by decide +kernel), by decide +kernel, by decide +kernel, by decide +kernel, by decide +kernel⟩
set_option maxRecDepth 100000 in
theorem k_X12_row : a_Mok (⟨"SoldWeatherModel", "row", "(III)I"⟩, prog_14_method_31_code, 5, (some .int), m_X12_row) := ⟨List.mem_of_getElem? (i := 1041) (by decide +kernel), by decide +kernel, by decide +kernel, by decide +kernel, by decide +kernel⟩
set_option maxRecDepth 100000 in
theorem k_X12_kept : a_Mok (⟨"SoldWeatherModel", "kept", "(II)I"⟩, prog_14_method_32_code, 3, (some .int), m_X12_kept) := ⟨List.mem_of_getElem? (i := 1060) (by decide +kernel), by decide +kernel, by decide +kernel, by decide +kernel, by decide +kernel⟩
set_option maxRecDepth 100000 in
theorem k_X12_league : a_Mok (⟨"SoldWeatherModel", "league", "(II)I"⟩, prog_14_method_33_code, 5, (some .int), m_X12_league) := ⟨List.mem_of_getElem? (i := 1063) (by decide +kernel), by decide +kernel, by decide +kernel, by decide +kernel, by decide +kernel⟩
set_option maxRecDepth 100000 in
theorem k_X12_ahead : a_Mok (⟨"SoldWeatherModel", "ahead", "(II)I"⟩, prog_14_method_34_code, 6, (some .int), m_X12_ahead) := ⟨List.mem_of_getElem? (i := 1066) (by decide +kernel), by decide +kernel, by decide +kernel, by decide +kernel, by decide +kernel⟩
end
section
/-! 15.chk, piece 6 -/
set_option maxRecDepth 100000 in
theorem k_X12_sharing : a_Mok (⟨"SoldWeatherModel", "sharing", "(II)I"⟩, prog_14_method_35_code, 5, (some .int), m_X12_sharing) := ⟨List.mem_of_getElem? (i := 1069) (by decide +kernel), by decide +kernel, by decide +kernel, by decide +kernel, by decide +kernel⟩
set_option maxRecDepth 100000 in
theorem k_X12_bidOf : a_Mok (⟨"SoldWeatherModel", "bidOf", "(II)I"⟩, prog_14_method_36_code, 4, (some .int), m_X12_bidOf) := ⟨List.mem_of_getElem? (i := 1051) (by decide +kernel), by decide +kernel, by decide +kernel, by decide +kernel, by decide +kernel⟩
set_option maxRecDepth 100000 in
theorem k_X12_of : a_Mok (⟨"SoldWeatherModel", "of", "(II)I"⟩, prog_14_method_37_code, 3, (some .int), m_X12_of) := ⟨List.mem_of_getElem? (i := 1048) (by decide +kernel), by decide +kernel, by decide +kernel, by decide +kernel, by decide +kernel⟩
set_option maxRecDepth 100000 in
theorem k_X12_takesBids : a_Mok (⟨"SoldWeatherModel", "takesBids", "()V"⟩, prog_14_method_38_code, 3, none, m_X12_takesBids) := ⟨List.mem_of_getElem? (i := 1079) (by decide +kernel), by decide +kernel, by decide +kernel, by decide +kernel, by decide +kernel⟩
set_option maxRecDepth 100000 in
theorem k_X12_sells : a_Mok (⟨"SoldWeatherModel", "sells", "()V"⟩, prog_14_method_39_code, 3, none, m_X12_sells) := ⟨List.mem_of_getElem? (i := 1082) (by decide +kernel), by decide +kernel, by decide +kernel, by decide +kernel, by decide +kernel⟩
set_option maxRecDepth 100000 in
theorem k_X12_harmOf : a_Mok (⟨"SoldWeatherModel", "harmOf", "(I)I"⟩, prog_14_method_40_code, 5, (some .int), m_X12_harmOf) := ⟨List.mem_of_getElem? (i := 1091) (by decide +kernel), by decide +kernel, by decide +kernel, by decide +kernel, by decide +kernel⟩
set_option maxRecDepth 100000 in
theorem k_X12_paysOf : a_Mok (⟨"SoldWeatherModel", "paysOf", "(I)I"⟩, prog_14_method_41_code, 6, (some .int), m_X12_paysOf) := ⟨List.mem_of_getElem? (i := 1088) (by decide +kernel), by decide +kernel, by decide +kernel, by decide +kernel, by decide +kernel⟩
set_option maxRecDepth 100000 in
theorem k_X12_gainOf : a_Mok (⟨"SoldWeatherModel", "gainOf", "(I)I"⟩, prog_14_method_42_code, 2, (some .int), m_X12_gainOf) := ⟨List.mem_of_getElem? (i := 1119) (by decide +kernel), by decide +kernel, by decide +kernel, by decide +kernel, by decide +kernel⟩
set_option maxRecDepth 100000 in
theorem k_X12_evening : a_Mok (⟨"SoldWeatherModel", "evening", "()V"⟩, prog_14_method_43_code, 4, none, m_X12_evening) := ⟨List.mem_of_getElem? (i := 1076) (by decide +kernel), by decide +kernel, by decide +kernel, by decide +kernel, by decide +kernel⟩
set_option maxRecDepth 100000 in
theorem k_X12_go : a_Mok (⟨"SoldWeatherModel", "go", "()I"⟩, prog_14_method_44_code, 1, (some .int), m_X12_go) := ⟨List.mem_of_getElem? (i := 1073) (by decide +kernel), by decide +kernel, by decide +kernel, by decide +kernel, by decide +kernel⟩
set_option maxRecDepth 100000 in
theorem k_X12_sold : a_Mok (⟨"SoldWeatherModel", "sold", "(I)I"⟩, prog_14_method_45_code, 2, (some .int), m_X12_sold) := ⟨List.mem_of_getElem? (i := 1095) (by decide +kernel), by decide +kernel, by decide +kernel, by decide +kernel, by decide +kernel⟩
set_option maxRecDepth 100000 in
theorem k_X12_run : a_Mok (⟨"SoldWeatherModel", "run", "(II)I"⟩, prog_14_method_46_code, 4, (some .int), m_X12_run) := ⟨List.mem_of_getElem? (i := 1099) (by decide +kernel), by decide +kernel, by decide +kernel, by decide +kernel, by decide +kernel⟩
set_option maxRecDepth 100000 in
theorem k_X12_withNext : a_Mok (⟨"SoldWeatherModel", "withNext", "(III)I"⟩, prog_14_method_47_code, 4, (some .int), m_X12_withNext) := ⟨List.mem_of_getElem? (i := 1112) (by decide +kernel), by decide +kernel, by decide +kernel, by decide +kernel, by decide +kernel⟩
set_option maxRecDepth 100000 in
theorem k_X12_best : a_Mok (⟨"SoldWeatherModel", "best", "(II)I"⟩, prog_14_method_48_code, 8, (some .int), m_X12_best) := ⟨List.mem_of_getElem? (i := 1109) (by decide +kernel), by decide +kernel, by decide +kernel, by decide +kernel, by decide +kernel⟩
set_option maxRecDepth 100000 in
theorem k_X12_truly : a_Mok (⟨"SoldWeatherModel", "truly", "(II)I"⟩, prog_14_method_49_code, 11, (some .int), m_X12_truly) := ⟨List.mem_of_getElem? (i := 1116) (by decide +kernel), by decide +kernel, by decide +kernel, by decide +kernel, by decide +kernel⟩
set_option maxRecDepth 100000 in
theorem k_X12_harm : a_Mok (⟨"SoldWeatherModel", "harm", "(I)I"⟩, prog_14_method_50_code, 2, (some .int), m_X12_harm) := ⟨List.mem_of_getElem? (i := 1123) (by decide +kernel), by decide +kernel, by decide +kernel, by decide +kernel, by decide +kernel⟩
set_option maxRecDepth 100000 in
theorem k_X12_leagues : a_Mok (⟨"SoldWeatherModel", "leagues", "(I)I"⟩, prog_14_method_51_code, 9, (some .int), m_X12_leagues) := ⟨List.mem_of_getElem? (i := 1127) (by decide +kernel), by decide +kernel, by decide +kernel, by decide +kernel, by decide +kernel⟩
set_option maxRecDepth 100000 in
theorem k_X12_beside : a_Mok (⟨"SoldWeatherModel", "beside", "(I)I"⟩, prog_14_method_52_code, 2, (some .int), m_X12_beside) := ⟨List.mem_of_getElem? (i := 1131) (by decide +kernel), by decide +kernel, by decide +kernel, by decide +kernel, by decide +kernel⟩
set_option maxRecDepth 100000 in
theorem k_X12_spill : a_Mok (⟨"SoldWeatherModel", "spill", "(II)I"⟩, prog_14_method_53_code, 5, (some .int), m_X12_spill) := ⟨List.mem_of_getElem? (i := 1135) (by decide +kernel), by decide +kernel, by decide +kernel, by decide +kernel, by decide +kernel⟩
set_option maxRecDepth 100000 in
theorem k_X12_poor : a_Mok (⟨"SoldWeatherModel", "poor", "(II)I"⟩, prog_14_method_54_code, 9, (some .int), m_X12_poor) := ⟨List.mem_of_getElem? (i := 1139) (by decide +kernel), by decide +kernel, by decide +kernel, by decide +kernel, by decide +kernel⟩
set_option maxRecDepth 100000 in
theorem k_X12_worse : a_Mok (⟨"SoldWeatherModel", "worse", "(I)J"⟩, prog_14_method_55_code, 8, (some .long), m_X12_worse) := ⟨List.mem_of_getElem? (i := 1143) (by decide +kernel), by decide +kernel, by decide +kernel, by decide +kernel, by decide +kernel⟩
set_option maxRecDepth 100000 in
theorem k_X12_book : a_Mok (⟨"SoldWeatherModel", "book", "(I)I"⟩, prog_14_method_56_code, 2, (some .int), m_X12_book) := ⟨List.mem_of_getElem? (i := 1148) (by decide +kernel), by decide +kernel, by decide +kernel, by decide +kernel, by decide +kernel⟩
set_option maxRecDepth 100000 in
theorem k_X12_looked : a_Mok (⟨"SoldWeatherModel", "looked", "()I"⟩, prog_14_method_57_code, 3, (some .int), m_X12_looked) := ⟨List.mem_of_getElem? (i := 1152) (by decide +kernel), by decide +kernel, by decide +kernel, by decide +kernel, by decide +kernel⟩
set_option maxRecDepth 100000 in
theorem k_X12_ranBody : a_Mok (⟨"SoldWeatherModel", "ranBody", "(I)V"⟩, prog_14_method_58_code, 2, none, m_X12_ranBody) := ⟨List.mem_of_getElem? (i := 1165) (by decide +kernel), by decide +kernel, by decide +kernel, by decide +kernel, by decide +kernel⟩
end
section
/-! 15.chk, piece 7 -/
set_option maxRecDepth 100000 in
theorem k_X12_isUnder : a_Mok (⟨"SoldWeatherModel", "isUnder", "(II)Z"⟩, prog_14_method_59_code, 2, (some .boolean), m_X12_isUnder) := ⟨List.mem_of_getElem? (i := 1162) (by decide +kernel), by decide +kernel, by decide +kernel, by decide +kernel, by decide +kernel⟩
set_option maxRecDepth 100000 in
theorem k_X12_plainBids : a_Mok (⟨"SoldWeatherModel", "plainBids", "(I)I"⟩, prog_14_method_60_code, 2, (some .int), m_X12_plainBids) := ⟨List.mem_of_getElem? (i := 1168) (by decide +kernel), by decide +kernel, by decide +kernel, by decide +kernel, by decide +kernel⟩
set_option maxRecDepth 100000 in
theorem k_X12_bidsActs : a_Mok (⟨"SoldWeatherModel", "bidsActs", "(I)I"⟩, prog_14_method_61_code, 2, (some .int), m_X12_bidsActs) := ⟨List.mem_of_getElem? (i := 1159) (by decide +kernel), by decide +kernel, by decide +kernel, by decide +kernel, by decide +kernel⟩
set_option maxRecDepth 100000 in
theorem k_X12_plainPays : a_Mok (⟨"SoldWeatherModel", "plainPays", "(I)I"⟩, prog_14_method_62_code, 2, (some .int), m_X12_plainPays) := ⟨List.mem_of_getElem? (i := 1177) (by decide +kernel), by decide +kernel, by decide +kernel, by decide +kernel, by decide +kernel⟩
set_option maxRecDepth 100000 in
theorem k_X12_leaguePays : a_Mok (⟨"SoldWeatherModel", "leaguePays", "(I)I"⟩, prog_14_method_63_code, 2, (some .int), m_X12_leaguePays) := ⟨List.mem_of_getElem? (i := 1174) (by decide +kernel), by decide +kernel, by decide +kernel, by decide +kernel, by decide +kernel⟩
set_option maxRecDepth 100000 in
theorem k_X12_paysActs : a_Mok (⟨"SoldWeatherModel", "paysActs", "(I)I"⟩, prog_14_method_64_code, 2, (some .int), m_X12_paysActs) := ⟨List.mem_of_getElem? (i := 1171) (by decide +kernel), by decide +kernel, by decide +kernel, by decide +kernel, by decide +kernel⟩
set_option maxRecDepth 100000 in
theorem k_X12_plainTells : a_Mok (⟨"SoldWeatherModel", "plainTells", "(I)I"⟩, prog_14_method_65_code, 2, (some .int), m_X12_plainTells) := ⟨List.mem_of_getElem? (i := 1183) (by decide +kernel), by decide +kernel, by decide +kernel, by decide +kernel, by decide +kernel⟩
set_option maxRecDepth 100000 in
theorem k_X12_tellsActs : a_Mok (⟨"SoldWeatherModel", "tellsActs", "(I)I"⟩, prog_14_method_66_code, 3, (some .int), m_X12_tellsActs) := ⟨List.mem_of_getElem? (i := 1180) (by decide +kernel), by decide +kernel, by decide +kernel, by decide +kernel, by decide +kernel⟩
set_option maxRecDepth 100000 in
theorem k_X12_act : a_Mok (⟨"SoldWeatherModel", "act", "(III)I"⟩, prog_14_method_67_code, 4, (some .int), m_X12_act) := ⟨List.mem_of_getElem? (i := 1156) (by decide +kernel), by decide +kernel, by decide +kernel, by decide +kernel, by decide +kernel⟩
set_option maxRecDepth 100000 in
theorem k_X12_trace : a_Mok (⟨"SoldWeatherModel", "trace", "(I)I"⟩, prog_14_method_68_code, 2, (some .int), m_X12_trace) := ⟨List.mem_of_getElem? (i := 1187) (by decide +kernel), by decide +kernel, by decide +kernel, by decide +kernel, by decide +kernel⟩
set_option maxRecDepth 100000 in
theorem k_X12_as : a_Mok (⟨"SoldWeatherModel", "as", "(II)I"⟩, prog_14_method_69_code, 3, (some .int), m_X12_as) := ⟨List.mem_of_getElem? (i := 1191) (by decide +kernel), by decide +kernel, by decide +kernel, by decide +kernel, by decide +kernel⟩
set_option maxRecDepth 100000 in
theorem k_X12_image : a_Mok (⟨"SoldWeatherModel", "image", "()I"⟩, prog_14_method_70_code, 2, (some .int), m_X12_image) := ⟨List.mem_of_getElem? (i := 1195) (by decide +kernel), by decide +kernel, by decide +kernel, by decide +kernel, by decide +kernel⟩
set_option maxRecDepth 100000 in
theorem k_X12_undo : a_Mok (⟨"SoldWeatherModel", "undo", "()I"⟩, prog_14_method_71_code, 2, (some .int), m_X12_undo) := ⟨List.mem_of_getElem? (i := 1199) (by decide +kernel), by decide +kernel, by decide +kernel, by decide +kernel, by decide +kernel⟩
set_option maxRecDepth 100000 in
theorem k_X12_count : a_Mok (⟨"SoldWeatherModel", "count", "(I)I"⟩, prog_14_method_72_code, 2, (some .int), m_X12_count) := ⟨List.mem_of_getElem? (i := 1203) (by decide +kernel), by decide +kernel, by decide +kernel, by decide +kernel, by decide +kernel⟩
set_option maxRecDepth 100000 in
theorem k_J0_length_8abf5 : a_Mok (⟨"java/lang/String", "length", "()I"⟩, prog_16_method_54_code, 1, (some .int), m_J0_length_8abf5) := ⟨List.mem_of_getElem? (i := 312) (by decide +kernel), by decide +kernel, by decide +kernel, by decide +kernel, by decide +kernel⟩
set_option maxRecDepth 100000 in
theorem k_J0_charAt_5068e : a_Mok (⟨"java/lang/String", "charAt", "(I)C"⟩, prog_16_method_56_code, 2, (some .char), m_J0_charAt_5068e) := ⟨List.mem_of_getElem? (i := 321) (by decide +kernel), by decide +kernel, by decide +kernel, by decide +kernel, by decide +kernel⟩
set_option maxRecDepth 100000 in
theorem k_J0_coder_7d493 : a_Mok (⟨"java/lang/String", "coder", "()B"⟩, prog_16_method_152_code, 1, (some .byte), m_J0_coder_7d493) := ⟨List.mem_of_getElem? (i := 316) (by decide +kernel), by decide +kernel, by decide +kernel, by decide +kernel, by decide +kernel⟩
set_option maxRecDepth 100000 in
theorem k_J0_isLatin1_aae02 : a_Mok (⟨"java/lang/String", "isLatin1", "()Z"⟩, prog_16_method_154_code, 1, (some .boolean), m_J0_isLatin1_aae02) := ⟨List.mem_of_getElem? (i := 325) (by decide +kernel), by decide +kernel, by decide +kernel, by decide +kernel, by decide +kernel⟩
set_option maxRecDepth 100000 in
theorem k_J0_checkIndex_df160 : a_Mok (⟨"java/lang/String", "checkIndex", "(II)V"⟩, prog_16_method_155_code, 2, none, m_J0_checkIndex_df160) := ⟨List.mem_of_getElem? (i := 331) (by decide +kernel), by decide +kernel, by decide +kernel, by decide +kernel, by decide +kernel⟩
set_option maxRecDepth 100000 in
theorem k_J1_charAt_3b067 : a_Mok (⟨"java/lang/StringLatin1", "charAt", "([BI)C"⟩, prog_17_method_2_code, 2, (some .char), m_J1_charAt_3b067) := ⟨List.mem_of_getElem? (i := 328) (by decide +kernel), by decide +kernel, by decide +kernel, by decide +kernel, by decide +kernel⟩
set_option maxRecDepth 100000 in
theorem k_J3_checkIndex_8e157 : a_Mok (⟨"jdk/internal/util/Preconditions", "checkIndex", "(IILjava/util/function/BiFunction;)I"⟩, prog_20_method_11_code, 3, (some .int), m_J3_checkIndex_8e157) := ⟨List.mem_of_getElem? (i := 335) (by decide +kernel), by decide +kernel, by decide +kernel, by decide +kernel, by decide +kernel⟩
end
section
/-! 15.law: the law's rows, piece 0 -/
set_option maxRecDepth 100000 in
theorem k_law0 : (((m_L_law.zipIdx).drop 0).take 40).all (fun r => a_rowok x.cls (x.name == "<init>") a_P a_cl a_TB "SoldWeather$Bidder" a_NC a_SR (a_sv .null) code ret m_L_law r.2 r.1) = true := by decide +kernel
end
section
/-! 15.law: the law's rows, piece 1 -/
set_option maxRecDepth 100000 in
theorem k_law1 : (((m_L_law.zipIdx).drop 40).take 40).all (fun r => a_rowok x.cls (x.name == "<init>") a_P a_cl a_TB "SoldWeather$Bidder" a_NC a_SR (a_sv .null) code ret m_L_law r.2 r.1) = true := by decide +kernel
end
section
/-! 15.law: the law's rows, piece 2 -/
set_option maxRecDepth 100000 in
theorem k_law2 : (((m_L_law.zipIdx).drop 80).take 40).all (fun r => a_rowok x.cls (x.name == "<init>") a_P a_cl a_TB "SoldWeather$Bidder" a_NC a_SR (a_sv .null) code ret m_L_law r.2 r.1) = true := by decide +kernel
end
section
/-! 15.law: the law's rows, piece 3 -/
set_option maxRecDepth 100000 in
theorem k_law3 : (((m_L_law.zipIdx).drop 120).take 40).all (fun r => a_rowok x.cls (x.name == "<init>") a_P a_cl a_TB "SoldWeather$Bidder" a_NC a_SR (a_sv .null) code ret m_L_law r.2 r.1) = true := by decide +kernel
end
section
/-! 15.law: the law's rows, piece 4 -/
set_option maxRecDepth 100000 in
theorem k_law4 : (((m_L_law.zipIdx).drop 160).take 40).all (fun r => a_rowok x.cls (x.name == "<init>") a_P a_cl a_TB "SoldWeather$Bidder" a_NC a_SR (a_sv .null) code ret m_L_law r.2 r.1) = true := by decide +kernel
end
section
/-! 15.law: the law's rows, piece 5 -/
set_option maxRecDepth 100000 in
theorem k_law5 : (((m_L_law.zipIdx).drop 200).take 40).all (fun r => a_rowok x.cls (x.name == "<init>") a_P a_cl a_TB "SoldWeather$Bidder" a_NC a_SR (a_sv .null) code ret m_L_law r.2 r.1) = true := by decide +kernel
end
section
/-! 15.law: the law's rows, piece 6 -/
set_option maxRecDepth 100000 in
theorem k_law6 : (((m_L_law.zipIdx).drop 240).take 40).all (fun r => a_rowok x.cls (x.name == "<init>") a_P a_cl a_TB "SoldWeather$Bidder" a_NC a_SR (a_sv .null) code ret m_L_law r.2 r.1) = true := by decide +kernel
end
section
/-! 15.law: the law's rows, piece 7 -/
set_option maxRecDepth 100000 in
theorem k_law7 : (((m_L_law.zipIdx).drop 280).take 40).all (fun r => a_rowok x.cls (x.name == "<init>") a_P a_cl a_TB "SoldWeather$Bidder" a_NC a_SR (a_sv .null) code ret m_L_law r.2 r.1) = true := by decide +kernel
end
section
/-! 15.law: the law's rows, piece 8 -/
set_option maxRecDepth 100000 in
theorem k_law8 : (((m_L_law.zipIdx).drop 320).take 40).all (fun r => a_rowok x.cls (x.name == "<init>") a_P a_cl a_TB "SoldWeather$Bidder" a_NC a_SR (a_sv .null) code ret m_L_law r.2 r.1) = true := by decide +kernel
end
section
/-! 15.law: the law's rows, piece 9 -/
set_option maxRecDepth 100000 in
theorem k_law9 : (((m_L_law.zipIdx).drop 360).take 40).all (fun r => a_rowok x.cls (x.name == "<init>") a_P a_cl a_TB "SoldWeather$Bidder" a_NC a_SR (a_sv .null) code ret m_L_law r.2 r.1) = true := by decide +kernel
end
section
/-! 15.law: the law's rows, piece 10 -/
set_option maxRecDepth 100000 in
theorem k_law10 : (((m_L_law.zipIdx).drop 400).take 40).all (fun r => a_rowok x.cls (x.name == "<init>") a_P a_cl a_TB "SoldWeather$Bidder" a_NC a_SR (a_sv .null) code ret m_L_law r.2 r.1) = true := by decide +kernel
end
section
/-! 15.law: the law's rows, piece 11 -/
set_option maxRecDepth 100000 in
theorem k_law11 : (((m_L_law.zipIdx).drop 440).take 40).all (fun r => a_rowok x.cls (x.name == "<init>") a_P a_cl a_TB "SoldWeather$Bidder" a_NC a_SR (a_sv .null) code ret m_L_law r.2 r.1) = true := by decide +kernel
end
section
/-! 15.law: the law's rows, piece 12 -/
set_option maxRecDepth 100000 in
theorem k_law12 : (((m_L_law.zipIdx).drop 480).take 40).all (fun r => a_rowok x.cls (x.name == "<init>") a_P a_cl a_TB "SoldWeather$Bidder" a_NC a_SR (a_sv .null) code ret m_L_law r.2 r.1) = true := by decide +kernel
end
section
/-! 15.law: the law's rows, piece 13 -/
set_option maxRecDepth 100000 in
theorem k_law13 : (((m_L_law.zipIdx).drop 520).take 40).all (fun r => a_rowok x.cls (x.name == "<init>") a_P a_cl a_TB "SoldWeather$Bidder" a_NC a_SR (a_sv .null) code ret m_L_law r.2 r.1) = true := by decide +kernel
end
section
/-! 15.lawz: the law's rows together -/
set_option maxRecDepth 100000 in
theorem k_law_cut : m_L_law.zipIdx = ((m_L_law.zipIdx).drop 0).take 40 ++ (((m_L_law.zipIdx).drop 40).take 40 ++ (((m_L_law.zipIdx).drop 80).take 40 ++ (((m_L_law.zipIdx).drop 120).take 40 ++ (((m_L_law.zipIdx).drop 160).take 40 ++ (((m_L_law.zipIdx).drop 200).take 40 ++ (((m_L_law.zipIdx).drop 240).take 40 ++ (((m_L_law.zipIdx).drop 280).take 40 ++ (((m_L_law.zipIdx).drop 320).take 40 ++ (((m_L_law.zipIdx).drop 360).take 40 ++ (((m_L_law.zipIdx).drop 400).take 40 ++ (((m_L_law.zipIdx).drop 440).take 40 ++ (((m_L_law.zipIdx).drop 480).take 40 ++ (((m_L_law.zipIdx).drop 520).take 40))))))))))))) := rfl
set_option maxRecDepth 100000 in
theorem k_L_law : a_Mok (x, code, maxLocals, ret, m_L_law) := by
  refine ⟨List.mem_filter.mpr ⟨List.mem_cons_self, rfl⟩, by decide +kernel, by decide +kernel, by decide +kernel, ?_⟩
  show (m_L_law.zipIdx).all _ = true
  rw [k_law_cut]
  simp only [List.all_append, Bool.and_eq_true]
  exact ⟨k_law0, ⟨k_law1, ⟨k_law2, ⟨k_law3, ⟨k_law4, ⟨k_law5, ⟨k_law6, ⟨k_law7, ⟨k_law8, ⟨k_law9, ⟨k_law10, ⟨k_law11, ⟨k_law12, k_law13⟩⟩⟩⟩⟩⟩⟩⟩⟩⟩⟩⟩⟩
end
section
/-! 16.prog2: the whole table is as bytes and words say; the words are good; the classes -/
theorem a_k5_fz (fz : Value) (own : String) (TB : List Jvm.Cond) (ins : Instr) (len : Nat) (aux : aX) : a_k5 own TB (a_sv fz) ins len aux = a_k5 own TB (a_sv .null) ins len aux := by
  unfold a_k5
  split
  case h_4 ix =>
    congr 1
    split
    · rename_i j p1 r
      match j with
      | 0 => rfl
      | 1 => rfl
      | j + 2 => rfl
    · rfl
  all_goals rfl
theorem a_rowok_fz (fz : Value) (own : String) (isI : Bool) (P : List aM) (cl : List vw_C) (TB : List Jvm.Cond) (E : String) (NC : List (Bool × String × String)) (SR : List (String × Nat × String × Nat)) (bs : ByteArray) (rt : Option FieldType) (rows : List aI) (i : Nat) (row : aI) : a_rowok own isI P cl TB E NC SR (a_sv fz) bs rt rows i row = a_rowok own isI P cl TB E NC SR (a_sv .null) bs rt rows i row := by
  obtain ⟨pc, ins, len, cst, aux⟩ := row
  simp only [a_rowok, a_k5_fz fz]
theorem a_all0 : ∀ q ∈ (a_P.drop 0).take 40, a_Mok q := List.forall_mem_cons.mpr ⟨k_X0_init, List.forall_mem_cons.mpr ⟨k_X0_wish, List.forall_mem_cons.mpr ⟨k_X0_tells, List.forall_mem_cons.mpr ⟨k_X1_init, List.forall_mem_cons.mpr ⟨k_X1_wish, List.forall_mem_cons.mpr ⟨k_X1_bids, List.forall_mem_cons.mpr ⟨k_X1_pays, List.forall_mem_cons.mpr ⟨k_X1_tells, List.forall_mem_cons.mpr ⟨k_X1_began, List.forall_mem_cons.mpr ⟨k_X2_init, List.forall_mem_cons.mpr ⟨k_X2_begin, List.forall_mem_cons.mpr ⟨k_X2_keep, List.forall_mem_cons.mpr ⟨k_X2_open, List.forall_mem_cons.mpr ⟨k_X2_ask, List.forall_mem_cons.mpr ⟨k_X2_putBid, List.forall_mem_cons.mpr ⟨k_X2_settle, List.forall_mem_cons.mpr ⟨k_X2_due, List.forall_mem_cons.mpr ⟨k_X2_harmBy, List.forall_mem_cons.mpr ⟨k_X2_rebate, List.forall_mem_cons.mpr ⟨k_X2_close, List.forall_mem_cons.mpr ⟨k_X2_fortuneNext, List.forall_mem_cons.mpr ⟨k_X2_purseOf, List.forall_mem_cons.mpr ⟨k_X2_bidOf, List.forall_mem_cons.mpr ⟨k_X2_bidsFor, List.forall_mem_cons.mpr ⟨k_X2_gain, List.forall_mem_cons.mpr ⟨k_X2_gainByLie, List.forall_mem_cons.mpr ⟨k_X2_gainTogether, List.forall_mem_cons.mpr ⟨k_X2_rowOf, List.forall_mem_cons.mpr ⟨k_X2_one, List.forall_mem_cons.mpr ⟨k_X2_worthTo, List.forall_mem_cons.mpr ⟨k_X2_worthToAll, List.forall_mem_cons.mpr ⟨k_X2_worthToAllOn, List.forall_mem_cons.mpr ⟨k_X2_worth, List.forall_mem_cons.mpr ⟨k_X3_init, List.forall_mem_cons.mpr ⟨k_X3_wish, List.forall_mem_cons.mpr ⟨k_X3_pays, List.forall_mem_cons.mpr ⟨k_X4_init, List.forall_mem_cons.mpr ⟨k_X4_wish, List.forall_mem_cons.mpr ⟨k_X4_bids, List.forall_mem_cons.mpr ⟨k_X5_init, fun _ h => absurd h List.not_mem_nil⟩⟩⟩⟩⟩⟩⟩⟩⟩⟩⟩⟩⟩⟩⟩⟩⟩⟩⟩⟩⟩⟩⟩⟩⟩⟩⟩⟩⟩⟩⟩⟩⟩⟩⟩⟩⟩⟩⟩⟩
theorem a_all1 : ∀ q ∈ (a_P.drop 40).take 40, a_Mok q := List.forall_mem_cons.mpr ⟨k_X5_faultOf, List.forall_mem_cons.mpr ⟨k_X5_made, List.forall_mem_cons.mpr ⟨k_X5_head, List.forall_mem_cons.mpr ⟨k_X5_step, List.forall_mem_cons.mpr ⟨k_X5_clause, List.forall_mem_cons.mpr ⟨k_X5_wordOf, List.forall_mem_cons.mpr ⟨k_X5_word, List.forall_mem_cons.mpr ⟨k_X5_ruleNumber, List.forall_mem_cons.mpr ⟨k_X5_number, List.forall_mem_cons.mpr ⟨k_X5_keepClause, List.forall_mem_cons.mpr ⟨k_X5_expression, List.forall_mem_cons.mpr ⟨k_X5_factor, List.forall_mem_cons.mpr ⟨k_X5_test, List.forall_mem_cons.mpr ⟨k_X5_askedBy, List.forall_mem_cons.mpr ⟨k_X5_put, List.forall_mem_cons.mpr ⟨k_X6_init, List.forall_mem_cons.mpr ⟨k_X6_wish, List.forall_mem_cons.mpr ⟨k_X6_tells, List.forall_mem_cons.mpr ⟨k_X7_init, List.forall_mem_cons.mpr ⟨k_X7_wish, List.forall_mem_cons.mpr ⟨k_X7_bids, List.forall_mem_cons.mpr ⟨k_X8_init, List.forall_mem_cons.mpr ⟨k_X8_wish, List.forall_mem_cons.mpr ⟨k_X8_pays, List.forall_mem_cons.mpr ⟨k_X9_init, List.forall_mem_cons.mpr ⟨k_X9_worth, List.forall_mem_cons.mpr ⟨k_X9_holds, List.forall_mem_cons.mpr ⟨k_X10_init, List.forall_mem_cons.mpr ⟨k_X10_becomeLike, List.forall_mem_cons.mpr ⟨k_X10_isOne, List.forall_mem_cons.mpr ⟨k_X10_one, List.forall_mem_cons.mpr ⟨k_X10_payRule, List.forall_mem_cons.mpr ⟨k_X10_giftEach, List.forall_mem_cons.mpr ⟨k_X10_fortuneAt, List.forall_mem_cons.mpr ⟨k_X10_turnBehind, List.forall_mem_cons.mpr ⟨k_X11_init, List.forall_mem_cons.mpr ⟨k_X11_feed, List.forall_mem_cons.mpr ⟨k_X11_valley, List.forall_mem_cons.mpr ⟨k_X11_told, List.forall_mem_cons.mpr ⟨k_X11_fortune, fun _ h => absurd h List.not_mem_nil⟩⟩⟩⟩⟩⟩⟩⟩⟩⟩⟩⟩⟩⟩⟩⟩⟩⟩⟩⟩⟩⟩⟩⟩⟩⟩⟩⟩⟩⟩⟩⟩⟩⟩⟩⟩⟩⟩⟩⟩
theorem a_all2 : ∀ q ∈ (a_P.drop 80).take 40, a_Mok q := List.forall_mem_cons.mpr ⟨k_X11_person, List.forall_mem_cons.mpr ⟨k_X11_row, List.forall_mem_cons.mpr ⟨k_X11_of, List.forall_mem_cons.mpr ⟨k_X11_go, List.forall_mem_cons.mpr ⟨k_X11_sold, List.forall_mem_cons.mpr ⟨k_X11_run, List.forall_mem_cons.mpr ⟨k_X11_best, List.forall_mem_cons.mpr ⟨k_X11_truly, List.forall_mem_cons.mpr ⟨k_X11_harm, List.forall_mem_cons.mpr ⟨k_X11_leagues, List.forall_mem_cons.mpr ⟨k_X11_beside, List.forall_mem_cons.mpr ⟨k_X11_spill, List.forall_mem_cons.mpr ⟨k_X11_poor, List.forall_mem_cons.mpr ⟨k_X11_worse, List.forall_mem_cons.mpr ⟨k_X11_book, List.forall_mem_cons.mpr ⟨k_X11_looked, List.forall_mem_cons.mpr ⟨k_X11_act, List.forall_mem_cons.mpr ⟨k_X11_trace, List.forall_mem_cons.mpr ⟨k_X11_as, List.forall_mem_cons.mpr ⟨k_X11_image, List.forall_mem_cons.mpr ⟨k_X11_undo, List.forall_mem_cons.mpr ⟨k_X11_count, List.forall_mem_cons.mpr ⟨k_X11_isWeather, List.forall_mem_cons.mpr ⟨k_X11_isKind, List.forall_mem_cons.mpr ⟨k_X11_isRun, List.forall_mem_cons.mpr ⟨k_X11_grown, List.forall_mem_cons.mpr ⟨k_X11_ofKind, List.forall_mem_cons.mpr ⟨k_X11_isUnder, List.forall_mem_cons.mpr ⟨k_X11_planDay, List.forall_mem_cons.mpr ⟨k_X11_tallyWorth, List.forall_mem_cons.mpr ⟨k_X11_tallySpan, List.forall_mem_cons.mpr ⟨k_X12_init, List.forall_mem_cons.mpr ⟨k_X12_in, List.forall_mem_cons.mpr ⟨k_X12_isWeather, List.forall_mem_cons.mpr ⟨k_X12_isPerson, List.forall_mem_cons.mpr ⟨k_X12_keeps, List.forall_mem_cons.mpr ⟨k_X12_goesBack, List.forall_mem_cons.mpr ⟨k_X12_feed, List.forall_mem_cons.mpr ⟨k_X12_here, List.forall_mem_cons.mpr ⟨k_X12_must, fun _ h => absurd h List.not_mem_nil⟩⟩⟩⟩⟩⟩⟩⟩⟩⟩⟩⟩⟩⟩⟩⟩⟩⟩⟩⟩⟩⟩⟩⟩⟩⟩⟩⟩⟩⟩⟩⟩⟩⟩⟩⟩⟩⟩⟩⟩
theorem a_all3 : ∀ q ∈ (a_P.drop 120).take 40, a_Mok q := List.forall_mem_cons.mpr ⟨k_X12_spells, List.forall_mem_cons.mpr ⟨k_X12_figures, List.forall_mem_cons.mpr ⟨k_X12_among, List.forall_mem_cons.mpr ⟨k_X12_emits, List.forall_mem_cons.mpr ⟨k_X12_factor, List.forall_mem_cons.mpr ⟨k_X12_every, List.forall_mem_cons.mpr ⟨k_X12_some, List.forall_mem_cons.mpr ⟨k_X12_much, List.forall_mem_cons.mpr ⟨k_X12_ruleHere, List.forall_mem_cons.mpr ⟨k_X12_giftHere, List.forall_mem_cons.mpr ⟨k_X12_clauseHere, List.forall_mem_cons.mpr ⟨k_X12_valley, List.forall_mem_cons.mpr ⟨k_X12_tellsOf, List.forall_mem_cons.mpr ⟨k_X12_worthOf, List.forall_mem_cons.mpr ⟨k_X12_worthNow, List.forall_mem_cons.mpr ⟨k_X12_worthToAll, List.forall_mem_cons.mpr ⟨k_X12_fortuneNext, List.forall_mem_cons.mpr ⟨k_X12_told, List.forall_mem_cons.mpr ⟨k_X12_fortune, List.forall_mem_cons.mpr ⟨k_X12_person, List.forall_mem_cons.mpr ⟨k_X12_row, List.forall_mem_cons.mpr ⟨k_X12_kept, List.forall_mem_cons.mpr ⟨k_X12_league, List.forall_mem_cons.mpr ⟨k_X12_ahead, List.forall_mem_cons.mpr ⟨k_X12_sharing, List.forall_mem_cons.mpr ⟨k_X12_bidOf, List.forall_mem_cons.mpr ⟨k_X12_of, List.forall_mem_cons.mpr ⟨k_X12_takesBids, List.forall_mem_cons.mpr ⟨k_X12_sells, List.forall_mem_cons.mpr ⟨k_X12_harmOf, List.forall_mem_cons.mpr ⟨k_X12_paysOf, List.forall_mem_cons.mpr ⟨k_X12_gainOf, List.forall_mem_cons.mpr ⟨k_X12_evening, List.forall_mem_cons.mpr ⟨k_X12_go, List.forall_mem_cons.mpr ⟨k_X12_sold, List.forall_mem_cons.mpr ⟨k_X12_run, List.forall_mem_cons.mpr ⟨k_X12_withNext, List.forall_mem_cons.mpr ⟨k_X12_best, List.forall_mem_cons.mpr ⟨k_X12_truly, List.forall_mem_cons.mpr ⟨k_X12_harm, fun _ h => absurd h List.not_mem_nil⟩⟩⟩⟩⟩⟩⟩⟩⟩⟩⟩⟩⟩⟩⟩⟩⟩⟩⟩⟩⟩⟩⟩⟩⟩⟩⟩⟩⟩⟩⟩⟩⟩⟩⟩⟩⟩⟩⟩⟩
theorem a_all4 : ∀ q ∈ (a_P.drop 160).take 30, a_Mok q := List.forall_mem_cons.mpr ⟨k_X12_leagues, List.forall_mem_cons.mpr ⟨k_X12_beside, List.forall_mem_cons.mpr ⟨k_X12_spill, List.forall_mem_cons.mpr ⟨k_X12_poor, List.forall_mem_cons.mpr ⟨k_X12_worse, List.forall_mem_cons.mpr ⟨k_X12_book, List.forall_mem_cons.mpr ⟨k_X12_looked, List.forall_mem_cons.mpr ⟨k_X12_ranBody, List.forall_mem_cons.mpr ⟨k_X12_isUnder, List.forall_mem_cons.mpr ⟨k_X12_plainBids, List.forall_mem_cons.mpr ⟨k_X12_bidsActs, List.forall_mem_cons.mpr ⟨k_X12_plainPays, List.forall_mem_cons.mpr ⟨k_X12_leaguePays, List.forall_mem_cons.mpr ⟨k_X12_paysActs, List.forall_mem_cons.mpr ⟨k_X12_plainTells, List.forall_mem_cons.mpr ⟨k_X12_tellsActs, List.forall_mem_cons.mpr ⟨k_X12_act, List.forall_mem_cons.mpr ⟨k_X12_trace, List.forall_mem_cons.mpr ⟨k_X12_as, List.forall_mem_cons.mpr ⟨k_X12_image, List.forall_mem_cons.mpr ⟨k_X12_undo, List.forall_mem_cons.mpr ⟨k_X12_count, List.forall_mem_cons.mpr ⟨k_J0_length_8abf5, List.forall_mem_cons.mpr ⟨k_J0_charAt_5068e, List.forall_mem_cons.mpr ⟨k_J0_coder_7d493, List.forall_mem_cons.mpr ⟨k_J0_isLatin1_aae02, List.forall_mem_cons.mpr ⟨k_J0_checkIndex_df160, List.forall_mem_cons.mpr ⟨k_J1_charAt_3b067, List.forall_mem_cons.mpr ⟨k_J3_checkIndex_8e157, List.forall_mem_cons.mpr ⟨k_L_law, fun _ h => absurd h List.not_mem_nil⟩⟩⟩⟩⟩⟩⟩⟩⟩⟩⟩⟩⟩⟩⟩⟩⟩⟩⟩⟩⟩⟩⟩⟩⟩⟩⟩⟩⟩⟩
set_option maxRecDepth 100000 in
theorem a_P_cut : a_P = (a_P.drop 0).take 40 ++ ((a_P.drop 40).take 40 ++ ((a_P.drop 80).take 40 ++ ((a_P.drop 120).take 40 ++ ((a_P.drop 160).take 30)))) := rfl
theorem a_all : ∀ q ∈ a_P, a_Mok q := by
  intro q hq
  rw [a_P_cut] at hq
  simp only [List.mem_append] at hq
  rcases hq with hq | hq | hq | hq | hq
  · exact a_all0 q hq
  · exact a_all1 q hq
  · exact a_all2 q hq
  · exact a_all3 q hq
  · exact a_all4 q hq
theorem a_prog_ok (fz : Value) : a_prog a_P a_cl a_TB "SoldWeather$Bidder" a_NC a_SR (a_sv fz) := by
  intro k y bs ml rt rows hP
  obtain ⟨h1, h2, h3, h4, h5⟩ := a_all _ (List.mem_of_getElem? hP)
  refine ⟨h1, h2, h3, h4, fun i row hr => ?_⟩
  rw [a_rowok_fz]
  have := List.all_eq_true.mp h5 (row, i) (by rw [List.mem_zipIdx_iff_getElem?]; exact hr)
  exact this
set_option maxRecDepth 100000 in
theorem a_good_ok : a_TB.all goodWord = true := by decide +kernel
set_option maxRecDepth 100000 in
theorem a_inX0 : ∀ w ∈ u_ws RX0 TX0 3, w ∈ a_TB := by decide +kernel
set_option maxRecDepth 100000 in
theorem a_inX1 : ∀ w ∈ u_ws RX1 TX1 3, w ∈ a_TB := by decide +kernel
set_option maxRecDepth 100000 in
theorem a_inX2 : ∀ w ∈ u_ws RX2 TX2 10, w ∈ a_TB := by decide +kernel
set_option maxRecDepth 100000 in
theorem a_inX3 : ∀ w ∈ u_ws RX3 TX3 3, w ∈ a_TB := by decide +kernel
set_option maxRecDepth 100000 in
theorem a_inX4 : ∀ w ∈ u_ws RX4 TX4 3, w ∈ a_TB := by decide +kernel
set_option maxRecDepth 100000 in
theorem a_inX5 : ∀ w ∈ u_ws RX5 TX5 11, w ∈ a_TB := by decide +kernel
set_option maxRecDepth 100000 in
theorem a_inX6 : ∀ w ∈ u_ws RX6 TX6 3, w ∈ a_TB := by decide +kernel
set_option maxRecDepth 100000 in
theorem a_inX7 : ∀ w ∈ u_ws RX7 TX7 3, w ∈ a_TB := by decide +kernel
set_option maxRecDepth 100000 in
theorem a_inX8 : ∀ w ∈ u_ws RX8 TX8 3, w ∈ a_TB := by decide +kernel
set_option maxRecDepth 100000 in
theorem a_inX9 : ∀ w ∈ u_ws RX9 TX9 5, w ∈ a_TB := by decide +kernel
set_option maxRecDepth 100000 in
theorem a_inX10 : ∀ w ∈ u_ws RX10 TX10 17, w ∈ a_TB := by decide +kernel
set_option maxRecDepth 100000 in
theorem a_inX11 : ∀ w ∈ u_ws RX11 TX11 8, w ∈ a_TB := by decide +kernel
set_option maxRecDepth 100000 in
theorem a_inX12 : ∀ w ∈ u_ws RX12 TX12 25, w ∈ a_TB := by decide +kernel
theorem a_cls_ok : a_cls a_cl a_ty a_df a_TB := by
  intro ci C T N h
  match ci, h with
  | 0, h => cases h; exact ⟨a_inX0, tyX0_ok, nmX0, fun fs hf => by cases hf; exact ⟨rfl, by decide +kernel, by decide +kernel⟩⟩
  | 1, h => cases h; exact ⟨a_inX1, tyX1_ok, nmX1, fun fs hf => by cases hf; exact ⟨rfl, by decide +kernel, by decide +kernel⟩⟩
  | 2, h => cases h; exact ⟨a_inX2, tyX2_ok, nmX2, fun fs hf => by cases hf; exact ⟨rfl, by decide +kernel, by decide +kernel⟩⟩
  | 3, h => cases h; exact ⟨a_inX3, tyX3_ok, nmX3, fun fs hf => by cases hf; exact ⟨rfl, by decide +kernel, by decide +kernel⟩⟩
  | 4, h => cases h; exact ⟨a_inX4, tyX4_ok, nmX4, fun fs hf => by cases hf; exact ⟨rfl, by decide +kernel, by decide +kernel⟩⟩
  | 5, h => cases h; exact ⟨a_inX5, tyX5_ok, nmX5, fun fs hf => by cases hf; exact ⟨rfl, by decide +kernel, by decide +kernel⟩⟩
  | 6, h => cases h; exact ⟨a_inX6, tyX6_ok, nmX6, fun fs hf => by cases hf; exact ⟨rfl, by decide +kernel, by decide +kernel⟩⟩
  | 7, h => cases h; exact ⟨a_inX7, tyX7_ok, nmX7, fun fs hf => by cases hf; exact ⟨rfl, by decide +kernel, by decide +kernel⟩⟩
  | 8, h => cases h; exact ⟨a_inX8, tyX8_ok, nmX8, fun fs hf => by cases hf; exact ⟨rfl, by decide +kernel, by decide +kernel⟩⟩
  | 9, h => cases h; exact ⟨a_inX9, tyX9_ok, nmX9, fun fs hf => by cases hf; exact ⟨rfl, by decide +kernel, by decide +kernel⟩⟩
  | 10, h => cases h; exact ⟨a_inX10, tyX10_ok, nmX10, fun fs hf => by cases hf; exact ⟨rfl, by decide +kernel, by decide +kernel⟩⟩
  | 11, h => cases h; exact ⟨a_inX11, tyX11_ok, nmX11, fun fs hf => by cases hf; exact ⟨rfl, by decide +kernel, by decide +kernel⟩⟩
  | 12, h => cases h; exact ⟨a_inX12, tyX12_ok, nmX12, fun fs hf => by cases hf; exact ⟨rfl, by decide +kernel, by decide +kernel⟩⟩
  | ci + 13, h => simp [a_cl] at h
end
section
/-! 20.vlog: reasoning about runs of our machine -/
theorem a_go_mono (P : List aM) (df : List (List Value)) (tx : List (List Int32)) (sv : List (String × String × String × Value)) (sc : Nat × (Nat → Int32)) : ∀ (n n' d d' k i : Nat) (L : aL) (st : List Value) (h : List aC) (q : Option Value × List aC), a_go P df tx sv sc n d k i L st h = some q → n ≤ n' → d ≤ d' → a_go P df tx sv sc n' d' k i L st h = some q := by
  intro n
  induction n with
  | zero => intro n' d d' k i L st h q hg; simp [a_go] at hg
  | succ n ih =>
    intro n' d d' k i L st h q hg hn hd
    obtain ⟨n', rfl⟩ : ∃ z, n' = z + 1 := ⟨n' - 1, by omega⟩
    simp only [a_go] at hg ⊢
    split at hg
    · cases hg
    · rename_i hP
      try rw [hP]
      try simp only at hg ⊢
      split at hg
      · cases hg
      · rename_i hrow
        try rw [hrow]
        try simp only at hg ⊢
        split at hg
        · rename_i hs
          try rw [hs]
          exact hg
        · rename_i hs
          try rw [hs]
          try simp only at hg ⊢
          split at hg
          · rename_i hs2
            try rw [hs2]
            try simp only at hg ⊢
            split at hg
            · cases hg
            · rename_i d0
              obtain ⟨d', rfl⟩ : ∃ z, d' = z + 1 := ⟨d' - 1, by omega⟩
              try simp only at hg ⊢
              split at hg
              · cases hg
              · rename_i hP2
                try rw [hP2]
                try simp only at hg ⊢
                obtain ⟨hb, hg⟩ := a_bif hg
                rw [hb]
                simp only [cond_true]
                split at hg
                · rename_i hg1
                  rw [ih n' _ d' _ _ _ _ _ _ hg1 (by omega) (by omega)]
                  exact ih n' _ (d' + 1) _ _ _ _ _ _ hg (by omega) (by omega)
                · cases hg
          · rename_i hs2
            try rw [hs2]
            try simp only at hg ⊢
            split at hg
            · rename_i hs3
              try rw [hs3]
              try simp only at hg ⊢
              obtain ⟨hb, hg⟩ := a_bif hg
              rw [hb]
              exact ih n' _ d' _ _ _ _ _ _ hg (by omega) hd
            · rename_i hs3
              try rw [hs3]
              try simp only at hg ⊢
              split at hg
              · rename_i hs4
                try rw [hs4]
                try simp only at hg ⊢
                obtain ⟨hb, hg⟩ := a_bif hg
                rw [hb]
                exact ih n' _ d' _ _ _ _ _ _ hg (by omega) hd
              · rename_i hs4
                try rw [hs4]
                try simp only at hg ⊢
                split at hg
                · rename_i hs5
                  try rw [hs5]
                  try simp only at hg ⊢
                  obtain ⟨hb, hg⟩ := a_bif hg
                  rw [hb]
                  exact ih n' _ d' _ _ _ _ _ _ hg (by omega) hd
                · rename_i hs5
                  try rw [hs5]
                  try simp only at hg ⊢
                  split at hg
                  · rename_i hs6
                    try rw [hs6]
                    try simp only at hg ⊢
                    obtain ⟨hb, hg⟩ := a_bif hg
                    rw [hb]
                    exact ih n' _ d' _ _ _ _ _ _ hg (by omega) hd
                  · rename_i hs6
                    try rw [hs6]
                    try simp only at hg ⊢
                    split at hg
                    · rename_i hs7
                      try rw [hs7]
                      try simp only at hg ⊢
                      obtain ⟨hb, hg⟩ := a_bif hg
                      rw [hb]
                      exact ih n' _ d' _ _ _ _ _ _ hg (by omega) hd
                    · cases hg
/-- locals: what is known in the first is so in the second; nothing of two words is new -/
def a_wk : aL → aL → Prop
  | [], [] => True
  | none :: l, o :: l' => (∀ v, o = some v → v.category = 1) ∧ a_wk l l'
  | some v :: l, o :: l' => o = some v ∧ a_wk l l'
  | _, _ => False
theorem a_wk_len : ∀ {L L' : aL}, a_wk L L' → L.length = L'.length := by
  intro L
  induction L with
  | nil => intro L' h; cases L' with
    | nil => rfl
    | cons => exact h.elim
  | cons o L ih => intro L' h; cases L' with
    | nil => cases o <;> exact h.elim
    | cons o' L' => cases o with
      | none => simp [ih h.2]
      | some v => simp [ih h.2]
theorem a_wk_get : ∀ {L L' : aL} {j : Nat} {v : Value}, a_wk L L' → L[j]? = some (some v) → L'[j]? = some (some v) := by
  intro L
  induction L with
  | nil => intro L' j v _ h; simp at h
  | cons o L ih => intro L' j v h hj; cases L' with
    | nil => cases o <;> exact h.elim
    | cons o' L' =>
      cases j with
      | zero =>
        simp at hj
        subst hj
        have := h.1
        subst this
        rfl
      | succ j =>
        simp at hj ⊢
        cases o with
        | none => exact ih h.2 hj
        | some w => exact ih h.2 hj
theorem a_wk_cat : ∀ {L L' : aL} (j : Nat), a_wk L L' → (a_ld L j).category = 1 → (a_ld L' j).category = 1 := by
  intro L
  induction L with
  | nil => intro L' j h hc; cases L' with
    | nil => exact hc
    | cons => exact h.elim
  | cons o L ih => intro L' j h hc; cases L' with
    | nil => cases o <;> exact h.elim
    | cons o' L' =>
      cases j with
      | zero => cases o with
        | none => cases o' with
          | none => rfl
          | some w => exact h.1 w rfl
        | some v =>
          have := h.1
          subst this
          exact hc
      | succ j => cases o with
        | none => exact ih j h.2 hc
        | some v => exact ih j h.2 hc
theorem a_wk_set : ∀ {L L' : aL} (j : Nat) (v : Value), a_wk L L' → a_wk (L.set j (some v)) (L'.set j (some v)) := by
  intro L
  induction L with
  | nil => intro L' j v h; cases L' with
    | nil => exact h
    | cons => exact h.elim
  | cons o L ih => intro L' j v h; cases L' with
    | nil => cases o <;> exact h.elim
    | cons o' L' =>
      cases j with
      | zero => cases o with
        | none => exact ⟨rfl, h.2⟩
        | some w => exact ⟨rfl, h.2⟩
      | succ j => cases o with
        | none => exact ⟨h.1, ih j v h.2⟩
        | some w => exact ⟨h.1, ih j v h.2⟩
theorem a_wk_setN : ∀ {L L' : aL} (j : Nat), a_wk L L' → a_wk (L.set j none) (L'.set j none) := by
  intro L
  induction L with
  | nil => intro L' j h; cases L' with
    | nil => exact h
    | cons => exact h.elim
  | cons o L ih => intro L' j h; cases L' with
    | nil => cases o <;> exact h.elim
    | cons o' L' =>
      cases j with
      | zero => cases o with
        | none => exact ⟨fun v hv => (by cases hv), h.2⟩
        | some w => exact ⟨fun v hv => (by cases hv), h.2⟩
      | succ j => cases o with
        | none => exact ⟨h.1, ih j h.2⟩
        | some w => exact ⟨h.1, ih j h.2⟩
theorem a_wk_ld {L L' : aL} {j : Nat} {v : Value} (h : a_wk L L') (hv : a_ld L j = v) (hn : v ≠ .float 0) : a_ld L' j = v := by
  unfold a_ld at hv ⊢
  cases e : L[j]? with
  | none => rw [e] at hv; exact absurd hv.symm hn
  | some o => cases o with
    | none => rw [e] at hv; exact absurd hv.symm hn
    | some w =>
      rw [e] at hv
      rw [a_wk_get h e]
      exact hv
theorem a_wk_pg {L L' : aL} {j : Nat} (h : a_wk L L') (hg : a_pg L j = true) : a_pg L' j = true := by
  unfold a_pg at hg ⊢
  simp only [Bool.and_eq_true, decide_eq_true_eq, Bool.or_eq_true, beq_iff_eq] at hg ⊢
  exact ⟨by rw [← a_wk_len h]; exact hg.1, hg.2.imp id (fun q => a_wk_cat _ h q)⟩
theorem a_wk_pg2 {L L' : aL} {j : Nat} (h : a_wk L L') (hg : a_pg2 L j = true) : a_pg2 L' j = true := by
  unfold a_pg2 at hg ⊢
  simp only [Bool.and_eq_true, decide_eq_true_eq, Bool.or_eq_true, beq_iff_eq] at hg ⊢
  exact ⟨by rw [← a_wk_len h]; exact hg.1, hg.2.imp id (fun q => a_wk_cat _ h q)⟩
/-- a step with more known locals -/
def a_wkq (q q' : Option aN) : Prop := ∀ (i : Nat) (L : aL) (st : List Value) (h : List aC), q = some (true, i, L, st, h) → ∃ L', q' = some (true, i, L', st, h) ∧ a_wk L L'
theorem a_wk_li {L L' : aL} {j i : Nat} {st : List Value} {h : List aC} (hw : a_wk L L') : a_wkq (a_li L j i st h) (a_li L' j i st h) := by
  intro i1 L1 st1 h1 hq
  unfold a_li at hq ⊢
  split at hq
  · rename_i x hv
    cases hq
    rw [a_wk_ld hw hv (by simp)]
    exact ⟨_, rfl, hw⟩
  · cases hq
theorem a_wk_ll {L L' : aL} {j i : Nat} {st : List Value} {h : List aC} (hw : a_wk L L') : a_wkq (a_ll L j i st h) (a_ll L' j i st h) := by
  intro i1 L1 st1 h1 hq
  unfold a_ll at hq ⊢
  split at hq
  · rename_i x hv
    cases hq
    rw [a_wk_ld hw hv (by simp)]
    exact ⟨_, rfl, hw⟩
  · cases hq
theorem a_wk_la {L L' : aL} {j i : Nat} {st : List Value} {h : List aC} (hw : a_wk L L') : a_wkq (a_la L j i st h) (a_la L' j i st h) := by
  intro i1 L1 st1 h1 hq
  unfold a_la at hq ⊢
  split at hq
  · rename_i x hv
    cases hq
    rw [a_wk_ld hw hv (by simp)]
    exact ⟨_, rfl, hw⟩
  · rename_i x hv
    cases hq
    rw [a_wk_ld hw hv (by simp)]
    exact ⟨_, rfl, hw⟩
  · rename_i hv
    cases hq
    rw [a_wk_ld hw hv (by simp)]
    exact ⟨_, rfl, hw⟩
  · cases hq
theorem a_wk_si {L L' : aL} {j i : Nat} {st : List Value} {h : List aC} (hw : a_wk L L') : a_wkq (a_si L j i st h) (a_si L' j i st h) := by
  intro i1 L1 st1 h1 hq
  unfold a_si at hq ⊢
  split at hq
  · simp only [Option.some.injEq, Prod.mk.injEq] at hq
    obtain ⟨hg, rfl, rfl, rfl, rfl⟩ := hq
    exact ⟨_, by rw [a_wk_pg hw hg], a_wk_set _ _ hw⟩
  · cases hq
theorem a_wk_sl {L L' : aL} {j i : Nat} {st : List Value} {h : List aC} (hw : a_wk L L') : a_wkq (a_sl L j i st h) (a_sl L' j i st h) := by
  intro i1 L1 st1 h1 hq
  unfold a_sl at hq ⊢
  split at hq
  · simp only [Option.some.injEq, Prod.mk.injEq] at hq
    obtain ⟨hg, rfl, rfl, rfl, rfl⟩ := hq
    exact ⟨_, by rw [a_wk_pg2 hw hg], a_wk_setN _ (a_wk_set _ _ hw)⟩
  · cases hq
theorem a_wk_sa {L L' : aL} {j i : Nat} {st : List Value} {h : List aC} (hw : a_wk L L') : a_wkq (a_sa L j i st h) (a_sa L' j i st h) := by
  intro i1 L1 st1 h1 hq
  unfold a_sa at hq ⊢
  split at hq
  · simp only [Option.some.injEq, Prod.mk.injEq] at hq
    obtain ⟨hg, rfl, rfl, rfl, rfl⟩ := hq
    exact ⟨_, by rw [a_wk_pg hw hg], a_wk_set _ _ hw⟩
  · simp only [Option.some.injEq, Prod.mk.injEq] at hq
    obtain ⟨hg, rfl, rfl, rfl, rfl⟩ := hq
    exact ⟨_, by rw [a_wk_pg hw hg], a_wk_set _ _ hw⟩
  · cases hq
theorem a_wk_s1 {ins : Instr} {cst : Int32} {aux : aX} {L L' : aL} {i : Nat} {st : List Value} {h : List aC} (hw : a_wk L L') : a_wkq (a_s1 ins cst aux i L st h) (a_s1 ins cst aux i L' st h) := by
  unfold a_s1
  split
  case h_6 => exact a_wk_li hw
  case h_7 => exact a_wk_li hw
  case h_8 => exact a_wk_ll hw
  case h_9 => exact a_wk_la hw
  case h_10 => exact a_wk_la hw
  case h_11 => exact a_wk_si hw
  case h_12 => exact a_wk_si hw
  case h_13 => exact a_wk_sl hw
  case h_14 => exact a_wk_sa hw
  case h_15 => exact a_wk_sa hw
  case h_16 =>
    intro i1 L1 st1 h1 hq
    split at hq
    · rename_i x hv
      simp only [Option.some.injEq, Prod.mk.injEq] at hq
      obtain ⟨hg, rfl, rfl, rfl, rfl⟩ := hq
      rw [a_wk_ld hw hv (by simp)]
      exact ⟨_, by rw [a_wk_pg hw hg], a_wk_set _ _ hw⟩
    · cases hq
  all_goals
    intro i1 L1 st1 h1 hq
    first
      | (cases hq; done)
      | (cases hq; exact ⟨_, rfl, hw⟩)
      | (split at hq <;> first | (cases hq; done) | (cases hq; exact ⟨_, rfl, hw⟩) | (simp only [Option.some.injEq, Prod.mk.injEq] at hq; obtain ⟨hg, rfl, rfl, rfl, rfl⟩ := hq; exact ⟨_, by rw [hg], hw⟩))
/-- a step that does not look at the locals -/
theorem a_wk_map {q : aL → Option aN} (hq : ∀ L, q L = (q []).map (fun z => (z.1, z.2.1, L, z.2.2.2.1, z.2.2.2.2))) {L L' : aL} (hw : a_wk L L') : a_wkq (q L) (q L') := by
  intro i1 L1 st1 h1 he
  rw [hq] at he
  rw [hq L']
  cases e : q [] with
  | none => rw [e] at he; cases he
  | some z =>
    rw [e] at he
    obtain ⟨z1, z2, z3, z4, z5⟩ := z
    simp only [Option.map_some, Option.some.injEq, Prod.mk.injEq] at he
    obtain ⟨rfl, rfl, rfl, rfl, rfl⟩ := he
    exact ⟨L', rfl, hw⟩
theorem a_s2_L (ins : Instr) (aux : aX) (i : Nat) (st : List Value) (h : List aC) (L : aL) : a_s2 ins aux i L st h = (a_s2 ins aux i [] st h).map (fun z => (z.1, z.2.1, L, z.2.2.2.1, z.2.2.2.2)) := by
  unfold a_s2
  split <;> (repeat' split) <;> rfl
theorem a_s3_L (df : List (List Value)) (sc : Nat × (Nat → Int32)) (ins : Instr) (cst : Int32) (aux : aX) (i : Nat) (st : List Value) (h : List aC) (L : aL) : a_s3 df sc ins cst aux i L st h = (a_s3 df sc ins cst aux i [] st h).map (fun z => (z.1, z.2.1, L, z.2.2.2.1, z.2.2.2.2)) := by
  unfold a_s3
  split <;> (repeat' split) <;> rfl
theorem a_s4_L (ins : Instr) (aux : aX) (i : Nat) (st : List Value) (h : List aC) (L : aL) : a_s4 ins aux i L st h = (a_s4 ins aux i [] st h).map (fun z => (z.1, z.2.1, L, z.2.2.2.1, z.2.2.2.2)) := by
  unfold a_s4
  split <;> (repeat' split) <;> rfl
theorem a_s5_L (tx : List (List Int32)) (sv : List (String × String × String × Value)) (ins : Instr) (aux : aX) (i : Nat) (st : List Value) (h : List aC) (L : aL) : a_s5 tx sv ins aux i L st h = (a_s5 tx sv ins aux i [] st h).map (fun z => (z.1, z.2.1, L, z.2.2.2.1, z.2.2.2.2)) := by
  unfold a_s5
  split <;> (repeat' split) <;> rfl
theorem a_s1_ex {ins : Instr} {cst : Int32} {aux : aX} {L L' : aL} {i : Nat} {st : List Value} {h : List aC} (hw : a_ct ins ≠ 1) : a_s1 ins cst aux i L' st h = none := by
  cases e : a_s1 ins cst aux i L' st h with
  | none => rfl
  | some q => exact absurd (a_s1_ct e) hw
theorem a_map_none {q : aL → Option aN} (hq : ∀ L, q L = (q []).map (fun z => (z.1, z.2.1, L, z.2.2.2.1, z.2.2.2.2))) {L L' : aL} (h : q L = none) : q L' = none := by
  rw [hq] at h ⊢
  cases e : q [] with
  | none => rfl
  | some z => rw [e] at h; cases h
theorem a_go_wk (P : List aM) (df : List (List Value)) (tx : List (List Int32)) (sv : List (String × String × String × Value)) (sc : Nat × (Nat → Int32)) : ∀ (n d k i : Nat) (L L' : aL) (st : List Value) (h : List aC) (q : Option Value × List aC), a_wk L L' → a_go P df tx sv sc n d k i L st h = some q → a_go P df tx sv sc n d k i L' st h = some q := by
  intro n
  induction n with
  | zero => intro d k i L L' st h q hw hg; simp [a_go] at hg
  | succ n ih =>
    intro d k i L L' st h q hw hg
    simp only [a_go] at hg ⊢
    cases hP : P[k]? with
    | none => rw [hP] at hg; cases hg
    | some mm =>
      obtain ⟨my, mb, mml, mrt, mrows⟩ := mm
      rw [hP] at hg
      simp only at hg ⊢
      cases hrow : mrows[i]? with
      | none => rw [hrow] at hg; cases hg
      | some row =>
        obtain ⟨pc, ins, len, cst, aux⟩ := row
        rw [hrow] at hg
        simp only at hg ⊢
        cases hf : a_fin ins aux st with
        | some r => rw [hf] at hg; exact hg
        | none =>
          rw [hf] at hg
          simp only at hg ⊢
          cases hc : a_cal tx.length ins aux st h with
          | some r =>
            obtain ⟨k', As, rest⟩ := r
            rw [hc] at hg
            simp only at hg ⊢
            cases d with
            | zero => cases hg
            | succ d =>
              simp only at hg ⊢
              cases hP2 : P[k']? with
              | none => rw [hP2] at hg; cases hg
              | some m2 =>
                obtain ⟨y2, b2, ml2, rt2, rows2⟩ := m2
                rw [hP2] at hg
                simp only at hg ⊢
                obtain ⟨hb, hg⟩ := a_bif hg
                rw [hb]
                simp only [cond_true]
                cases hg1 : a_go P df tx sv sc n d k' 0 (a_ent ml2 As) [] h with
                | none => rw [hg1] at hg; cases hg
                | some z =>
                  obtain ⟨rv, h1⟩ := z
                  rw [hg1] at hg
                  exact ih _ _ _ _ _ _ _ _ hw hg
          | none =>
            rw [hc] at hg
            simp only at hg ⊢
            cases h1 : a_s1 ins cst aux i L st h with
            | some z =>
              obtain ⟨g, i', L1, st1, h1'⟩ := z
              rw [h1] at hg
              simp only at hg
              obtain ⟨hb, hg⟩ := a_bif hg
              subst hb
              obtain ⟨L2, e2, hw2⟩ := a_wk_s1 (L' := L') hw _ _ _ _ h1
              rw [e2]
              exact ih _ _ _ _ _ _ _ _ hw2 hg
            | none =>
              rw [h1] at hg
              simp only at hg
              cases h2 : a_s2 ins aux i L st h with
              | some z =>
                obtain ⟨g, i', L1, st1, h1'⟩ := z
                rw [h2] at hg
                simp only at hg
                obtain ⟨hb, hg⟩ := a_bif hg
                subst hb
                rw [a_s1_ex (L := L) (by rw [a_s2_ct h2]; decide)]
                obtain ⟨L2, e2, hw2⟩ := a_wk_map (q := fun L => a_s2 ins aux i L st h) (a_s2_L ins aux i st h) hw _ _ _ _ h2
                simp only at e2 ⊢
                rw [e2]
                exact ih _ _ _ _ _ _ _ _ hw2 hg
              | none =>
                rw [h2] at hg
                simp only at hg
                have h2' := a_map_none (q := fun L => a_s2 ins aux i L st h) (a_s2_L ins aux i st h) (L' := L') h2
                cases h3 : a_s3 df sc ins cst aux i L st h with
                | some z =>
                  obtain ⟨g, i', L1, st1, h1'⟩ := z
                  rw [h3] at hg
                  simp only at hg
                  obtain ⟨hb, hg⟩ := a_bif hg
                  subst hb
                  rw [a_s1_ex (L := L) (by rw [(a_s3_ct h3).1]; decide)]
                  obtain ⟨L2, e2, hw2⟩ := a_wk_map (q := fun L => a_s3 df sc ins cst aux i L st h) (a_s3_L df sc ins cst aux i st h) hw _ _ _ _ h3
                  simp only at e2 h2' ⊢
                  rw [h2', e2]
                  exact ih _ _ _ _ _ _ _ _ hw2 hg
                | none =>
                  rw [h3] at hg
                  simp only at hg
                  have h3' := a_map_none (q := fun L => a_s3 df sc ins cst aux i L st h) (a_s3_L df sc ins cst aux i st h) (L' := L') h3
                  cases h4 : a_s4 ins aux i L st h with
                  | some z =>
                    obtain ⟨g, i', L1, st1, h1'⟩ := z
                    rw [h4] at hg
                    simp only at hg
                    obtain ⟨hb, hg⟩ := a_bif hg
                    subst hb
                    rw [a_s1_ex (L := L) (by rw [(a_s4_ct h4).1]; decide)]
                    obtain ⟨L2, e2, hw2⟩ := a_wk_map (q := fun L => a_s4 ins aux i L st h) (a_s4_L ins aux i st h) hw _ _ _ _ h4
                    simp only at e2 h2' h3' ⊢
                    rw [h2', h3', e2]
                    exact ih _ _ _ _ _ _ _ _ hw2 hg
                  | none =>
                    rw [h4] at hg
                    simp only at hg
                    have h4' := a_map_none (q := fun L => a_s4 ins aux i L st h) (a_s4_L ins aux i st h) (L' := L') h4
                    cases h5 : a_s5 tx sv ins aux i L st h with
                    | none => rw [h5] at hg; cases hg
                    | some z =>
                      obtain ⟨g, i', L1, st1, h1'⟩ := z
                      rw [h5] at hg
                      simp only at hg
                      obtain ⟨hb, hg⟩ := a_bif hg
                      subst hb
                      rw [a_s1_ex (L := L) (by rcases a_s5_ct h5 with q | ⟨q, -⟩ <;> rw [q] <;> decide)]
                      obtain ⟨L2, e2, hw2⟩ := a_wk_map (q := fun L => a_s5 tx sv ins aux i L st h) (a_s5_L tx sv ins aux i st h) hw _ _ _ _ h5
                      simp only at e2 h2' h3' h4' ⊢
                      rw [h2', h3', h4', e2]
                      exact ih _ _ _ _ _ _ _ _ hw2 hg
/-- the run from here comes to an end with Q -/
def v_V (fz : Value) (sc : Nat × (Nat → Int32)) (d k i : Nat) (L : aL) (st : List Value) (h : List aC) (Q : Option Value → List aC → Prop) : Prop := ∃ (n : Nat) (r : Option Value) (h' : List aC), a_go a_P a_df a_tx (a_sv fz) sc n d k i L st h = some (r, h') ∧ Q r h'
section VL
variable {fz : Value} {sc : Nat × (Nat → Int32)} {d k i : Nat} {L : aL} {st : List Value} {h : List aC} {Q : Option Value → List aC → Prop}
theorem v_deep {d' : Nat} (hd : d ≤ d') (hv : v_V fz sc d k i L st h Q) : v_V fz sc d' k i L st h Q := by
  obtain ⟨n, r, h', h1, h2⟩ := hv
  exact ⟨n, r, h', a_go_mono _ _ _ _ _ n n d d' k i L st h _ h1 (Nat.le_refl _) hd, h2⟩
theorem v_post {Q' : Option Value → List aC → Prop} (hv : v_V fz sc d k i L st h Q) (hq : ∀ r h', Q r h' → Q' r h') : v_V fz sc d k i L st h Q' := by
  obtain ⟨n, r, h', h1, h2⟩ := hv
  exact ⟨n, r, h', h1, hq r h' h2⟩
theorem v_weak {L' : aL} (hw : a_wk L' L) (hv : v_V fz sc d k i L' st h Q) : v_V fz sc d k i L st h Q := by
  obtain ⟨n, r, h', h1, h2⟩ := hv
  exact ⟨n, r, h', a_go_wk _ _ _ _ _ n d k i L' L st h _ hw h1, h2⟩
/-- c steps at once -/
theorem v_blk (c : Nat) {i' : Nat} {L' : aL} {st' : List Value} {h' : List aC} (hg : ∀ n, a_go a_P a_df a_tx (a_sv fz) sc (n + c) d k i L st h = a_go a_P a_df a_tx (a_sv fz) sc n d k i' L' st' h') (hv : v_V fz sc d k i' L' st' h' Q) : v_V fz sc d k i L st h Q := by
  obtain ⟨n, r, h2, h1, hq⟩ := hv
  exact ⟨n + c, r, h2, (hg n).trans h1, hq⟩
/-- c steps at once, the last one guarded -/
theorem v_grd (c : Nat) {g : Bool} {i' : Nat} {L' : aL} {st' : List Value} {h' : List aC} (hg : ∀ n, a_go a_P a_df a_tx (a_sv fz) sc (n + c) d k i L st h = bif g then a_go a_P a_df a_tx (a_sv fz) sc n d k i' L' st' h' else none) (ht : g = true) (hv : v_V fz sc d k i' L' st' h' Q) : v_V fz sc d k i L st h Q := by
  obtain ⟨n, r, h2, h1, hq⟩ := hv
  refine ⟨n + c, r, h2, ?_, hq⟩
  rw [hg, ht]
  exact h1
/-- c steps, the last a return -/
theorem v_ret (c : Nat) {r : Option Value} {h' : List aC} (hg : ∀ n, a_go a_P a_df a_tx (a_sv fz) sc (n + c) d k i L st h = some (r, h')) (hq : Q r h') : v_V fz sc d k i L st h Q := ⟨c, r, h', by simpa using hg 0, hq⟩
theorem v_retg (c : Nat) {g : Bool} {r : Option Value} {h' : List aC} (hg : ∀ n, a_go a_P a_df a_tx (a_sv fz) sc (n + c) d k i L st h = bif g then some (r, h') else none) (ht : g = true) (hq : Q r h') : v_V fz sc d k i L st h Q := ⟨c, r, h', by have := hg 0; rw [ht] at this; simpa using this, hq⟩
/-- c steps, the last a call -/
theorem v_call (c : Nat) {k' i' : Nat} {E L' : aL} {rest : List Value} {h1 : List aC} (hg : ∀ n, a_go a_P a_df a_tx (a_sv fz) sc (n + c) (d + 1) k i L st h = match a_go a_P a_df a_tx (a_sv fz) sc n d k' 0 E [] h1 with
    | some (rv, h') => a_go a_P a_df a_tx (a_sv fz) sc n (d + 1) k i' L' (rv.toList ++ rest) h'
    | none => none) (hv : v_V fz sc d k' 0 E [] h1 (fun rv h' => v_V fz sc (d + 1) k i' L' (rv.toList ++ rest) h' Q)) : v_V fz sc (d + 1) k i L st h Q := by
  obtain ⟨n1, rv, h', e1, n2, r, h2, e2, hq⟩ := hv
  refine ⟨max n1 n2 + c, r, h2, ?_, hq⟩
  rw [hg, a_go_mono _ _ _ _ _ n1 (max n1 n2) d d _ _ _ _ _ _ e1 (Nat.le_max_left _ _) (Nat.le_refl _)]
  exact a_go_mono _ _ _ _ _ n2 (max n1 n2) _ _ _ _ _ _ _ _ e2 (Nat.le_max_right _ _) (Nat.le_refl _)
theorem v_br {b : Bool} {i1 i2 : Nat} (h1 : b = true → v_V fz sc d k i1 L st h Q) (h2 : b = false → v_V fz sc d k i2 L st h Q) : v_V fz sc d k (bif b then i1 else i2) L st h Q := by
  cases b
  · exact h2 rfl
  · exact h1 rfl
end VL
end
section
/-! 30.mdef: the model's methods as pure functions (by program) -/
abbrev mS : Type := Nat → Nat → Int32
def m_bd {α β : Type} (o : Option (α × mS)) (f : α → mS → Option β) : Option β := match o with
  | some (r, A) => f r A
  | none => none
def m_st {β : Type} (A : mS) (f : mS → β) : β := f A
def m_li {β : Type} (x : Int32) (f : Int32 → β) : β := f x
def m_bs {β : Type} (o : Option Int32) (f : Int32 → Option β) : Option β := match o with
  | some r => f r
  | none => none
/-- a text's length, its char at j -/
def t_len (w : Nat) : Option Int32 := if w < 8 then some (Int32.ofNat (a_tx.getD w []).length) else none
def t_chr (w : Nat) (j : Int32) : Option Int32 := if w < 8 then (bif a_in j (a_tx.getD w []).length then some ((a_tx.getD w []).getD j.toNatClampNeg 0) else none) else none
/-- the heap: what lies ahead of the model's cells (c), the model's cells (arrays A 0 .. 9, fields A 99), what is made later (R) -/
def hM (c : Nat → aC) (A : mS) (R : List aC) : List aC :=
  c 0 :: c 1 :: c 2 :: c 3 :: c 4 :: c 5 :: c 6 :: c 7 :: c 8 :: c 9 :: c 10 :: c 11 :: c 12 :: c 13 :: c 14 :: c 15 :: c 16 :: c 17 :: c 18 :: c 19 :: c 20 :: c 21 ::
  .inr (12, [.int (A 99 0), .ref 23, .ref 24, .ref 25, .int (A 99 4), .int (A 99 5), .int (A 99 6), .int (A 99 7), .int (A 99 8), .int (A 99 9), .ref 26, .ref 27, .ref 28, .ref 29, .int (A 99 14), .int (A 99 15), .int (A 99 16), .int (A 99 17), .ref 30, .ref 31, .ref 32, .int (A 99 21), .int (A 99 22), .int (A 99 23), .int (A 99 24)]) ::
  .inl (0, 947, .inl (A 0)) :: .inl (0, 947, .inl (A 1)) :: .inl (0, 11, .inl (A 2)) :: .inl (0, 5, .inl (A 3)) :: .inl (1, 64, .inl (A 4)) :: .inl (0, 32, .inl (A 5)) :: .inl (0, 4, .inl (A 6)) :: .inl (0, 36, .inl (A 7)) :: .inl (0, 8, .inl (A 8)) :: .inl (0, 20, .inl (A 9)) :: R

/-- in -/
def g_112 (N : Nat) (x0 : Int32) (x1 : Int32) (x2 : Int32) (A : mS) : Option (Int32 × mS) :=
  bif (a_ic .lt x0 x1) then
    some ((0 : Int32), A)
  else
    bif (a_ic .gt x0 x2) then
      some ((0 : Int32), A)
    else
      some ((1 : Int32), A)
/-- isWeather -/
def g_113 (N : Nat) (x0 : Int32) (A : mS) : Option (Int32 × mS) :=
  m_bd (g_112 N x0 (0 : Int32) (3 : Int32) A) fun r1 A1 =>
  bif (decide (r1 = 0) || decide (r1 = 1)) then some (r1, A1) else none
/-- isPerson -/
def g_114 (N : Nat) (x1 : Int32) (A : mS) : Option (Int32 × mS) :=
  m_bd (g_112 N x1 (0 : Int32) (((A 0) 11) - (1 : Int32)) A) fun r1 A1 =>
  bif (decide (r1 = 0) || decide (r1 = 1)) then some (r1, A1) else none
def g_115_2b (N : Nat) (rc2 : Int32 → mS → Option (Int32 × mS)) (x1 : Int32) (A : mS) : Option (Int32 × mS) :=
  bif (a_ic .ge x1 (11 : Int32)) then
    some (0, A)
  else
    bif (a_in x1 947) then
    m_li ((A 0) (x1).toNatClampNeg) fun y1 =>
    bif (a_in x1 11) then
    m_st (va_up A 2 (upd (A 2) (x1).toNatClampNeg y1)) fun A2 =>
    rc2 (x1 + (1 : Int32)) A2
    else none
    else none
def g_115_2 (N : Nat) : Nat → Int32 → mS → Option (Int32 × mS)
  | 0 => fun _ _ => none
  | n + 1 => g_115_2b N (g_115_2 N n)
/-- keeps -/
def g_115 (N : Nat) (A : mS) : Option (Int32 × mS) :=
  g_115_2 N  N (0 : Int32) A
def g_116_2b (N : Nat) (rc2 : Int32 → mS → Option (Int32 × mS)) (x1 : Int32) (A : mS) : Option (Int32 × mS) :=
  bif (a_ic .ge x1 (11 : Int32)) then
    some (0, A)
  else
    bif (a_in x1 11) then
    m_li ((A 2) (x1).toNatClampNeg) fun y1 =>
    bif (a_in x1 947) then
    m_st (va_up A 0 (upd (A 0) (x1).toNatClampNeg y1)) fun A2 =>
    rc2 (x1 + (1 : Int32)) A2
    else none
    else none
def g_116_2 (N : Nat) : Nat → Int32 → mS → Option (Int32 × mS)
  | 0 => fun _ _ => none
  | n + 1 => g_116_2b N (g_116_2 N n)
/-- goesBack -/
def g_116 (N : Nat) (A : mS) : Option (Int32 × mS) :=
  g_116_2 N  N (0 : Int32) A
/-- feed -/
def g_117 (N : Nat) (x1 : Int32) (A : mS) : Option (Int32 × mS) :=
  m_bd (g_112 N x1 (0 : Int32) (127 : Int32) A) fun r1 A1 =>
  bif (a_ic .ne r1 (0 : Int32)) then
    bif (a_ic .ne ((A1 0) 16) (120 : Int32)) then
      bif (a_in ((20 : Int32) + ((A1 0) 16)) 947) then
      m_st (va_up A1 0 (upd (A1 0) (((20 : Int32) + ((A1 0) 16))).toNatClampNeg x1)) fun A2 =>
      some (((upd (A2 0) 16 (((A2 0) 16) + (1 : Int32))) 16), (va_up A2 0 (upd (A2 0) 16 (((A2 0) 16) + (1 : Int32)))))
      else none
    else
      some ((-4 : Int32), A1)
  else
    some ((-2 : Int32), A1)
/-- here -/
def g_118 (N : Nat) (A : mS) : Option (Int32 × mS) :=
  bif (a_ic .ge (A 99 6) (A 99 7)) then
    some ((-1 : Int32), A)
  else
    bif (a_in ((20 : Int32) + (A 99 6)) 947) then
    m_li ((A 0) (((20 : Int32) + (A 99 6))).toNatClampNeg) fun y1 =>
    some (y1, A)
    else none
def g_119_11 (N : Nat) (t1 : Int32) (A : mS) : Option (Int32 × mS) :=
  bif (decide (t1 = 0) || decide (t1 = 1)) then
  m_st (va_up A 99 (upd (A 99) 8 t1)) fun A2 =>
  bif (a_ic .eq (A2 99 8) (0 : Int32)) then
    some (0, (va_up A2 99 (upd (A2 99) 6 ((A2 99 6) + (1 : Int32)))))
  else
    some (0, (va_up A2 99 (upd (A2 99) 6 ((A2 99 6) + (0 : Int32)))))
  else none
def g_119_8 (N : Nat) (A : mS) : Option (Int32 × mS) :=
  g_119_11 N  (1 : Int32) A
/-- must -/
def g_119 (N : Nat) (x1 : Int32) (A : mS) : Option (Int32 × mS) :=
  bif (a_ic .ne (A 99 8) (0 : Int32)) then
    g_119_8 N   A
  else
    m_bd (g_118 N  A) fun r1 A1 =>
    bif (a_ic .eq r1 x1) then
      g_119_11 N  (0 : Int32) A1
    else
      g_119_8 N   A1
def g_120_2b (N : Nat) (rc2 : Nat → Int32 → mS → Option (Int32 × mS)) (x1 : Nat) (x2 : Int32) (A : mS) : Option (Int32 × mS) :=
  m_bs (t_len x1) fun r1 =>
  bif (a_ic .ge x2 r1) then
    some (0, A)
  else
    m_bs (t_chr x1 x2) fun r2 =>
    m_bd (g_119 N r2 A) fun r3 A3 =>
    rc2 x1 (x2 + (1 : Int32)) A3
def g_120_2 (N : Nat) : Nat → Nat → Int32 → mS → Option (Int32 × mS)
  | 0 => fun _ _ _ => none
  | n + 1 => g_120_2b N (g_120_2 N n)
/-- spells -/
def g_120 (N : Nat) (x1 : Nat) (A : mS) : Option (Int32 × mS) :=
  g_120_2 N  N x1 (0 : Int32) A
def g_121_34 (N : Nat) (rc18 : Int32 → Int32 → mS → Option (Int32 × mS)) (x1 : Int32) (x2 : Int32) (A : mS) : Option (Int32 × mS) :=
  m_bd (g_118 N  A) fun r5 A5 =>
  rc18 ((((10 : Int32) * x1) + r5) - (48 : Int32)) (x2 + (1 : Int32)) (va_up A5 99 (upd (A5 99) 6 ((A5 99 6) + (1 : Int32))))
def g_121_18b (N : Nat) (rc18 : Int32 → Int32 → mS → Option (Int32 × mS)) (x1 : Int32) (x2 : Int32) (A : mS) : Option (Int32 × mS) :=
  bif (a_ic .ge x2 (2 : Int32)) then
    some (x1, A)
  else
    bif (a_ic .ne (A 99 8) (0 : Int32)) then
      some (x1, A)
    else
      m_bd (g_118 N  A) fun r3 A3 =>
      m_bd (g_112 N r3 (48 : Int32) (57 : Int32) A3) fun r4 A4 =>
      bif (a_ic .eq r4 (0 : Int32)) then
        some (x1, A4)
      else
        bif (a_ic .eq x2 (0 : Int32)) then
          g_121_34 N rc18 x1 x2 A4
        else
          bif (a_ic .le x1 (0 : Int32)) then
            some (x1, A4)
          else
            g_121_34 N rc18 x1 x2 A4
def g_121_18 (N : Nat) : Nat → Int32 → Int32 → mS → Option (Int32 × mS)
  | 0 => fun _ _ _ => none
  | n + 1 => g_121_18b N (g_121_18 N n)
def g_121_10 (N : Nat) (A : mS) : Option (Int32 × mS) :=
  g_121_18 N  N (0 : Int32) (0 : Int32) (va_up A 99 (upd (A 99) 8 (1 : Int32)))
/-- figures -/
def g_121 (N : Nat) (A : mS) : Option (Int32 × mS) :=
  bif (a_ic .ne (A 99 8) (0 : Int32)) then
    g_121_10 N   A
  else
    m_bd (g_118 N  A) fun r1 A1 =>
    m_bd (g_112 N r1 (48 : Int32) (57 : Int32) A1) fun r2 A2 =>
    bif (a_ic .ne r2 (0 : Int32)) then
      g_121_18 N  N (0 : Int32) (0 : Int32) (va_up A2 99 (upd (A2 99) 8 (0 : Int32)))
    else
      g_121_10 N   A2
def g_122_2b (N : Nat) (rc2 : Nat → Int32 → mS → Option (Int32 × mS)) (x1 : Nat) (x2 : Int32) (A : mS) : Option (Int32 × mS) :=
  m_bs (t_len x1) fun r1 =>
  bif (a_ic .ge x2 r1) then
    some ((-1 : Int32), A)
  else
    m_bd (g_118 N  A) fun r2 A2 =>
    m_bs (t_chr x1 x2) fun r3 =>
    bif (a_ic .ne r2 r3) then
      rc2 x1 (x2 + (1 : Int32)) A2
    else
      some (x2, (va_up A2 99 (upd (A2 99) 6 ((A2 99 6) + (1 : Int32)))))
def g_122_2 (N : Nat) : Nat → Nat → Int32 → mS → Option (Int32 × mS)
  | 0 => fun _ _ _ => none
  | n + 1 => g_122_2b N (g_122_2 N n)
/-- among -/
def g_122 (N : Nat) (x1 : Nat) (A : mS) : Option (Int32 × mS) :=
  g_122_2 N  N x1 (0 : Int32) A
/-- emits -/
def g_123 (N : Nat) (x1 : Int32) (A : mS) : Option (Int32 × mS) :=
  bif (a_ic .ne (A 99 8) (0 : Int32)) then
    some (0, A)
  else
    bif (a_in ((242 : Int32) + (A 99 5)) 947) then
    m_li ((A 0) (((242 : Int32) + (A 99 5))).toNatClampNeg) fun y1 =>
    bif (a_in (((247 : Int32) + ((140 : Int32) * (A 99 5))) + y1) 947) then
    m_st (va_up A 0 (upd (A 0) ((((247 : Int32) + ((140 : Int32) * (A 99 5))) + y1)).toNatClampNeg x1)) fun A2 =>
    bif (a_in ((242 : Int32) + (A2 99 5)) 947) then
    m_li ((A2 0) (((242 : Int32) + (A2 99 5))).toNatClampNeg) fun y3 =>
    bif (a_in ((242 : Int32) + (A2 99 5)) 947) then
    m_st (va_up A2 0 (upd (A2 0) (((242 : Int32) + (A2 99 5))).toNatClampNeg (y3 + (1 : Int32)))) fun A4 =>
    some (0, A4)
    else none
    else none
    else none
    else none
def g_125_2b (N : Nat) (rf : mS → Option (Int32 × mS)) (rc2 : mS → Option (Int32 × mS)) (A : mS) : Option (Int32 × mS) :=
  bif (a_ic .ne (A 99 8) (0 : Int32)) then
    some (0, A)
  else
    m_bd (g_118 N  A) fun r2 A2 =>
    bif (a_ic .ne r2 (38 : Int32)) then
      some (0, A2)
    else
      m_bd (rf (va_up A2 99 (upd (A2 99) 6 ((A2 99 6) + (1 : Int32))))) fun r3 A3 =>
      m_bd (g_123 N (-2 : Int32) A3) fun r4 A4 =>
      rc2  A4
def g_125_2 (N : Nat) (rf : mS → Option (Int32 × mS)) : Nat → mS → Option (Int32 × mS)
  | 0 => fun  _ => none
  | n + 1 => g_125_2b N rf (g_125_2 N rf n)
/-- every -/
def g_125 (N : Nat) (rf : mS → Option (Int32 × mS)) (A : mS) : Option (Int32 × mS) :=
  m_bd (rf A) fun r1 A1 =>
  g_125_2 N rf  N  A1
def g_126_2b (N : Nat) (rf : mS → Option (Int32 × mS)) (rc2 : mS → Option (Int32 × mS)) (A : mS) : Option (Int32 × mS) :=
  bif (a_ic .ne (A 99 8) (0 : Int32)) then
    some (0, A)
  else
    m_bd (g_118 N  A) fun r2 A2 =>
    bif (a_ic .ne r2 (124 : Int32)) then
      some (0, A2)
    else
      m_bd (g_125 N rf (va_up A2 99 (upd (A2 99) 6 ((A2 99 6) + (1 : Int32))))) fun r3 A3 =>
      m_bd (g_123 N (-3 : Int32) A3) fun r4 A4 =>
      rc2  A4
def g_126_2 (N : Nat) (rf : mS → Option (Int32 × mS)) : Nat → mS → Option (Int32 × mS)
  | 0 => fun  _ => none
  | n + 1 => g_126_2b N rf (g_126_2 N rf n)
/-- some -/
def g_126 (N : Nat) (rf : mS → Option (Int32 × mS)) (A : mS) : Option (Int32 × mS) :=
  m_bd (g_125 N rf A) fun r1 A1 =>
  g_126_2 N rf  N  A1
def g_124_91 (N : Nat) (rf : mS → Option (Int32 × mS)) (x2 : Int32) (x3 : Int32) (t1 : Int32) (A : mS) : Option (Int32 × mS) :=
  bif (decide (t1 = 0) || decide (t1 = 1)) then
  m_st (va_up A 99 (upd (A 99) 8 t1)) fun A14 =>
  m_bd (g_121 N  A14) fun r15 A15 =>
  m_bd (g_123 N ((x2 + ((8 : Int32) * x3)) + ((32 : Int32) * r15)) A15) fun r16 A16 =>
  some (0, A16)
  else none
def g_124_88 (N : Nat) (rf : mS → Option (Int32 × mS)) (x2 : Int32) (x3 : Int32) (A : mS) : Option (Int32 × mS) :=
  g_124_91 N rf  x2 x3 (1 : Int32) A
def g_124_80 (N : Nat) (rf : mS → Option (Int32 × mS)) (x2 : Int32) (t0 : Int32) (A : mS) : Option (Int32 × mS) :=
  bif (a_ic .ne (A 99 8) (0 : Int32)) then
    g_124_88 N rf  x2 t0 A
  else
    bif (a_ic .ne t0 (-1 : Int32)) then
      g_124_91 N rf  x2 t0 (0 : Int32) A
    else
      g_124_88 N rf  x2 t0 A
def g_124_71 (N : Nat) (rf : mS → Option (Int32 × mS)) (x2 : Int32) (t1 : Int32) (A : mS) : Option (Int32 × mS) :=
  bif (decide (t1 = 0) || decide (t1 = 1)) then
  m_st (va_up A 99 (upd (A 99) 8 t1)) fun A3 =>
  bif (a_ic .eq (A3 99 8) (0 : Int32)) then
    m_bd (g_122 N 7 A3) fun r4 A4 =>
    g_124_80 N rf  x2 r4 A4
  else
    g_124_80 N rf  x2 (0 : Int32) A3
  else none
def g_124_37 (N : Nat) (rf : mS → Option (Int32 × mS)) (x1 : Int32) (t1 : Int32) (t2 : Int32) (A : mS) : Option (Int32 × mS) :=
  bif (a_ic .ne x1 (33 : Int32)) then
    m_st (va_up A 99 (upd (A 99) 6 (t1 + t2))) fun A8 =>
    m_bd (g_126 N rf A8) fun r9 A9 =>
    m_bd (g_119 N (41 : Int32) A9) fun r10 A10 =>
    some (0, (va_up A10 99 (upd (A10 99) 9 ((A10 99 9) - (1 : Int32)))))
  else
    m_st (va_up A 99 (upd (A 99) 6 (t1 + t2))) fun A11 =>
    m_bd (rf A11) fun r12 A12 =>
    m_bd (g_123 N (-1 : Int32) A12) fun r13 A13 =>
    some (0, (va_up A13 99 (upd (A13 99) 9 ((A13 99 9) - (1 : Int32)))))
def g_124_21 (N : Nat) (rf : mS → Option (Int32 × mS)) (x1 : Int32) (t1 : Int32) (A : mS) : Option (Int32 × mS) :=
  bif (decide (t1 = 0) || decide (t1 = 1)) then
  m_st (va_up A 99 (upd (A 99) 8 t1)) fun A5 =>
  bif (a_ic .eq (A5 99 8) (0 : Int32)) then
    m_st (va_up A5 99 (upd (A5 99) 9 ((A5 99 9) + (1 : Int32)))) fun A6 =>
    g_124_37 N rf  x1 (A5 99 6) (1 : Int32) A6
  else
    m_st (va_up A5 99 (upd (A5 99) 9 ((A5 99 9) + (1 : Int32)))) fun A7 =>
    g_124_37 N rf  x1 (A5 99 6) (0 : Int32) A7
  else none
def g_124_13 (N : Nat) (rf : mS → Option (Int32 × mS)) (x1 : Int32) (A : mS) : Option (Int32 × mS) :=
  bif (a_ic .ne (A 99 9) (5 : Int32)) then
    g_124_21 N rf  x1 (0 : Int32) A
  else
    g_124_21 N rf  x1 (1 : Int32) A
/-- factor -/
def g_124 (N : Nat) (rf : mS → Option (Int32 × mS)) (A : mS) : Option (Int32 × mS) :=
  bif (a_ic .eq (A 99 8) (0 : Int32)) then
    m_bd (g_118 N  A) fun r1 A1 =>
    bif (a_ic .eq r1 (33 : Int32)) then
      g_124_13 N rf  r1 A1
    else
      bif (a_ic .ne r1 (40 : Int32)) then
        m_bd (g_122 N 6 A1) fun r2 A2 =>
        bif (a_ic .ne r2 (-1 : Int32)) then
          g_124_71 N rf  r2 (0 : Int32) A2
        else
          g_124_71 N rf  r2 (1 : Int32) A2
      else
        g_124_13 N rf  r1 A1
  else
    some (0, A)
/-- factor, q deep -/
def g_fac (N : Nat) : Nat → mS → Option (Int32 × mS)
  | 0 => fun _ => none
  | q + 1 => g_124 N (g_fac N q)
/-- much -/
def g_127 (N : Nat) (x1 : Int32) (x2 : Nat) (A : mS) : Option (Int32 × mS) :=
  m_bd (g_120 N x2 A) fun r1 A1 =>
  m_bd (g_121 N  A1) fun r2 A2 =>
  m_bd (g_119 N (32 : Int32) A2) fun r3 A3 =>
  m_bd (g_126 N (g_fac N 8) A3) fun r4 A4 =>
  m_bd (g_123 N (x1 - r2) A4) fun r5 A5 =>
  some (0, A5)
def g_128_16 (N : Nat) (t1 : Int32) (A : mS) : Option (Int32 × mS) :=
  bif (decide (t1 = 0) || decide (t1 = 1)) then
  m_st (va_up A 99 (upd (A 99) 8 t1)) fun A4 =>
  bif (a_ic .ne (A4 99 8) (0 : Int32)) then
    some (0, A4)
  else
    m_bd (g_118 N  A4) fun r5 A5 =>
    bif (a_in ((232 : Int32) + (A4 99 5)) 947) then
    m_st (va_up A5 0 (upd (A5 0) (((232 : Int32) + (A4 99 5))).toNatClampNeg (r5 - (48 : Int32)))) fun A6 =>
    some (0, (va_up A6 99 (upd (A6 99) 6 ((A6 99 6) + (1 : Int32)))))
    else none
  else none
def g_128_13 (N : Nat) (A : mS) : Option (Int32 × mS) :=
  g_128_16 N  (1 : Int32) A
/-- ruleHere -/
def g_128 (N : Nat) (A : mS) : Option (Int32 × mS) :=
  m_bd (g_120 N 1 A) fun r1 A1 =>
  bif (a_ic .ne (A1 99 8) (0 : Int32)) then
    g_128_13 N   A1
  else
    m_bd (g_118 N  A1) fun r2 A2 =>
    m_bd (g_112 N r2 (48 : Int32) (50 : Int32) A2) fun r3 A3 =>
    bif (a_ic .ne r3 (0 : Int32)) then
      g_128_16 N  (0 : Int32) A3
    else
      g_128_13 N   A3
/-- giftHere -/
def g_129 (N : Nat) (A : mS) : Option (Int32 × mS) :=
  m_bd (g_120 N 2 A) fun r1 A1 =>
  m_bd (g_121 N  A1) fun r2 A2 =>
  bif (a_ic .ne (A2 99 8) (0 : Int32)) then
    some (0, A2)
  else
    bif (a_in ((237 : Int32) + (A2 99 5)) 947) then
    m_st (va_up A2 0 (upd (A2 0) (((237 : Int32) + (A2 99 5))).toNatClampNeg r2)) fun A3 =>
    some (0, A3)
    else none
/-- clauseHere -/
def g_130 (N : Nat) (A : mS) : Option (Int32 × mS) :=
  m_bd (g_118 N  A) fun r1 A1 =>
  if (a_lsw 19 [(103, 74), (104, 55), (114, 67), (119, 44)] [16, 8, 13, 3] r1) = 16 then
    m_bd (g_129 N  A1) fun r2 A2 =>
    some (0, A2)
  else if (a_lsw 19 [(103, 74), (104, 55), (114, 67), (119, 44)] [16, 8, 13, 3] r1) = 8 then
    m_bd (g_127 N (-200 : Int32) 0 A1) fun r3 A3 =>
    some (0, A3)
  else if (a_lsw 19 [(103, 74), (104, 55), (114, 67), (119, 44)] [16, 8, 13, 3] r1) = 13 then
    m_bd (g_128 N  A1) fun r4 A4 =>
    some (0, A4)
  else if (a_lsw 19 [(103, 74), (104, 55), (114, 67), (119, 44)] [16, 8, 13, 3] r1) = 3 then
    m_bd (g_127 N (-10 : Int32) 3 A1) fun r5 A5 =>
    some (0, A5)
  else if (a_lsw 19 [(103, 74), (104, 55), (114, 67), (119, 44)] [16, 8, 13, 3] r1) = 19 then
    some (0, (va_up A1 99 (upd (A1 99) 8 (1 : Int32))))
  else none
def g_131_82 (N : Nat) (A : mS) : Option (Int32 × mS) :=
  bif (a_ic .ne (A 99 8) (0 : Int32)) then
    m_li ((-10 : Int32) - (A 99 6)) fun y7 =>
    some (y7, A)
  else
    bif (a_ic .eq (A 99 6) (A 99 7)) then
      some ((A 99 5), (va_up A 0 (upd (upd (A 0) 12 (((A 0) 12) + (1 : Int32))) 17 (A 99 5))))
    else
      m_li ((-10 : Int32) - (A 99 6)) fun y8 =>
      some (y8, A)
def g_131_62b (N : Nat) (rc62 : Int32 → mS → Option (Int32 × mS)) (x1 : Int32) (A : mS) : Option (Int32 × mS) :=
  bif (a_ic .ne (A 99 8) (0 : Int32)) then
    g_131_82 N   A
  else
    bif (a_ic .ge x1 (10 : Int32)) then
      g_131_82 N   A
    else
      m_bd (g_118 N  A) fun r5 A5 =>
      bif (a_ic .ne r5 (59 : Int32)) then
        g_131_82 N   A5
      else
        m_bd (g_130 N  (va_up A5 99 (upd (A5 99) 6 ((A5 99 6) + (1 : Int32))))) fun r6 A6 =>
        rc62 (x1 + (1 : Int32)) A6
def g_131_62 (N : Nat) : Nat → Int32 → mS → Option (Int32 × mS)
  | 0 => fun _ _ => none
  | n + 1 => g_131_62b N (g_131_62 N n)
/-- valley -/
def g_131 (N : Nat) (A : mS) : Option (Int32 × mS) :=
  bif (a_ic .ne ((A 0) 12) (5 : Int32)) then
    bif (a_in ((232 : Int32) + ((A 0) 12)) 947) then
    m_st (va_up (va_up A 0 (upd (upd (A 0) 16 (0 : Int32)) (((232 : Int32) + ((A 0) 12))).toNatClampNeg (0 : Int32))) 99 (upd (upd (A 99) 5 ((A 0) 12)) 7 ((A 0) 16))) fun A1 =>
    bif (a_in ((237 : Int32) + (A1 99 5)) 947) then
    m_st (va_up A1 0 (upd (A1 0) (((237 : Int32) + (A1 99 5))).toNatClampNeg (0 : Int32))) fun A2 =>
    bif (a_in ((242 : Int32) + (A2 99 5)) 947) then
    m_st (va_up A2 0 (upd (A2 0) (((242 : Int32) + (A2 99 5))).toNatClampNeg (0 : Int32))) fun A3 =>
    m_bd (g_130 N  (va_up A3 99 (upd (upd (upd (A3 99) 6 (0 : Int32)) 8 (0 : Int32)) 9 (0 : Int32)))) fun r4 A4 =>
    g_131_62 N  N (1 : Int32) A4
    else none
    else none
    else none
  else
    some ((-4 : Int32), A)
/-- tellsOf -/
def g_132 (N : Nat) (x1 : Int32) (A : mS) : Option (Int32 × mS) :=
  bif (a_ic .ne ((A 0) 17) (-1 : Int32)) then
    bif (a_in (x1 + ((A 0) 17)) 947) then
    m_li ((A 0) ((x1 + ((A 0) 17))).toNatClampNeg) fun y1 =>
    some (y1, A)
    else none
  else
    some ((0 : Int32), A)
def g_133_188 (N : Nat) (rc51 : Int32 → Int32 → Int32 → Int32 → Int32 → mS → Option (Int32 × mS)) (x5 : Int32) (x6 : Int32) (x7 : Int32) (x8 : Int32) (x9 : Int32) (t0 : Int32) (A : mS) : Option (Int32 × mS) :=
  bif (a_ic .eq ((A 4) 0) (0 : Int32)) then
    rc51 (x5 + (0 : Int32)) x6 x7 x8 (x9 + (1 : Int32)) A
  else
    rc51 (x5 + t0) x6 x7 x8 (x9 + (1 : Int32)) A
def g_133_51b (N : Nat) (rc51 : Int32 → Int32 → Int32 → Int32 → Int32 → mS → Option (Int32 × mS)) (x5 : Int32) (x6 : Int32) (x7 : Int32) (x8 : Int32) (x9 : Int32) (A : mS) : Option (Int32 × mS) :=
  bif (a_ic .ge x9 (x7 + x6)) then
    some (x5, A)
  else
    bif (a_in x9 947) then
    m_li ((A 0) (x9).toNatClampNeg) fun y4 =>
    bif (a_ic .lt y4 (0 : Int32)) then
      bif (a_ic .ne y4 (-1 : Int32)) then
        bif (a_ic .le y4 (-10 : Int32)) then
          bif (a_ic .le y4 (-200 : Int32)) then
            m_li (y4 - (-200 : Int32)) fun y5 =>
            g_133_188 N rc51 x5 x6 x7 (0 : Int32) x9 y5 A
          else
            m_li ((-10 : Int32) - y4) fun y6 =>
            g_133_188 N rc51 x5 x6 x7 (0 : Int32) x9 y6 A
        else
          m_li (x8 + (-1 : Int32)) fun y7 =>
          bif (a_ic .ne y4 (-2 : Int32)) then
            bif (a_in (y7 - (1 : Int32)) 64) then
            m_li ((A 4) ((y7 - (1 : Int32))).toNatClampNeg) fun y8 =>
            bif (a_ic .ne y8 (0 : Int32)) then
              bif (a_in (y7 - (1 : Int32)) 64 && (decide ((1 : Int32) = 0) || decide ((1 : Int32) = 1))) then
              m_st (va_up A 4 (upd (A 4) ((y7 - (1 : Int32))).toNatClampNeg (1 : Int32))) fun A9 =>
              rc51 x5 x6 x7 y7 (x9 + (1 : Int32)) A9
              else none
            else
              bif (a_in y7 64) then
              m_li ((A 4) (y7).toNatClampNeg) fun y10 =>
              bif (a_ic .eq y10 (0 : Int32)) then
                bif (a_in (y7 - (1 : Int32)) 64 && (decide ((0 : Int32) = 0) || decide ((0 : Int32) = 1))) then
                m_st (va_up A 4 (upd (A 4) ((y7 - (1 : Int32))).toNatClampNeg (0 : Int32))) fun A11 =>
                rc51 x5 x6 x7 y7 (x9 + (1 : Int32)) A11
                else none
              else
                bif (a_in (y7 - (1 : Int32)) 64 && (decide ((1 : Int32) = 0) || decide ((1 : Int32) = 1))) then
                m_st (va_up A 4 (upd (A 4) ((y7 - (1 : Int32))).toNatClampNeg (1 : Int32))) fun A12 =>
                rc51 x5 x6 x7 y7 (x9 + (1 : Int32)) A12
                else none
              else none
            else none
          else
            bif (a_in (y7 - (1 : Int32)) 64) then
            m_li ((A 4) ((y7 - (1 : Int32))).toNatClampNeg) fun y13 =>
            bif (a_ic .eq y13 (0 : Int32)) then
              bif (a_in (y7 - (1 : Int32)) 64 && (decide ((0 : Int32) = 0) || decide ((0 : Int32) = 1))) then
              m_st (va_up A 4 (upd (A 4) ((y7 - (1 : Int32))).toNatClampNeg (0 : Int32))) fun A14 =>
              rc51 x5 x6 x7 y7 (x9 + (1 : Int32)) A14
              else none
            else
              bif (a_in y7 64) then
              m_li ((A 4) (y7).toNatClampNeg) fun y15 =>
              bif (a_ic .eq y15 (0 : Int32)) then
                bif (a_in (y7 - (1 : Int32)) 64 && (decide ((0 : Int32) = 0) || decide ((0 : Int32) = 1))) then
                m_st (va_up A 4 (upd (A 4) ((y7 - (1 : Int32))).toNatClampNeg (0 : Int32))) fun A16 =>
                rc51 x5 x6 x7 y7 (x9 + (1 : Int32)) A16
                else none
              else
                bif (a_in (y7 - (1 : Int32)) 64 && (decide ((1 : Int32) = 0) || decide ((1 : Int32) = 1))) then
                m_st (va_up A 4 (upd (A 4) ((y7 - (1 : Int32))).toNatClampNeg (1 : Int32))) fun A17 =>
                rc51 x5 x6 x7 y7 (x9 + (1 : Int32)) A17
                else none
              else none
            else none
      else
        bif (a_in (x8 - (1 : Int32)) 64) then
        m_li ((A 4) ((x8 - (1 : Int32))).toNatClampNeg) fun y18 =>
        bif (a_ic .ne y18 (0 : Int32)) then
          bif (a_in (x8 - (1 : Int32)) 64 && (decide ((0 : Int32) = 0) || decide ((0 : Int32) = 1))) then
          m_st (va_up A 4 (upd (A 4) ((x8 - (1 : Int32))).toNatClampNeg (0 : Int32))) fun A19 =>
          rc51 x5 x6 x7 x8 (x9 + (1 : Int32)) A19
          else none
        else
          bif (a_in (x8 - (1 : Int32)) 64 && (decide ((1 : Int32) = 0) || decide ((1 : Int32) = 1))) then
          m_st (va_up A 4 (upd (A 4) ((x8 - (1 : Int32))).toNatClampNeg (1 : Int32))) fun A20 =>
          rc51 x5 x6 x7 x8 (x9 + (1 : Int32)) A20
          else none
        else none
    else
      m_li (y4 - y4 / (8 : Int32) * (8 : Int32)) fun y21 =>
      bif (a_in y21 5) then
      m_li ((A 3) (y21).toNatClampNeg) fun y22 =>
      m_li (y4 / (8 : Int32)) fun y23 =>
      m_li (y23 - y23 / (4 : Int32) * (4 : Int32)) fun y24 =>
      m_li (y4 / (32 : Int32)) fun y25 =>
      bif (a_ic .ne y24 (0 : Int32)) then
        bif (a_ic .ne y24 (1 : Int32)) then
          bif (a_ic .le y22 y25) then
            bif (a_in x8 64 && (decide ((0 : Int32) = 0) || decide ((0 : Int32) = 1))) then
            m_st (va_up A 4 (upd (A 4) (x8).toNatClampNeg (0 : Int32))) fun A26 =>
            rc51 x5 x6 x7 (x8 + (1 : Int32)) (x9 + (1 : Int32)) A26
            else none
          else
            bif (a_in x8 64 && (decide ((1 : Int32) = 0) || decide ((1 : Int32) = 1))) then
            m_st (va_up A 4 (upd (A 4) (x8).toNatClampNeg (1 : Int32))) fun A27 =>
            rc51 x5 x6 x7 (x8 + (1 : Int32)) (x9 + (1 : Int32)) A27
            else none
        else
          bif (a_ic .ne y22 y25) then
            bif (a_in x8 64 && (decide ((0 : Int32) = 0) || decide ((0 : Int32) = 1))) then
            m_st (va_up A 4 (upd (A 4) (x8).toNatClampNeg (0 : Int32))) fun A28 =>
            rc51 x5 x6 x7 (x8 + (1 : Int32)) (x9 + (1 : Int32)) A28
            else none
          else
            bif (a_in x8 64 && (decide ((1 : Int32) = 0) || decide ((1 : Int32) = 1))) then
            m_st (va_up A 4 (upd (A 4) (x8).toNatClampNeg (1 : Int32))) fun A29 =>
            rc51 x5 x6 x7 (x8 + (1 : Int32)) (x9 + (1 : Int32)) A29
            else none
      else
        bif (a_ic .ge y22 y25) then
          bif (a_in x8 64 && (decide ((0 : Int32) = 0) || decide ((0 : Int32) = 1))) then
          m_st (va_up A 4 (upd (A 4) (x8).toNatClampNeg (0 : Int32))) fun A30 =>
          rc51 x5 x6 x7 (x8 + (1 : Int32)) (x9 + (1 : Int32)) A30
          else none
        else
          bif (a_in x8 64 && (decide ((1 : Int32) = 0) || decide ((1 : Int32) = 1))) then
          m_st (va_up A 4 (upd (A 4) (x8).toNatClampNeg (1 : Int32))) fun A31 =>
          rc51 x5 x6 x7 (x8 + (1 : Int32)) (x9 + (1 : Int32)) A31
          else none
      else none
    else none
def g_133_51 (N : Nat) : Nat → Int32 → Int32 → Int32 → Int32 → Int32 → mS → Option (Int32 × mS)
  | 0 => fun _ _ _ _ _ _ => none
  | n + 1 => g_133_51b N (g_133_51 N n)
/-- worthOf -/
def g_133 (N : Nat) (x1 : Int32) (x2 : Int32) (x3 : Int32) (x4 : Int32) (A : mS) : Option (Int32 × mS) :=
  m_li (x4 - x4 / (7 : Int32) * (7 : Int32)) fun y1 =>
  bif (a_in ((140 : Int32) + x1) 947) then
  m_st (va_up A 3 (upd (upd (upd (upd (A 3) 0 x2) 1 x3) 2 y1) 3 x1)) fun A2 =>
  m_bd (g_132 N (242 : Int32) (va_up A2 3 (upd (A2 3) 4 ((A 0) (((140 : Int32) + x1)).toNatClampNeg)))) fun r3 A3 =>
  g_133_51 N  N (0 : Int32) r3 ((247 : Int32) + ((140 : Int32) * ((A3 0) 17))) (0 : Int32) ((247 : Int32) + ((140 : Int32) * ((A3 0) 17))) A3
  else none
/-- worthNow -/
def g_134 (N : Nat) (x1 : Int32) (x2 : Int32) (A : mS) : Option (Int32 × mS) :=
  m_bd (g_133 N x1 x2 ((A 0) 1) ((A 0) 0) A) fun r1 A1 =>
  some (r1, A1)
def g_135_4b (N : Nat) (rc4 : Int32 → Int32 → Int32 → Int32 → Int32 → mS → Option (Int32 × mS)) (x1 : Int32) (x2 : Int32) (x3 : Int32) (x4 : Int32) (x5 : Int32) (A : mS) : Option (Int32 × mS) :=
  bif (a_ic .ge x5 ((A 0) 11)) then
    some (x4, A)
  else
    m_bd (g_133 N x5 x1 x2 x3 A) fun r1 A1 =>
    rc4 x1 x2 x3 (x4 + r1) (x5 + (1 : Int32)) A1
def g_135_4 (N : Nat) : Nat → Int32 → Int32 → Int32 → Int32 → Int32 → mS → Option (Int32 × mS)
  | 0 => fun _ _ _ _ _ _ => none
  | n + 1 => g_135_4b N (g_135_4 N n)
/-- worthToAll -/
def g_135 (N : Nat) (x1 : Int32) (x2 : Int32) (x3 : Int32) (A : mS) : Option (Int32 × mS) :=
  g_135_4 N  N x1 x2 x3 (0 : Int32) (0 : Int32) A
/-- fortuneNext -/
def g_136 (N : Nat) (A : mS) : Option (Int32 × mS) :=
  bif (a_ic .ne ((A 0) 13) (0 : Int32)) then
    bif (decide (¬ ((A 0) 13) = 0)) then
    m_li (((A 0) 2) - ((A 0) 2) / ((A 0) 13) * ((A 0) 13)) fun y1 =>
    bif (a_in ((188 : Int32) + y1) 947) then
    m_li ((A 0) (((188 : Int32) + y1)).toNatClampNeg) fun y2 =>
    some (y2, A)
    else none
    else none
  else
    some ((0 : Int32), A)
/-- told -/
def g_137 (N : Nat) (x1 : Int32) (A : mS) : Option (Int32 × mS) :=
  if (a_tsw 0 4 23 [2, 6, 10, 15, 20] x1) = 2 then
    m_bd (g_132 N (232 : Int32) A) fun r1 A1 =>
    some (r1, A1)
  else if (a_tsw 0 4 23 [2, 6, 10, 15, 20] x1) = 6 then
    m_bd (g_132 N (237 : Int32) A) fun r2 A2 =>
    some (r2, A2)
  else if (a_tsw 0 4 23 [2, 6, 10, 15, 20] x1) = 10 then
    some (((A 0) 0), A)
  else if (a_tsw 0 4 23 [2, 6, 10, 15, 20] x1) = 15 then
    some (((A 0) 1), A)
  else if (a_tsw 0 4 23 [2, 6, 10, 15, 20] x1) = 20 then
    m_bd (g_136 N  A) fun r3 A3 =>
    some (r3, A3)
  else if (a_tsw 0 4 23 [2, 6, 10, 15, 20] x1) = 23 then
    some ((-1 : Int32), A)
  else none
/-- fortune -/
def g_138 (N : Nat) (x1 : Int32) (A : mS) : Option (Int32 × mS) :=
  bif (a_ic .ne x1 (-1 : Int32)) then
    m_bd (g_113 N x1 A) fun r1 A1 =>
    bif (a_ic .ne r1 (0 : Int32)) then
      bif (a_ic .ne ((A1 0) 13) (12 : Int32)) then
        bif (a_in ((188 : Int32) + ((A1 0) 13)) 947) then
        m_st (va_up A1 0 (upd (A1 0) (((188 : Int32) + ((A1 0) 13))).toNatClampNeg x1)) fun A2 =>
        some (((upd (upd (A2 0) 13 (((A2 0) 13) + (1 : Int32))) 2 (0 : Int32)) 13), (va_up A2 0 (upd (upd (A2 0) 13 (((A2 0) 13) + (1 : Int32))) 2 (0 : Int32))))
        else none
      else
        some ((-4 : Int32), A1)
    else
      some ((-1 : Int32), A1)
  else
    some ((0 : Int32), (va_up A 0 (upd (upd (A 0) 13 (0 : Int32)) 2 (0 : Int32))))
def g_139_55b (N : Nat) (rc55 : Int32 → Int32 → mS → Option (Int32 × mS)) (x4 : Int32) (x5 : Int32) (A : mS) : Option (Int32 × mS) :=
  bif (a_ic .ge x5 (4 : Int32)) then
    some (x4, (va_up A 0 (upd (A 0) 11 (((A 0) 11) + (1 : Int32)))))
  else
    bif (a_in (((156 : Int32) + ((4 : Int32) * x4)) + x5) 947) then
    m_st (va_up A 0 (upd (A 0) ((((156 : Int32) + ((4 : Int32) * x4)) + x5)).toNatClampNeg (0 : Int32))) fun A7 =>
    rc55 x4 (x5 + (1 : Int32)) A7
    else none
def g_139_55 (N : Nat) : Nat → Int32 → Int32 → mS → Option (Int32 × mS)
  | 0 => fun _ _ _ => none
  | n + 1 => g_139_55b N (g_139_55 N n)
/-- person -/
def g_139 (N : Nat) (x1 : Int32) (x2 : Int32) (x3 : Int32) (A : mS) : Option (Int32 × mS) :=
  m_bd (g_112 N x1 (0 : Int32) (6 : Int32) A) fun r1 A1 =>
  bif (a_ic .ne r1 (0 : Int32)) then
    m_bd (g_112 N x2 (0 : Int32) (9 : Int32) A1) fun r2 A2 =>
    bif (a_ic .eq r2 (0 : Int32)) then
      some ((-2 : Int32), A2)
    else
      m_bd (g_112 N x3 (0 : Int32) (999 : Int32) A2) fun r3 A3 =>
      bif (a_ic .ne r3 (0 : Int32)) then
        bif (a_ic .ne ((A3 0) 11) (8 : Int32)) then
          bif (a_in ((140 : Int32) + ((A3 0) 11)) 947) then
          m_st (va_up A3 0 (upd (A3 0) (((140 : Int32) + ((A3 0) 11))).toNatClampNeg x1)) fun A4 =>
          bif (a_in ((148 : Int32) + ((A3 0) 11)) 947) then
          m_st (va_up A4 0 (upd (A4 0) (((148 : Int32) + ((A3 0) 11))).toNatClampNeg x2)) fun A5 =>
          bif (a_in ((3 : Int32) + ((A3 0) 11)) 947) then
          m_st (va_up A5 0 (upd (A5 0) (((3 : Int32) + ((A3 0) 11))).toNatClampNeg x3)) fun A6 =>
          g_139_55 N  N ((A3 0) 11) (0 : Int32) A6
          else none
          else none
          else none
        else
          some ((-4 : Int32), A3)
      else
        some ((-2 : Int32), A3)
  else
    some ((-1 : Int32), A1)
/-- row -/
def g_140 (N : Nat) (x1 : Int32) (x2 : Int32) (x3 : Int32) (A : mS) : Option (Int32 × mS) :=
  m_bd (g_114 N x1 A) fun r1 A1 =>
  bif (a_ic .eq r1 (0 : Int32)) then
    some ((-1 : Int32), A1)
  else
    m_bd (g_113 N x2 A1) fun r2 A2 =>
    bif (a_ic .ne r2 (0 : Int32)) then
      m_bd (g_112 N x3 (0 : Int32) (99 : Int32) A2) fun r3 A3 =>
      bif (a_ic .ne r3 (0 : Int32)) then
        bif (a_in ((140 : Int32) + x1) 947) then
        m_li ((A3 0) (((140 : Int32) + x1)).toNatClampNeg) fun y4 =>
        bif (a_ic .eq y4 (6 : Int32)) then
          bif (a_in (((156 : Int32) + ((4 : Int32) * x1)) + x2) 947) then
          m_li ((A3 0) ((((156 : Int32) + ((4 : Int32) * x1)) + x2)).toNatClampNeg) fun y5 =>
          bif (a_in (((156 : Int32) + ((4 : Int32) * x1)) + x2) 947) then
          m_st (va_up A3 0 (upd (A3 0) ((((156 : Int32) + ((4 : Int32) * x1)) + x2)).toNatClampNeg x3)) fun A6 =>
          some (y5, A6)
          else none
          else none
        else
          some ((-3 : Int32), A3)
        else none
      else
        some ((-2 : Int32), A3)
    else
      some ((-1 : Int32), A2)
/-- kept -/
def g_141 (N : Nat) (x1 : Int32) (x2 : Int32) (A : mS) : Option (Int32 × mS) :=
  bif (a_ic .ge x2 (0 : Int32)) then
    bif (a_in ((3 : Int32) + x1) 947) then
    m_li ((A 0) (((3 : Int32) + x1)).toNatClampNeg) fun y1 =>
    bif (a_ic .le x2 y1) then
      some (x2, A)
    else
      bif (a_in ((3 : Int32) + x1) 947) then
      m_li ((A 0) (((3 : Int32) + x1)).toNatClampNeg) fun y2 =>
      some (y2, A)
      else none
    else none
  else
    some ((0 : Int32), A)
def g_142_33 (N : Nat) (x1 : Int32) (x2 : Int32) (x3 : Int32) (t0 : Int32) (A : mS) : Option (Int32 × mS) :=
  bif (a_ic .eq t0 (0 : Int32)) then
    m_bd (g_134 N x1 x2 A) fun r5 A5 =>
    some (r5, A5)
  else
    m_bd (g_134 N x1 x2 A) fun r6 A6 =>
    m_bd (g_134 N x3 x2 A6) fun r7 A7 =>
    m_li ((r6 + r7) / (2 : Int32)) fun y8 =>
    some (y8, A7)
def g_142_32 (N : Nat) (x1 : Int32) (x2 : Int32) (x3 : Int32) (A : mS) : Option (Int32 × mS) :=
  g_142_33 N  x1 x2 x3 (0 : Int32) A
def g_142_30 (N : Nat) (x1 : Int32) (x2 : Int32) (x3 : Int32) (A : mS) : Option (Int32 × mS) :=
  g_142_33 N  x1 x2 x3 (1 : Int32) A
/-- league -/
def g_142 (N : Nat) (x1 : Int32) (x2 : Int32) (A : mS) : Option (Int32 × mS) :=
  bif (a_in ((148 : Int32) + x1) 947) then
  m_li ((A 0) (((148 : Int32) + x1)).toNatClampNeg) fun y1 =>
  m_bd (g_114 N y1 A) fun r2 A2 =>
  bif (a_ic .eq r2 (0 : Int32)) then
    g_142_32 N  x1 x2 y1 A2
  else
    bif (a_ic .eq y1 x1) then
      g_142_32 N  x1 x2 y1 A2
    else
      bif (a_in ((140 : Int32) + y1) 947) then
      m_li ((A2 0) (((140 : Int32) + y1)).toNatClampNeg) fun y3 =>
      bif (a_ic .eq y3 (2 : Int32)) then
        g_142_30 N  x1 x2 y1 A2
      else
        bif (a_in ((140 : Int32) + y1) 947) then
        m_li ((A2 0) (((140 : Int32) + y1)).toNatClampNeg) fun y4 =>
        bif (a_ic .lt y4 (5 : Int32)) then
          g_142_32 N  x1 x2 y1 A2
        else
          g_142_30 N  x1 x2 y1 A2
        else none
      else none
  else none
def g_143_14b (N : Nat) (rc14 : Int32 → Int32 → Int32 → Int32 → mS → Option (Int32 × mS)) (x1 : Int32) (x2 : Int32) (x3 : Int32) (x4 : Int32) (A : mS) : Option (Int32 × mS) :=
  bif (a_ic .ge x4 (4 : Int32)) then
    m_bd (g_134 N x1 x2 A) fun r2 A2 =>
    bif (a_in ((148 : Int32) + x1) 947) then
    m_li ((A2 0) (((148 : Int32) + x1)).toNatClampNeg) fun y3 =>
    m_li ((y3 * x3) / (10 : Int32)) fun y4 =>
    some ((r2 + y4), A2)
    else none
  else
    m_bd (g_133 N x1 x4 x2 (((A 0) 0) + (1 : Int32)) A) fun r5 A5 =>
    bif (a_ic .le r5 x3) then
      rc14 x1 x2 x3 (x4 + (1 : Int32)) A5
    else
      rc14 x1 x2 r5 (x4 + (1 : Int32)) A5
def g_143_14 (N : Nat) : Nat → Int32 → Int32 → Int32 → Int32 → mS → Option (Int32 × mS)
  | 0 => fun _ _ _ _ _ => none
  | n + 1 => g_143_14b N (g_143_14 N n)
/-- ahead -/
def g_143 (N : Nat) (x1 : Int32) (x2 : Int32) (A : mS) : Option (Int32 × mS) :=
  m_bd (g_133 N x1 (0 : Int32) x2 (((A 0) 0) + (1 : Int32)) A) fun r1 A1 =>
  g_143_14 N  N x1 x2 r1 (1 : Int32) A1
def g_144_4b (N : Nat) (rc4 : Int32 → Int32 → Int32 → Int32 → mS → Option (Int32 × mS)) (x1 : Int32) (x2 : Int32) (x3 : Int32) (x4 : Int32) (A : mS) : Option (Int32 × mS) :=
  bif (a_ic .ge x4 (4 : Int32)) then
    bif (a_ic .ne x3 x2) then
      some ((0 : Int32), A)
    else
      m_bd (g_142 N x1 x2 A) fun r1 A1 =>
      some (r1, A1)
  else
    m_bd (g_142 N x1 x4 A) fun r2 A2 =>
    m_bd (g_142 N x1 x3 A2) fun r3 A3 =>
    bif (a_ic .le r2 r3) then
      rc4 x1 x2 x3 (x4 + (1 : Int32)) A3
    else
      rc4 x1 x2 x4 (x4 + (1 : Int32)) A3
def g_144_4 (N : Nat) : Nat → Int32 → Int32 → Int32 → Int32 → mS → Option (Int32 × mS)
  | 0 => fun _ _ _ _ _ => none
  | n + 1 => g_144_4b N (g_144_4 N n)
/-- sharing -/
def g_144 (N : Nat) (x1 : Int32) (x2 : Int32) (A : mS) : Option (Int32 × mS) :=
  g_144_4 N  N x1 x2 (0 : Int32) (1 : Int32) A
/-- bidOf -/
def g_145 (N : Nat) (x1 : Int32) (x2 : Int32) (A : mS) : Option (Int32 × mS) :=
  m_bd (g_134 N x1 x2 A) fun r1 A1 =>
  bif (a_in ((148 : Int32) + x1) 947) then
  m_li ((A1 0) (((148 : Int32) + x1)).toNatClampNeg) fun y2 =>
  bif (decide (¬ (y2 + (1 : Int32)) = 0)) then
  m_li (r1 / (y2 + (1 : Int32))) fun y3 =>
  bif (a_in ((140 : Int32) + x1) 947) then
  m_li ((A1 0) (((140 : Int32) + x1)).toNatClampNeg) fun y4 =>
  if (a_tsw 1 6 86 [21, 26, 34, 42, 64, 72] y4) = 21 then
    m_bd (g_141 N x1 y3 A1) fun r5 A5 =>
    some (r5, A5)
  else if (a_tsw 1 6 86 [21, 26, 34, 42, 64, 72] y4) = 26 then
    m_bd (g_142 N x1 x2 A1) fun r6 A6 =>
    m_bd (g_141 N x1 r6 A6) fun r7 A7 =>
    some (r7, A7)
  else if (a_tsw 1 6 86 [21, 26, 34, 42, 64, 72] y4) = 34 then
    m_bd (g_143 N x1 x2 A1) fun r8 A8 =>
    m_bd (g_141 N x1 r8 A8) fun r9 A9 =>
    some (r9, A9)
  else if (a_tsw 1 6 86 [21, 26, 34, 42, 64, 72] y4) = 42 then
    bif (a_in ((3 : Int32) + x1) 947) then
    m_li ((A1 0) (((3 : Int32) + x1)).toNatClampNeg) fun y10 =>
    bif (a_in ((148 : Int32) + x1) 947) then
    m_li ((A1 0) (((148 : Int32) + x1)).toNatClampNeg) fun y11 =>
    bif (a_ic .ge y10 ((10 : Int32) * y11)) then
      m_bd (g_141 N x1 y3 A1) fun r12 A12 =>
      some (r12, A12)
    else
      some ((0 : Int32), A1)
    else none
    else none
  else if (a_tsw 1 6 86 [21, 26, 34, 42, 64, 72] y4) = 64 then
    m_bd (g_144 N x1 x2 A1) fun r13 A13 =>
    m_bd (g_141 N x1 r13 A13) fun r14 A14 =>
    some (r14, A14)
  else if (a_tsw 1 6 86 [21, 26, 34, 42, 64, 72] y4) = 72 then
    bif (a_in (((156 : Int32) + ((4 : Int32) * x1)) + x2) 947) then
    m_li ((A1 0) ((((156 : Int32) + ((4 : Int32) * x1)) + x2)).toNatClampNeg) fun y15 =>
    m_bd (g_141 N x1 y15 A1) fun r16 A16 =>
    some (r16, A16)
    else none
  else if (a_tsw 1 6 86 [21, 26, 34, 42, 64, 72] y4) = 86 then
    m_bd (g_134 N x1 x2 A1) fun r17 A17 =>
    m_bd (g_141 N x1 r17 A17) fun r18 A18 =>
    some (r18, A18)
  else none
  else none
  else none
  else none
/-- of -/
def g_146 (N : Nat) (x1 : Int32) (x2 : Int32) (A : mS) : Option (Int32 × mS) :=
  m_bd (g_114 N x1 A) fun r1 A1 =>
  bif (a_ic .ne r1 (0 : Int32)) then
    m_bd (g_112 N x2 (10 : Int32) (13 : Int32) A1) fun r2 A2 =>
    bif (a_ic .eq r2 (0 : Int32)) then
      m_bd (g_112 N x2 (20 : Int32) (23 : Int32) A2) fun r3 A3 =>
      bif (a_ic .eq r3 (0 : Int32)) then
        bif (a_ic .ne x2 (0 : Int32)) then
          bif (a_ic .ne x2 (1 : Int32)) then
            bif (a_ic .ne x2 (2 : Int32)) then
              some ((-10001 : Int32), A3)
            else
              bif (a_in ((3 : Int32) + x1) 947) then
              m_li ((A3 0) (((3 : Int32) + x1)).toNatClampNeg) fun y4 =>
              some (y4, A3)
              else none
          else
            bif (a_in ((148 : Int32) + x1) 947) then
            m_li ((A3 0) (((148 : Int32) + x1)).toNatClampNeg) fun y5 =>
            some (y5, A3)
            else none
        else
          bif (a_in ((140 : Int32) + x1) 947) then
          m_li ((A3 0) (((140 : Int32) + x1)).toNatClampNeg) fun y6 =>
          some (y6, A3)
          else none
      else
        m_bd (g_134 N x1 (x2 - (20 : Int32)) A3) fun r7 A7 =>
        some (r7, A7)
    else
      m_bd (g_145 N x1 (x2 - (10 : Int32)) A2) fun r8 A8 =>
      some (r8, A8)
  else
    some ((-10001 : Int32), A1)
def g_147_10b (N : Nat) (rc2 : Int32 → mS → Option (Int32 × mS)) (rc10 : Int32 → Int32 → mS → Option (Int32 × mS)) (x1 : Int32) (x2 : Int32) (A : mS) : Option (Int32 × mS) :=
  bif (a_ic .ge x2 (4 : Int32)) then
    rc2 (x1 + (1 : Int32)) A
  else
    m_bd (g_145 N x1 x2 A) fun r1 A1 =>
    bif (a_in (((4 : Int32) * x1) + x2) 32) then
    m_st (va_up A1 5 (upd (A1 5) ((((4 : Int32) * x1) + x2)).toNatClampNeg r1)) fun A2 =>
    rc10 x1 (x2 + (1 : Int32)) A2
    else none
def g_147_10 (N : Nat) (rc2 : Int32 → mS → Option (Int32 × mS)) : Nat → Int32 → Int32 → mS → Option (Int32 × mS)
  | 0 => fun _ _ _ => none
  | n + 1 => g_147_10b N rc2 (g_147_10 N rc2 n)
def g_147_2b (N : Nat) (rc2 : Int32 → mS → Option (Int32 × mS)) (x1 : Int32) (A : mS) : Option (Int32 × mS) :=
  bif (a_ic .ge x1 ((A 0) 11)) then
    some (0, A)
  else
    g_147_10 N rc2 N x1 (0 : Int32) A
def g_147_2 (N : Nat) : Nat → Int32 → mS → Option (Int32 × mS)
  | 0 => fun _ _ => none
  | n + 1 => g_147_2b N (g_147_2 N n)
/-- takesBids -/
def g_147 (N : Nat) (A : mS) : Option (Int32 × mS) :=
  g_147_2 N  N (0 : Int32) A
def g_148_73 (N : Nat) (t1 : Int32) (A : mS) : Option (Int32 × mS) :=
  bif (decide (t1 = 0) || decide (t1 = 1)) then
  m_st (va_up A 99 (upd (A 99) 15 t1)) fun A8 =>
  bif (a_ic .eq (A8 99 15) (0 : Int32)) then
    some (0, (va_up A8 99 (upd (A8 99) 14 (A8 99 14))))
  else
    m_bd (g_136 N  A8) fun r9 A9 =>
    some (0, (va_up A9 99 (upd (A9 99) 14 r9)))
  else none
def g_148_42b (N : Nat) (rc42 : Int32 → mS → Option (Int32 × mS)) (x1 : Int32) (A : mS) : Option (Int32 × mS) :=
  bif (a_ic .ge x1 (4 : Int32)) then
    bif (a_in (A 99 14) 4) then
    m_li ((A 6) ((A 99 14)).toNatClampNeg) fun y2 =>
    bif (a_ic .ne y2 (0 : Int32)) then
      g_148_73 N  (0 : Int32) A
    else
      g_148_73 N  (1 : Int32) A
    else none
  else
    bif (a_in x1 4) then
    m_li ((A 6) (x1).toNatClampNeg) fun y3 =>
    bif (a_in (A 99 14) 4) then
    m_li ((A 6) ((A 99 14)).toNatClampNeg) fun y4 =>
    bif (a_ic .le y3 y4) then
      rc42 (x1 + (1 : Int32)) (va_up A 99 (upd (A 99) 14 (A 99 14)))
    else
      rc42 (x1 + (1 : Int32)) (va_up A 99 (upd (A 99) 14 x1))
    else none
    else none
def g_148_42 (N : Nat) : Nat → Int32 → mS → Option (Int32 × mS)
  | 0 => fun _ _ => none
  | n + 1 => g_148_42b N (g_148_42 N n)
def g_148_12b (N : Nat) (rc2 : Int32 → mS → Option (Int32 × mS)) (rc12 : Int32 → Int32 → mS → Option (Int32 × mS)) (x1 : Int32) (x2 : Int32) (A : mS) : Option (Int32 × mS) :=
  bif (a_ic .ge x2 ((A 0) 11)) then
    rc2 (x1 + (1 : Int32)) A
  else
    bif (a_in x1 4) then
    m_li ((A 6) (x1).toNatClampNeg) fun y5 =>
    bif (a_in (((4 : Int32) * x2) + x1) 32) then
    m_li ((A 5) ((((4 : Int32) * x2) + x1)).toNatClampNeg) fun y6 =>
    bif (a_in x1 4) then
    m_st (va_up A 6 (upd (A 6) (x1).toNatClampNeg (y5 + y6))) fun A7 =>
    rc12 x1 (x2 + (1 : Int32)) A7
    else none
    else none
    else none
def g_148_12 (N : Nat) (rc2 : Int32 → mS → Option (Int32 × mS)) : Nat → Int32 → Int32 → mS → Option (Int32 × mS)
  | 0 => fun _ _ _ => none
  | n + 1 => g_148_12b N rc2 (g_148_12 N rc2 n)
def g_148_2b (N : Nat) (rc2 : Int32 → mS → Option (Int32 × mS)) (x1 : Int32) (A : mS) : Option (Int32 × mS) :=
  bif (a_ic .ge x1 (4 : Int32)) then
    g_148_42 N  N (1 : Int32) (va_up A 99 (upd (A 99) 14 (0 : Int32)))
  else
    bif (a_in x1 4) then
    m_st (va_up A 6 (upd (A 6) (x1).toNatClampNeg (0 : Int32))) fun A1 =>
    g_148_12 N rc2 N x1 (0 : Int32) A1
    else none
def g_148_2 (N : Nat) : Nat → Int32 → mS → Option (Int32 × mS)
  | 0 => fun _ _ => none
  | n + 1 => g_148_2b N (g_148_2 N n)
/-- sells -/
def g_148 (N : Nat) (A : mS) : Option (Int32 × mS) :=
  g_148_2 N  N (0 : Int32) A
def g_149_4b (N : Nat) (rc4 : Int32 → Int32 → Int32 → mS → Option (Int32 × mS)) (x1 : Int32) (x2 : Int32) (x3 : Int32) (A : mS) : Option (Int32 × mS) :=
  bif (a_ic .ge x3 (4 : Int32)) then
    bif (a_ic .eq (A 99 15) (0 : Int32)) then
      bif (a_in (A 99 14) 4) then
      m_li ((A 6) ((A 99 14)).toNatClampNeg) fun y1 =>
      bif (a_in (((4 : Int32) * x1) + (A 99 14)) 32) then
      m_li ((A 5) ((((4 : Int32) * x1) + (A 99 14))).toNatClampNeg) fun y2 =>
      some ((x2 - (y1 - y2)), A)
      else none
      else none
    else
      some ((0 : Int32), A)
  else
    bif (a_in x3 4) then
    m_li ((A 6) (x3).toNatClampNeg) fun y3 =>
    bif (a_in (((4 : Int32) * x1) + x3) 32) then
    m_li ((A 5) ((((4 : Int32) * x1) + x3)).toNatClampNeg) fun y4 =>
    bif (a_ic .le (y3 - y4) x2) then
      rc4 x1 x2 (x3 + (1 : Int32)) A
    else
      rc4 x1 (y3 - y4) (x3 + (1 : Int32)) A
    else none
    else none
def g_149_4 (N : Nat) : Nat → Int32 → Int32 → Int32 → mS → Option (Int32 × mS)
  | 0 => fun _ _ _ _ => none
  | n + 1 => g_149_4b N (g_149_4 N n)
/-- harmOf -/
def g_149 (N : Nat) (x1 : Int32) (A : mS) : Option (Int32 × mS) :=
  g_149_4 N  N x1 (0 : Int32) (0 : Int32) A
def g_150_63b (N : Nat) (rc63 : Int32 → Int32 → Int32 → Int32 → mS → Option (Int32 × mS)) (x2 : Int32) (x3 : Int32) (x4 : Int32) (x5 : Int32) (A : mS) : Option (Int32 × mS) :=
  bif (a_ic .ge x5 ((A 0) 11)) then
    bif (a_in (A 99 14) 4) then
    m_li ((A 6) ((A 99 14)).toNatClampNeg) fun y7 =>
    bif (decide (¬ x4 = 0)) then
    m_li ((y7 - x3) / x4) fun y8 =>
    bif (a_ic .ge (x2 - y8) (0 : Int32)) then
      some ((x2 - y8), A)
    else
      some ((0 : Int32), A)
    else none
    else none
  else
    bif (a_in (((4 : Int32) * x5) + (A 99 14)) 32) then
    m_li ((A 5) ((((4 : Int32) * x5) + (A 99 14))).toNatClampNeg) fun y9 =>
    bif (a_ic .le y9 (0 : Int32)) then
      rc63 x2 x3 (x4 + (0 : Int32)) (x5 + (1 : Int32)) A
    else
      rc63 x2 x3 (x4 + (1 : Int32)) (x5 + (1 : Int32)) A
    else none
def g_150_63 (N : Nat) : Nat → Int32 → Int32 → Int32 → Int32 → mS → Option (Int32 × mS)
  | 0 => fun _ _ _ _ _ => none
  | n + 1 => g_150_63b N (g_150_63 N n)
def g_150_37b (N : Nat) (rc37 : Int32 → Int32 → Int32 → mS → Option (Int32 × mS)) (x2 : Int32) (x3 : Int32) (x4 : Int32) (A : mS) : Option (Int32 × mS) :=
  bif (a_ic .ge x4 (4 : Int32)) then
    g_150_63 N  N x2 x3 (0 : Int32) (0 : Int32) A
  else
    bif (a_ic .eq x4 (A 99 14)) then
      rc37 x2 x3 (x4 + (1 : Int32)) A
    else
      bif (a_in x4 4) then
      m_li ((A 6) (x4).toNatClampNeg) fun y5 =>
      bif (a_ic .le y5 x3) then
        rc37 x2 x3 (x4 + (1 : Int32)) A
      else
        bif (a_in x4 4) then
        m_li ((A 6) (x4).toNatClampNeg) fun y6 =>
        rc37 x2 y6 (x4 + (1 : Int32)) A
        else none
      else none
def g_150_37 (N : Nat) : Nat → Int32 → Int32 → Int32 → mS → Option (Int32 × mS)
  | 0 => fun _ _ _ _ => none
  | n + 1 => g_150_37b N (g_150_37 N n)
def g_150_17 (N : Nat) (x2 : Int32) (A : mS) : Option (Int32 × mS) :=
  bif (a_ic .eq (A 99 15) (0 : Int32)) then
    some (x2, A)
  else
    some ((0 : Int32), A)
/-- paysOf -/
def g_150 (N : Nat) (x1 : Int32) (A : mS) : Option (Int32 × mS) :=
  bif (a_in (((4 : Int32) * x1) + (A 99 14)) 32) then
  m_li ((A 5) ((((4 : Int32) * x1) + (A 99 14))).toNatClampNeg) fun y1 =>
  bif (a_ic .ne (A 99 15) (0 : Int32)) then
    g_150_17 N  y1 A
  else
    m_bd (g_132 N (232 : Int32) A) fun r2 A2 =>
    bif (a_ic .ne r2 (0 : Int32)) then
      m_bd (g_132 N (232 : Int32) A2) fun r3 A3 =>
      bif (a_ic .ne r3 (1 : Int32)) then
        g_150_37 N  N y1 (0 : Int32) (0 : Int32) A3
      else
        m_bd (g_149 N x1 A3) fun r4 A4 =>
        some (r4, A4)
    else
      g_150_17 N  y1 A2
  else none
/-- gainOf -/
def g_151 (N : Nat) (x1 : Int32) (A : mS) : Option (Int32 × mS) :=
  m_bd (g_134 N x1 (A 99 14) A) fun r1 A1 =>
  m_bd (g_150 N x1 A1) fun r2 A2 =>
  some ((r1 - r2), A2)
def g_152_104 (N : Nat) (t1 : Int32) (t2 : Int32) (A : mS) : Option (Int32 × mS) :=
  bif (a_in t1 947) then
  m_st (va_up A 0 (upd (A 0) (t1).toNatClampNeg t2)) fun A11 =>
  some (0, (va_up A11 0 (upd (upd (A11 0) 0 (((A11 0) 0) + (1 : Int32))) 1 (A11 99 14))))
  else none
def g_152_83 (N : Nat) (t1 : Int32) (t2 : Int32) (t3 : Int32) (A : mS) : Option (Int32 × mS) :=
  bif (a_in t1 947) then
  m_st (va_up A 0 (upd (A 0) (t1).toNatClampNeg (t2 + t3))) fun A6 =>
  bif (a_ic .ne ((A6 0) 13) (0 : Int32)) then
    bif (decide (¬ ((A6 0) 13) = 0)) then
    m_li (((A6 0) 2) - ((A6 0) 2) / ((A6 0) 13) * ((A6 0) 13)) fun y7 =>
    g_152_104 N  (2 : Int32) y7 A6
    else none
  else
    g_152_104 N  (2 : Int32) (0 : Int32) A6
  else none
def g_152_53 (N : Nat) (rc23 : Int32 → mS → Option (Int32 × mS)) (x1 : Int32) (t0 : Int32) (A : mS) : Option (Int32 × mS) :=
  m_bd (g_132 N (237 : Int32) A) fun r8 A8 =>
  bif (a_ic .le (t0 + r8) (999 : Int32)) then
    bif (a_in ((3 : Int32) + x1) 947) then
    m_st (va_up A8 0 (upd (A8 0) (((3 : Int32) + x1)).toNatClampNeg (t0 + r8))) fun A9 =>
    rc23 (x1 + (1 : Int32)) A9
    else none
  else
    bif (a_in ((3 : Int32) + x1) 947) then
    m_st (va_up A8 0 (upd (A8 0) (((3 : Int32) + x1)).toNatClampNeg (999 : Int32))) fun A10 =>
    rc23 (x1 + (1 : Int32)) A10
    else none
def g_152_23b (N : Nat) (rc23 : Int32 → mS → Option (Int32 × mS)) (x1 : Int32) (A : mS) : Option (Int32 × mS) :=
  bif (a_ic .ge x1 ((A 0) 11)) then
    bif (a_ic .eq (A 99 15) (0 : Int32)) then
      g_152_83 N  (2 : Int32) ((A 0) 2) (0 : Int32) A
    else
      g_152_83 N  (2 : Int32) ((A 0) 2) (1 : Int32) A
  else
    m_bd (g_150 N x1 A) fun r4 A4 =>
    bif (a_in ((3 : Int32) + x1) 947) then
    m_st (va_up A4 99 (upd (A4 99) 17 ((A4 99 17) + r4))) fun A5 =>
    bif (a_ic .ge (((A4 0) (((3 : Int32) + x1)).toNatClampNeg) - r4) (0 : Int32)) then
      g_152_53 N rc23 x1 (((A4 0) (((3 : Int32) + x1)).toNatClampNeg) - r4) A5
    else
      g_152_53 N rc23 x1 (0 : Int32) A5
    else none
def g_152_23 (N : Nat) : Nat → Int32 → mS → Option (Int32 × mS)
  | 0 => fun _ _ => none
  | n + 1 => g_152_23b N (g_152_23 N n)
/-- evening -/
def g_152 (N : Nat) (A : mS) : Option (Int32 × mS) :=
  m_bd (g_147 N  A) fun r1 A1 =>
  m_bd (g_148 N  A1) fun r2 A2 =>
  m_bd (g_135 N (A2 99 14) ((A2 0) 1) ((A2 0) 0) A2) fun r3 A3 =>
  g_152_23 N  N (0 : Int32) (va_up A3 99 (upd (A3 99) 16 ((A2 99 16) + r3)))
/-- go -/
def g_153 (N : Nat) (A : mS) : Option (Int32 × mS) :=
  bif (a_ic .ne ((A 0) 0) (99 : Int32)) then
    m_bd (g_152 N  A) fun r1 A1 =>
    some ((A1 99 14), A1)
  else
    some ((-3 : Int32), A)
def g_154_16 (N : Nat) (x1 : Int32) (A : mS) : Option (Int32 × mS) :=
  m_bd (g_147 N  A) fun r3 A3 =>
  m_bd (g_148 N  A3) fun r4 A4 =>
  bif (a_ic .ne x1 (0 : Int32)) then
    bif (a_ic .ne x1 (1 : Int32)) then
      m_bd (g_150 N (x1 - (10 : Int32)) A4) fun r5 A5 =>
      some (r5, A5)
    else
      bif (a_ic .eq (A4 99 15) (0 : Int32)) then
        bif (a_in (A4 99 14) 4) then
        m_li ((A4 6) ((A4 99 14)).toNatClampNeg) fun y6 =>
        some (y6, A4)
        else none
      else
        some ((0 : Int32), A4)
  else
    some ((A4 99 14), A4)
/-- sold -/
def g_154 (N : Nat) (x1 : Int32) (A : mS) : Option (Int32 × mS) :=
  m_bd (g_112 N x1 (0 : Int32) (1 : Int32) A) fun r1 A1 =>
  bif (a_ic .ne r1 (0 : Int32)) then
    g_154_16 N  x1 A1
  else
    bif (a_ic .lt x1 (10 : Int32)) then
      some ((-10001 : Int32), A1)
    else
      m_bd (g_114 N (x1 - (10 : Int32)) A1) fun r2 A2 =>
      bif (a_ic .ne r2 (0 : Int32)) then
        g_154_16 N  x1 A2
      else
        some ((-10001 : Int32), A2)
def g_155_69 (N : Nat) (t0 : Int32) (A : mS) : Option (Int32 × mS) :=
  m_bd (g_116 N  A) fun r7 A7 =>
  some (t0, A7)
def g_155_33b (N : Nat) (rc33 : Int32 → Int32 → Int32 → mS → Option (Int32 × mS)) (x1 : Int32) (x2 : Int32) (x3 : Int32) (A : mS) : Option (Int32 × mS) :=
  bif (a_ic .ge x3 x1) then
    bif (a_ic .ne x2 (0 : Int32)) then
      bif (a_ic .ne x2 (1 : Int32)) then
        bif (a_ic .ne x2 (2 : Int32)) then
          bif (a_in (((3 : Int32) + x2) - (10 : Int32)) 947) then
          m_li ((A 0) ((((3 : Int32) + x2) - (10 : Int32))).toNatClampNeg) fun y5 =>
          g_155_69 N  y5 A
          else none
        else
          g_155_69 N  (A 99 17) A
      else
        g_155_69 N  (A 99 16) A
    else
      bif (a_ic .ne x1 (0 : Int32)) then
        g_155_69 N  (A 99 14) A
      else
        g_155_69 N  (-5 : Int32) A
  else
    m_bd (g_152 N  A) fun r6 A6 =>
    rc33 x1 x2 (x3 + (1 : Int32)) A6
def g_155_33 (N : Nat) : Nat → Int32 → Int32 → Int32 → mS → Option (Int32 × mS)
  | 0 => fun _ _ _ _ => none
  | n + 1 => g_155_33b N (g_155_33 N n)
def g_155_16 (N : Nat) (x1 : Int32) (x2 : Int32) (A : mS) : Option (Int32 × mS) :=
  m_bd (g_112 N x1 (0 : Int32) (40 : Int32) A) fun r3 A3 =>
  bif (a_ic .ne r3 (0 : Int32)) then
    m_bd (g_115 N  A3) fun r4 A4 =>
    g_155_33 N  N x1 x2 (0 : Int32) (va_up A4 99 (upd (upd (A4 99) 16 (0 : Int32)) 17 (0 : Int32)))
  else
    some ((-10002 : Int32), A3)
/-- run -/
def g_155 (N : Nat) (x1 : Int32) (x2 : Int32) (A : mS) : Option (Int32 × mS) :=
  m_bd (g_112 N x2 (0 : Int32) (2 : Int32) A) fun r1 A1 =>
  bif (a_ic .ne r1 (0 : Int32)) then
    g_155_16 N  x1 x2 A1
  else
    bif (a_ic .lt x2 (10 : Int32)) then
      some ((-10001 : Int32), A1)
    else
      m_bd (g_114 N (x2 - (10 : Int32)) A1) fun r2 A2 =>
      bif (a_ic .ne r2 (0 : Int32)) then
        g_155_16 N  x1 x2 A2
      else
        some ((-10001 : Int32), A2)
/-- withNext -/
def g_156 (N : Nat) (x1 : Int32) (x2 : Int32) (x3 : Int32) (A : mS) : Option (Int32 × mS) :=
  m_bd (g_135 N x3 x2 (((A 0) 0) + x1) A) fun r1 A1 =>
  bif (a_in (((4 : Int32) * (x1 + (1 : Int32))) + x3) 36) then
  m_li ((A1 7) ((((4 : Int32) * (x1 + (1 : Int32))) + x3)).toNatClampNeg) fun y2 =>
  some ((r1 + y2), A1)
  else none
def g_157_94b (N : Nat) (rc89 : Int32 → Int32 → Int32 → mS → Option (Int32 × mS)) (rc94 : Int32 → Int32 → Int32 → Int32 → mS → Option (Int32 × mS)) (x2 : Int32) (x3 : Int32) (x4 : Int32) (x5 : Int32) (A : mS) : Option (Int32 × mS) :=
  m_bd (g_156 N x4 x3 x5 A) fun r7 A7 =>
  bif (a_in (((4 : Int32) * x4) + x3) 36) then
  m_li ((A7 7) ((((4 : Int32) * x4) + x3)).toNatClampNeg) fun y8 =>
  bif (a_ic .eq r7 y8) then
    rc89 x2 x5 (x4 + (1 : Int32)) A7
  else
    rc94 x2 x3 x4 (x5 + (1 : Int32)) A7
  else none
def g_157_94 (N : Nat) (rc89 : Int32 → Int32 → Int32 → mS → Option (Int32 × mS)) : Nat → Int32 → Int32 → Int32 → Int32 → mS → Option (Int32 × mS)
  | 0 => fun _ _ _ _ _ => none
  | n + 1 => g_157_94b N rc89 (g_157_94 N rc89 n)
def g_157_89b (N : Nat) (rc89 : Int32 → Int32 → Int32 → mS → Option (Int32 × mS)) (x2 : Int32) (x3 : Int32) (x4 : Int32) (A : mS) : Option (Int32 × mS) :=
  bif (a_ic .gt x4 x2) then
    bif (a_ic .ne x2 (-1 : Int32)) then
      some (x3, A)
    else
      bif (a_in ((A 0) 1) 36) then
      m_li ((A 7) (((A 0) 1)).toNatClampNeg) fun y4 =>
      some (y4, A)
      else none
  else
    g_157_94 N rc89 N x2 x3 x4 (0 : Int32) A
def g_157_89 (N : Nat) : Nat → Int32 → Int32 → Int32 → mS → Option (Int32 × mS)
  | 0 => fun _ _ _ _ => none
  | n + 1 => g_157_89b N (g_157_89 N n)
def g_157_51b (N : Nat) (rc36 : Int32 → Int32 → mS → Option (Int32 × mS)) (rc40 : Int32 → Int32 → Int32 → mS → Option (Int32 × mS)) (rc51 : Int32 → Int32 → Int32 → Int32 → Int32 → mS → Option (Int32 × mS)) (x2 : Int32) (x3 : Int32) (x4 : Int32) (x5 : Int32) (x6 : Int32) (A : mS) : Option (Int32 × mS) :=
  bif (a_ic .ge x6 (4 : Int32)) then
    bif (a_in (((4 : Int32) * x3) + x4) 36) then
    m_st (va_up A 7 (upd (A 7) ((((4 : Int32) * x3) + x4)).toNatClampNeg x5)) fun A9 =>
    rc40 x2 x3 (x4 + (1 : Int32)) A9
    else none
  else
    m_bd (g_156 N x3 x4 x6 A) fun r10 A10 =>
    bif (a_ic .le r10 x5) then
      rc51 x2 x3 x4 x5 (x6 + (1 : Int32)) A10
    else
      rc51 x2 x3 x4 r10 (x6 + (1 : Int32)) A10
def g_157_51 (N : Nat) (rc36 : Int32 → Int32 → mS → Option (Int32 × mS)) (rc40 : Int32 → Int32 → Int32 → mS → Option (Int32 × mS)) : Nat → Int32 → Int32 → Int32 → Int32 → Int32 → mS → Option (Int32 × mS)
  | 0 => fun _ _ _ _ _ _ => none
  | n + 1 => g_157_51b N rc36 rc40 (g_157_51 N rc36 rc40 n)
def g_157_40b (N : Nat) (rc36 : Int32 → Int32 → mS → Option (Int32 × mS)) (rc40 : Int32 → Int32 → Int32 → mS → Option (Int32 × mS)) (x2 : Int32) (x3 : Int32) (x4 : Int32) (A : mS) : Option (Int32 × mS) :=
  bif (a_ic .ge x4 (4 : Int32)) then
    m_li (x3 + (-1 : Int32)) fun y5 =>
    rc36 x2 y5 A
  else
    m_bd (g_156 N x3 x4 (0 : Int32) A) fun r6 A6 =>
    g_157_51 N rc36 rc40 N x2 x3 x4 r6 (1 : Int32) A6
def g_157_40 (N : Nat) (rc36 : Int32 → Int32 → mS → Option (Int32 × mS)) : Nat → Int32 → Int32 → Int32 → mS → Option (Int32 × mS)
  | 0 => fun _ _ _ _ => none
  | n + 1 => g_157_40b N rc36 (g_157_40 N rc36 n)
def g_157_36b (N : Nat) (rc36 : Int32 → Int32 → mS → Option (Int32 × mS)) (x2 : Int32) (x3 : Int32) (A : mS) : Option (Int32 × mS) :=
  bif (a_ic .lt x3 (0 : Int32)) then
    g_157_89 N  N x2 ((A 0) 1) (0 : Int32) A
  else
    g_157_40 N rc36 N x2 x3 (0 : Int32) A
def g_157_36 (N : Nat) : Nat → Int32 → Int32 → mS → Option (Int32 × mS)
  | 0 => fun _ _ _ => none
  | n + 1 => g_157_36b N (g_157_36 N n)
def g_157_18b (N : Nat) (rc18 : Int32 → Int32 → Int32 → mS → Option (Int32 × mS)) (x1 : Int32) (x2 : Int32) (x3 : Int32) (A : mS) : Option (Int32 × mS) :=
  bif (a_ic .ge x3 (4 : Int32)) then
    g_157_36 N  N x2 (x1 - (1 : Int32)) A
  else
    bif (a_in (((4 : Int32) * x1) + x3) 36) then
    m_st (va_up A 7 (upd (A 7) ((((4 : Int32) * x1) + x3)).toNatClampNeg (0 : Int32))) fun A3 =>
    rc18 x1 x2 (x3 + (1 : Int32)) A3
    else none
def g_157_18 (N : Nat) : Nat → Int32 → Int32 → Int32 → mS → Option (Int32 × mS)
  | 0 => fun _ _ _ _ => none
  | n + 1 => g_157_18b N (g_157_18 N n)
/-- best -/
def g_157 (N : Nat) (x1 : Int32) (x2 : Int32) (A : mS) : Option (Int32 × mS) :=
  m_bd (g_112 N x1 (1 : Int32) (8 : Int32) A) fun r1 A1 =>
  bif (a_ic .ne r1 (0 : Int32)) then
    m_bd (g_112 N x2 (-1 : Int32) (x1 - (1 : Int32)) A1) fun r2 A2 =>
    bif (a_ic .ne r2 (0 : Int32)) then
      g_157_18 N  N x1 x2 (0 : Int32) A2
    else
      some ((-10001 : Int32), A2)
  else
    some ((-10002 : Int32), A1)
def g_158_92 (N : Nat) (rc27 : Int32 → Int32 → Int32 → Int32 → Int32 → Int32 → Int32 → mS → Option (Int32 × mS)) (x1 : Int32) (x2 : Int32) (x3 : Int32) (x4 : Int32) (x5 : Int32) (x6 : Int32) (x7 : Int32) (x8 : Int32) (A : mS) : Option (Int32 × mS) :=
  bif (a_in (((4 : Int32) * x1) + x7) 32) then
  m_st (va_up A 5 (upd (A 5) ((((4 : Int32) * x1) + x7)).toNatClampNeg x8)) fun A11 =>
  rc27 x1 x2 x3 x4 x5 x6 (x7 + (1 : Int32)) A11
  else none
def g_158_82 (N : Nat) (rc27 : Int32 → Int32 → Int32 → Int32 → Int32 → Int32 → Int32 → mS → Option (Int32 × mS)) (rc41 : Int32 → Int32 → Int32 → Int32 → Int32 → Int32 → Int32 → Int32 → Int32 → mS → Option (Int32 × mS)) (x1 : Int32) (x2 : Int32) (x3 : Int32) (x4 : Int32) (x5 : Int32) (x7 : Int32) (x8 : Int32) (x9 : Int32) (x10 : Int32) (t0 : Int32) (A : mS) : Option (Int32 × mS) :=
  bif (a_ic .le x10 x4) then
    rc41 x1 x2 x3 x4 x5 t0 x7 x8 (x9 + (1 : Int32)) A
  else
    rc41 x1 x2 x3 x10 x5 t0 x7 x8 (x9 + (1 : Int32)) A
def g_158_75 (N : Nat) (rc27 : Int32 → Int32 → Int32 → Int32 → Int32 → Int32 → Int32 → mS → Option (Int32 × mS)) (rc41 : Int32 → Int32 → Int32 → Int32 → Int32 → Int32 → Int32 → Int32 → Int32 → mS → Option (Int32 × mS)) (x1 : Int32) (x2 : Int32) (x3 : Int32) (x4 : Int32) (x6 : Int32) (x7 : Int32) (x8 : Int32) (x9 : Int32) (x10 : Int32) (t0 : Int32) (A : mS) : Option (Int32 × mS) :=
  bif (a_ic .le x10 x4) then
    g_158_82 N rc27 rc41 x1 x2 x3 x4 t0 x7 x8 x9 x10 x6 A
  else
    g_158_82 N rc27 rc41 x1 x2 x3 x4 t0 x7 x8 x9 x10 x9 A
def g_158_41b (N : Nat) (rc27 : Int32 → Int32 → Int32 → Int32 → Int32 → Int32 → Int32 → mS → Option (Int32 × mS)) (rc41 : Int32 → Int32 → Int32 → Int32 → Int32 → Int32 → Int32 → Int32 → Int32 → mS → Option (Int32 × mS)) (x1 : Int32) (x2 : Int32) (x3 : Int32) (x4 : Int32) (x5 : Int32) (x6 : Int32) (x7 : Int32) (x8 : Int32) (x9 : Int32) (A : mS) : Option (Int32 × mS) :=
  bif (a_ic .gt x9 (40 : Int32)) then
    g_158_92 N rc27 x1 x2 x3 x4 x5 x6 x7 x8 A
  else
    bif (a_in ((3 : Int32) + x1) 947) then
    m_li ((A 0) (((3 : Int32) + x1)).toNatClampNeg) fun y7 =>
    bif (a_ic .gt x9 y7) then
      g_158_92 N rc27 x1 x2 x3 x4 x5 x6 x7 x8 A
    else
      bif (a_in (((4 : Int32) * x1) + x7) 32) then
      m_st (va_up A 5 (upd (A 5) ((((4 : Int32) * x1) + x7)).toNatClampNeg x9)) fun A8 =>
      m_bd (g_148 N  A8) fun r9 A9 =>
      m_bd (g_151 N x1 A9) fun r10 A10 =>
      bif (a_ic .le (r10 - x3) x4) then
        g_158_75 N rc27 rc41 x1 x2 x3 x4 x6 x7 x8 x9 (r10 - x3) x5 A10
      else
        g_158_75 N rc27 rc41 x1 x2 x3 x4 x6 x7 x8 x9 (r10 - x3) x7 A10
      else none
    else none
def g_158_41 (N : Nat) (rc27 : Int32 → Int32 → Int32 → Int32 → Int32 → Int32 → Int32 → mS → Option (Int32 × mS)) : Nat → Int32 → Int32 → Int32 → Int32 → Int32 → Int32 → Int32 → Int32 → Int32 → mS → Option (Int32 × mS)
  | 0 => fun _ _ _ _ _ _ _ _ _ _ => none
  | n + 1 => g_158_41b N rc27 (g_158_41 N rc27 n)
def g_158_27b (N : Nat) (rc27 : Int32 → Int32 → Int32 → Int32 → Int32 → Int32 → Int32 → mS → Option (Int32 × mS)) (x1 : Int32) (x2 : Int32) (x3 : Int32) (x4 : Int32) (x5 : Int32) (x6 : Int32) (x7 : Int32) (A : mS) : Option (Int32 × mS) :=
  bif (a_ic .ge x7 (4 : Int32)) then
    bif (a_ic .ne x2 (0 : Int32)) then
      bif (a_ic .ne x2 (1 : Int32)) then
        some (x6, A)
      else
        some (x5, A)
    else
      some (x4, A)
  else
    bif (a_in (((4 : Int32) * x1) + x7) 32) then
    m_li ((A 5) ((((4 : Int32) * x1) + x7)).toNatClampNeg) fun y6 =>
    g_158_41 N rc27 N x1 x2 x3 x4 x5 x6 x7 y6 (0 : Int32) A
    else none
def g_158_27 (N : Nat) : Nat → Int32 → Int32 → Int32 → Int32 → Int32 → Int32 → Int32 → mS → Option (Int32 × mS)
  | 0 => fun _ _ _ _ _ _ _ _ => none
  | n + 1 => g_158_27b N (g_158_27 N n)
/-- truly -/
def g_158 (N : Nat) (x1 : Int32) (x2 : Int32) (A : mS) : Option (Int32 × mS) :=
  m_bd (g_114 N x1 A) fun r1 A1 =>
  bif (a_ic .eq r1 (0 : Int32)) then
    some ((-1 : Int32), A1)
  else
    m_bd (g_112 N x2 (0 : Int32) (2 : Int32) A1) fun r2 A2 =>
    bif (a_ic .ne r2 (0 : Int32)) then
      m_bd (g_147 N  A2) fun r3 A3 =>
      m_bd (g_148 N  A3) fun r4 A4 =>
      m_bd (g_151 N x1 A4) fun r5 A5 =>
      g_158_27 N  N x1 x2 r5 (0 : Int32) (-5 : Int32) (-5 : Int32) (0 : Int32) A5
    else
      some ((-1 : Int32), A2)
/-- harm -/
def g_159 (N : Nat) (x1 : Int32) (A : mS) : Option (Int32 × mS) :=
  m_bd (g_114 N x1 A) fun r1 A1 =>
  bif (a_ic .ne r1 (0 : Int32)) then
    m_bd (g_147 N  A1) fun r2 A2 =>
    m_bd (g_148 N  A2) fun r3 A3 =>
    m_bd (g_149 N x1 A3) fun r4 A4 =>
    some (r4, A4)
  else
    some ((-1 : Int32), A1)
def g_160_105 (N : Nat) (rc13 : Int32 → Int32 → Int32 → Int32 → mS → Option (Int32 × mS)) (rc23 : Int32 → Int32 → Int32 → Int32 → Int32 → mS → Option (Int32 × mS)) (x1 : Int32) (x3 : Int32) (x4 : Int32) (x5 : Int32) (x7 : Int32) (t0 : Int32) (t1 : Int32) (A : mS) : Option (Int32 × mS) :=
  bif (a_ic .eq x7 (0 : Int32)) then
    rc23 x1 (t0 + t1) x3 x4 (x5 + (1 : Int32)) A
  else
    bif (a_ic .ne x3 (-5 : Int32)) then
      rc23 x1 (t0 + t1) x3 x4 (x5 + (1 : Int32)) A
    else
      rc23 x1 (t0 + t1) (((10 : Int32) * x4) + x5) x4 (x5 + (1 : Int32)) A
def g_160_98 (N : Nat) (rc13 : Int32 → Int32 → Int32 → Int32 → mS → Option (Int32 × mS)) (rc23 : Int32 → Int32 → Int32 → Int32 → Int32 → mS → Option (Int32 × mS)) (x1 : Int32) (x2 : Int32) (x3 : Int32) (x4 : Int32) (x5 : Int32) (t0 : Int32) (A : mS) : Option (Int32 × mS) :=
  bif (a_ic .eq t0 (0 : Int32)) then
    g_160_105 N rc13 rc23 x1 x3 x4 x5 t0 x2 (0 : Int32) A
  else
    g_160_105 N rc13 rc23 x1 x3 x4 x5 t0 x2 (1 : Int32) A
def g_160_43b (N : Nat) (rc13 : Int32 → Int32 → Int32 → Int32 → mS → Option (Int32 × mS)) (rc23 : Int32 → Int32 → Int32 → Int32 → Int32 → mS → Option (Int32 × mS)) (rc43 : Int32 → Int32 → Int32 → Int32 → Int32 → Int32 → Int32 → mS → Option (Int32 × mS)) (x1 : Int32) (x2 : Int32) (x3 : Int32) (x4 : Int32) (x5 : Int32) (x6 : Int32) (x7 : Int32) (A : mS) : Option (Int32 × mS) :=
  bif (a_ic .ge x7 (4 : Int32)) then
    m_bd (g_148 N  A) fun r6 A6 =>
    m_bd (g_151 N x4 A6) fun r7 A7 =>
    m_bd (g_151 N x5 A7) fun r8 A8 =>
    bif (a_ic .le (r7 + r8) x6) then
      g_160_98 N rc13 rc23 x1 x2 x3 x4 x5 (0 : Int32) A8
    else
      g_160_98 N rc13 rc23 x1 x2 x3 x4 x5 (1 : Int32) A8
  else
    m_bd (g_134 N x4 x7 A) fun r9 A9 =>
    m_bd (g_134 N x5 x7 A9) fun r10 A10 =>
    m_li ((r9 + r10) / (2 : Int32)) fun y11 =>
    m_bd (g_141 N x4 y11 A10) fun r12 A12 =>
    bif (a_in (((4 : Int32) * x4) + x7) 32) then
    m_st (va_up A12 5 (upd (A12 5) ((((4 : Int32) * x4) + x7)).toNatClampNeg r12)) fun A13 =>
    m_bd (g_141 N x5 y11 A13) fun r14 A14 =>
    bif (a_in (((4 : Int32) * x5) + x7) 32) then
    m_st (va_up A14 5 (upd (A14 5) ((((4 : Int32) * x5) + x7)).toNatClampNeg r14)) fun A15 =>
    rc43 x1 x2 x3 x4 x5 x6 (x7 + (1 : Int32)) A15
    else none
    else none
def g_160_43 (N : Nat) (rc13 : Int32 → Int32 → Int32 → Int32 → mS → Option (Int32 × mS)) (rc23 : Int32 → Int32 → Int32 → Int32 → Int32 → mS → Option (Int32 × mS)) : Nat → Int32 → Int32 → Int32 → Int32 → Int32 → Int32 → Int32 → mS → Option (Int32 × mS)
  | 0 => fun _ _ _ _ _ _ _ _ => none
  | n + 1 => g_160_43b N rc13 rc23 (g_160_43 N rc13 rc23 n)
def g_160_23b (N : Nat) (rc13 : Int32 → Int32 → Int32 → Int32 → mS → Option (Int32 × mS)) (rc23 : Int32 → Int32 → Int32 → Int32 → Int32 → mS → Option (Int32 × mS)) (x1 : Int32) (x2 : Int32) (x3 : Int32) (x4 : Int32) (x5 : Int32) (A : mS) : Option (Int32 × mS) :=
  bif (a_ic .ge x5 ((A 0) 11)) then
    rc13 x1 x2 x3 (x4 + (1 : Int32)) A
  else
    m_bd (g_147 N  A) fun r2 A2 =>
    m_bd (g_148 N  A2) fun r3 A3 =>
    m_bd (g_151 N x4 A3) fun r4 A4 =>
    m_bd (g_151 N x5 A4) fun r5 A5 =>
    g_160_43 N rc13 rc23 N x1 x2 x3 x4 x5 (r4 + r5) (0 : Int32) A5
def g_160_23 (N : Nat) (rc13 : Int32 → Int32 → Int32 → Int32 → mS → Option (Int32 × mS)) : Nat → Int32 → Int32 → Int32 → Int32 → Int32 → mS → Option (Int32 × mS)
  | 0 => fun _ _ _ _ _ _ => none
  | n + 1 => g_160_23b N rc13 (g_160_23 N rc13 n)
def g_160_13b (N : Nat) (rc13 : Int32 → Int32 → Int32 → Int32 → mS → Option (Int32 × mS)) (x1 : Int32) (x2 : Int32) (x3 : Int32) (x4 : Int32) (A : mS) : Option (Int32 × mS) :=
  bif (a_ic .ge x4 ((A 0) 11)) then
    bif (a_ic .ne x1 (0 : Int32)) then
      some (x3, A)
    else
      some (x2, A)
  else
    g_160_23 N rc13 N x1 x2 x3 x4 (x4 + (1 : Int32)) A
def g_160_13 (N : Nat) : Nat → Int32 → Int32 → Int32 → Int32 → mS → Option (Int32 × mS)
  | 0 => fun _ _ _ _ _ => none
  | n + 1 => g_160_13b N (g_160_13 N n)
/-- leagues -/
def g_160 (N : Nat) (x1 : Int32) (A : mS) : Option (Int32 × mS) :=
  m_bd (g_112 N x1 (0 : Int32) (1 : Int32) A) fun r1 A1 =>
  bif (a_ic .ne r1 (0 : Int32)) then
    g_160_13 N  N x1 (0 : Int32) (-5 : Int32) (0 : Int32) A1
  else
    some ((-1 : Int32), A1)
/-- beside -/
def g_161 (N : Nat) (x1 : Int32) (A : mS) : Option (Int32 × mS) :=
  bif (a_ic .ne x1 (-1 : Int32)) then
    m_bd (g_113 N x1 A) fun r1 A1 =>
    bif (a_ic .ne r1 (0 : Int32)) then
      bif (a_ic .ne ((A1 0) 14) (20 : Int32)) then
        bif (a_in ((200 : Int32) + ((A1 0) 14)) 947) then
        m_st (va_up A1 0 (upd (A1 0) (((200 : Int32) + ((A1 0) 14))).toNatClampNeg x1)) fun A2 =>
        some (((upd (A2 0) 14 (((A2 0) 14) + (1 : Int32))) 14), (va_up A2 0 (upd (A2 0) 14 (((A2 0) 14) + (1 : Int32)))))
        else none
      else
        some ((-4 : Int32), A1)
    else
      some ((-1 : Int32), A1)
  else
    some ((0 : Int32), (va_up A 0 (upd (A 0) 14 (0 : Int32))))
def g_162_21b (N : Nat) (rc21 : Int32 → Int32 → Int32 → Int32 → mS → Option (Int32 × mS)) (x1 : Int32) (x2 : Int32) (x3 : Int32) (x4 : Int32) (A : mS) : Option (Int32 × mS) :=
  bif (a_ic .ge x4 x1) then
    m_bd (g_116 N  A) fun r4 A4 =>
    some (((A4 99 16) + x3), A4)
  else
    m_bd (g_152 N  A) fun r5 A5 =>
    bif (a_ic .ge x4 ((A5 0) 14)) then
      rc21 x1 x2 (x3 + (0 : Int32)) (x4 + (1 : Int32)) A5
    else
      bif (a_in ((200 : Int32) + x4) 947) then
      m_li ((A5 0) (((200 : Int32) + x4)).toNatClampNeg) fun y6 =>
      bif (a_ic .ne y6 (A5 99 14)) then
        rc21 x1 x2 (x3 + (0 : Int32)) (x4 + (1 : Int32)) A5
      else
        rc21 x1 x2 (x3 + (x2 * ((A5 0) 11))) (x4 + (1 : Int32)) A5
      else none
def g_162_21 (N : Nat) : Nat → Int32 → Int32 → Int32 → Int32 → mS → Option (Int32 × mS)
  | 0 => fun _ _ _ _ _ => none
  | n + 1 => g_162_21b N (g_162_21 N n)
/-- spill -/
def g_162 (N : Nat) (x1 : Int32) (x2 : Int32) (A : mS) : Option (Int32 × mS) :=
  m_bd (g_112 N x1 (1 : Int32) (40 : Int32) A) fun r1 A1 =>
  bif (a_ic .eq r1 (0 : Int32)) then
    some ((-10002 : Int32), A1)
  else
    m_bd (g_112 N x2 (0 : Int32) (99 : Int32) A1) fun r2 A2 =>
    bif (a_ic .ne r2 (0 : Int32)) then
      m_bd (g_115 N  A2) fun r3 A3 =>
      g_162_21 N  N x1 x2 (0 : Int32) (0 : Int32) (va_up A3 99 (upd (A3 99) 16 (0 : Int32)))
    else
      some ((-10002 : Int32), A2)
def g_163_117 (N : Nat) (rc99 : Int32 → Int32 → Int32 → Int32 → Int32 → mS → Option (Int32 × mS)) (x2 : Int32) (x3 : Int32) (x5 : Int32) (x6 : Int32) (t0 : Int32) (A : mS) : Option (Int32 × mS) :=
  bif (a_in x6 8) then
  m_li ((A 8) (x6).toNatClampNeg) fun y13 =>
  bif (a_ic .ge y13 x5) then
    rc99 x2 x3 t0 x5 (x6 + (1 : Int32)) A
  else
    bif (a_in x6 8) then
    m_li ((A 8) (x6).toNatClampNeg) fun y14 =>
    rc99 x2 x3 t0 y14 (x6 + (1 : Int32)) A
    else none
  else none
def g_163_99b (N : Nat) (rc99 : Int32 → Int32 → Int32 → Int32 → Int32 → mS → Option (Int32 × mS)) (x2 : Int32) (x3 : Int32) (x4 : Int32) (x5 : Int32) (x6 : Int32) (A : mS) : Option (Int32 × mS) :=
  bif (a_ic .ge x6 ((A 0) 11)) then
    bif (a_ic .ne x2 (0 : Int32)) then
      some ((x4 - x5), A)
    else
      m_li (x3 ^^^ (-1 : Int32)) fun y7 =>
      some (((((1 : Int32) <<< (((A 0) 11) &&& 31)) - (1 : Int32)) &&& y7), A)
  else
    bif (a_in x6 8) then
    m_li ((A 8) (x6).toNatClampNeg) fun y8 =>
    bif (a_ic .le y8 x4) then
      g_163_117 N rc99 x2 x3 x5 x6 x4 A
    else
      bif (a_in x6 8) then
      m_li ((A 8) (x6).toNatClampNeg) fun y9 =>
      g_163_117 N rc99 x2 x3 x5 x6 y9 A
      else none
    else none
def g_163_99 (N : Nat) : Nat → Int32 → Int32 → Int32 → Int32 → Int32 → mS → Option (Int32 × mS)
  | 0 => fun _ _ _ _ _ _ => none
  | n + 1 => g_163_99b N (g_163_99 N n)
def g_163_49b (N : Nat) (rc32 : Int32 → Int32 → Int32 → Int32 → mS → Option (Int32 × mS)) (rc49 : Int32 → Int32 → Int32 → Int32 → Int32 → Int32 → Int32 → mS → Option (Int32 × mS)) (x1 : Int32) (x2 : Int32) (x3 : Int32) (x4 : Int32) (x5 : Int32) (x6 : Int32) (x7 : Int32) (A : mS) : Option (Int32 × mS) :=
  bif (a_ic .ge x7 ((A 0) 11)) then
    rc32 x1 x2 x3 (x4 + (1 : Int32)) A
  else
    m_bd (g_133 N x7 (A 99 14) x5 x6 A) fun r10 A10 =>
    bif (a_in x7 8) then
    m_li ((A10 8) (x7).toNatClampNeg) fun y11 =>
    bif (a_in x7 8) then
    m_st (va_up A10 8 (upd (A10 8) (x7).toNatClampNeg (y11 + r10))) fun A12 =>
    bif (a_ic .le r10 (0 : Int32)) then
      rc49 x1 x2 (x3 ||| (0 : Int32)) x4 x5 x6 (x7 + (1 : Int32)) A12
    else
      rc49 x1 x2 (x3 ||| ((1 : Int32) <<< (x7 &&& 31))) x4 x5 x6 (x7 + (1 : Int32)) A12
    else none
    else none
def g_163_49 (N : Nat) (rc32 : Int32 → Int32 → Int32 → Int32 → mS → Option (Int32 × mS)) : Nat → Int32 → Int32 → Int32 → Int32 → Int32 → Int32 → Int32 → mS → Option (Int32 × mS)
  | 0 => fun _ _ _ _ _ _ _ _ => none
  | n + 1 => g_163_49b N rc32 (g_163_49 N rc32 n)
def g_163_32b (N : Nat) (rc32 : Int32 → Int32 → Int32 → Int32 → mS → Option (Int32 × mS)) (x1 : Int32) (x2 : Int32) (x3 : Int32) (x4 : Int32) (A : mS) : Option (Int32 × mS) :=
  bif (a_ic .ge x4 x1) then
    m_bd (g_116 N  A) fun r5 A5 =>
    g_163_99 N  N x2 x3 ((A5 8) 0) ((A5 8) 0) (1 : Int32) A5
  else
    m_bd (g_152 N  A) fun r6 A6 =>
    g_163_49 N rc32 N x1 x2 x3 x4 ((A 0) 1) ((A 0) 0) (0 : Int32) A6
def g_163_32 (N : Nat) : Nat → Int32 → Int32 → Int32 → Int32 → mS → Option (Int32 × mS)
  | 0 => fun _ _ _ _ _ => none
  | n + 1 => g_163_32b N (g_163_32 N n)
def g_163_16b (N : Nat) (rc16 : Int32 → Int32 → Int32 → mS → Option (Int32 × mS)) (x1 : Int32) (x2 : Int32) (x3 : Int32) (A : mS) : Option (Int32 × mS) :=
  bif (a_ic .ge x3 (8 : Int32)) then
    m_bd (g_115 N  A) fun r3 A3 =>
    g_163_32 N  N x1 x2 (0 : Int32) (0 : Int32) A3
  else
    bif (a_in x3 8) then
    m_st (va_up A 8 (upd (A 8) (x3).toNatClampNeg (0 : Int32))) fun A4 =>
    rc16 x1 x2 (x3 + (1 : Int32)) A4
    else none
def g_163_16 (N : Nat) : Nat → Int32 → Int32 → Int32 → mS → Option (Int32 × mS)
  | 0 => fun _ _ _ _ => none
  | n + 1 => g_163_16b N (g_163_16 N n)
/-- poor -/
def g_163 (N : Nat) (x1 : Int32) (x2 : Int32) (A : mS) : Option (Int32 × mS) :=
  m_bd (g_112 N x2 (0 : Int32) (1 : Int32) A) fun r1 A1 =>
  bif (a_ic .ne r1 (0 : Int32)) then
    m_bd (g_112 N x1 (1 : Int32) (40 : Int32) A1) fun r2 A2 =>
    bif (a_ic .ne r2 (0 : Int32)) then
      g_163_16 N  N x1 x2 (0 : Int32) A2
    else
      some ((-2 : Int32), A2)
  else
    some ((-1 : Int32), A1)
def g_164_13b (N : Nat) (rc13 : Int32 → Int64 → Int32 → mS → Option (Int64 × mS)) (x1 : Int32) (x2 : Int64) (x4 : Int32) (A : mS) : Option (Int64 × mS) :=
  bif (a_ic .ge x4 x1) then
    m_bd (g_116 N  A) fun r3 A3 =>
    some (x2, A3)
  else
    m_bd (g_136 N  A) fun r4 A4 =>
    m_bd (g_152 N  A4) fun r5 A5 =>
    m_bd (g_135 N (A5 99 14) ((A 0) 1) ((A 0) 0) A5) fun r6 A6 =>
    m_bd (g_135 N r4 ((A 0) 1) ((A 0) 0) A6) fun r7 A7 =>
    bif (a_ic .ge r6 r7) then
      rc13 x1 (x2 ||| (0 : Int64)) (x4 + (1 : Int32)) A7
    else
      rc13 x1 (x2 ||| ((1 : Int64) <<< (Int32.toInt64 x4 &&& 63))) (x4 + (1 : Int32)) A7
def g_164_13 (N : Nat) : Nat → Int32 → Int64 → Int32 → mS → Option (Int64 × mS)
  | 0 => fun _ _ _ _ => none
  | n + 1 => g_164_13b N (g_164_13 N n)
/-- worse -/
def g_164 (N : Nat) (x1 : Int32) (A : mS) : Option (Int64 × mS) :=
  m_bd (g_112 N x1 (1 : Int32) (40 : Int32) A) fun r1 A1 =>
  bif (a_ic .ne r1 (0 : Int32)) then
    m_bd (g_115 N  A1) fun r2 A2 =>
    g_164_13 N  N x1 (0 : Int64) (0 : Int32) A2
  else
    some ((-2 : Int32).toInt64, A1)
/-- book -/
def g_165 (N : Nat) (x1 : Int32) (A : mS) : Option (Int32 × mS) :=
  bif (a_ic .ne x1 (-1 : Int32)) then
    m_bd (g_113 N x1 A) fun r1 A1 =>
    bif (a_ic .ne r1 (0 : Int32)) then
      bif (a_ic .ne ((A1 0) 15) (12 : Int32)) then
        bif (a_in ((220 : Int32) + ((A1 0) 15)) 947) then
        m_st (va_up A1 0 (upd (A1 0) (((220 : Int32) + ((A1 0) 15))).toNatClampNeg x1)) fun A2 =>
        some (((upd (A2 0) 15 (((A2 0) 15) + (1 : Int32))) 15), (va_up A2 0 (upd (A2 0) 15 (((A2 0) 15) + (1 : Int32)))))
        else none
      else
        some ((-4 : Int32), A1)
    else
      some ((-1 : Int32), A1)
  else
    some ((0 : Int32), (va_up A 0 (upd (A 0) 15 (0 : Int32))))
def g_166_32 (N : Nat) (x1 : Int32) (A : mS) : Option (Int32 × mS) :=
  m_bd (g_116 N  A) fun r4 A4 =>
  some (x1, A4)
def g_166_6b (N : Nat) (rc6 : Int32 → Int32 → mS → Option (Int32 × mS)) (x1 : Int32) (x2 : Int32) (A : mS) : Option (Int32 × mS) :=
  bif (a_ic .ge x2 ((A 0) 15)) then
    g_166_32 N  x1 A
  else
    bif (a_ic .ne x1 (-5 : Int32)) then
      g_166_32 N  x1 A
    else
      m_bd (g_152 N  A) fun r2 A2 =>
      bif (a_in ((220 : Int32) + x2) 947) then
      m_li ((A2 0) (((220 : Int32) + x2)).toNatClampNeg) fun y3 =>
      bif (a_ic .eq (A2 99 14) y3) then
        rc6 x1 (x2 + (1 : Int32)) A2
      else
        rc6 x2 (x2 + (1 : Int32)) A2
      else none
def g_166_6 (N : Nat) : Nat → Int32 → Int32 → mS → Option (Int32 × mS)
  | 0 => fun _ _ _ => none
  | n + 1 => g_166_6b N (g_166_6 N n)
/-- looked -/
def g_166 (N : Nat) (A : mS) : Option (Int32 × mS) :=
  m_bd (g_115 N  A) fun r1 A1 =>
  g_166_6 N  N (-5 : Int32) (0 : Int32) A1
/-- ranBody -/
def g_167 (N : Nat) (x1 : Int32) (A : mS) : Option (Int32 × mS) :=
  bif (a_ic .ge (A 99 21) (20 : Int32)) then
    some (0, (va_up A 99 (upd (A 99) 21 ((A 99 21) + (1 : Int32)))))
  else
    bif (a_in (A 99 21) 20) then
    m_st (va_up A 9 (upd (A 9) ((A 99 21)).toNatClampNeg x1)) fun A1 =>
    some (0, (va_up A1 99 (upd (A1 99) 21 ((A1 99 21) + (1 : Int32)))))
    else none
def g_168_11 (N : Nat) (x0 : Int32) (x1 : Int32) (A : mS) : Option (Int32 × mS) :=
  bif (a_ic .ne x1 (2 : Int32)) then
    some ((0 : Int32), A)
  else
    bif (a_ic .eq x0 (5 : Int32)) then
      some ((1 : Int32), A)
    else
      bif (a_ic .ne x0 (6 : Int32)) then
        some ((0 : Int32), A)
      else
        some ((1 : Int32), A)
/-- isUnder -/
def g_168 (N : Nat) (x0 : Int32) (x1 : Int32) (A : mS) : Option (Int32 × mS) :=
  bif (a_ic .eq x1 (0 : Int32)) then
    some ((1 : Int32), A)
  else
    bif (a_ic .eq x1 x0) then
      some ((1 : Int32), A)
    else
      bif (a_ic .ne x1 (1 : Int32)) then
        g_168_11 N  x0 x1 A
      else
        bif (a_ic .eq x0 (4 : Int32)) then
          some ((1 : Int32), A)
        else
          g_168_11 N  x0 x1 A
/-- plainBids -/
def g_169 (N : Nat) (x1 : Int32) (A : mS) : Option (Int32 × mS) :=
  m_bd (g_167 N (1 : Int32) A) fun r1 A1 =>
  some ((x1 + (A1 99 23)), A1)
/-- bidsActs -/
def g_170 (N : Nat) (x1 : Int32) (A : mS) : Option (Int32 × mS) :=
  m_bd (g_168 N (A 99 22) (1 : Int32) A) fun r1 A1 =>
  bif (a_ic .eq r1 (0 : Int32)) then
    bif (a_ic .ne (A1 99 22) (5 : Int32)) then
      m_bd (g_169 N x1 A1) fun r2 A2 =>
      some (r2, A2)
    else
      m_bd (g_167 N (51 : Int32) A1) fun r3 A3 =>
      m_bd (g_169 N x1 A3) fun r4 A4 =>
      some ((r4 ^^^ (A4 99 23)), A4)
  else
    m_bd (g_167 N (11 : Int32) A1) fun r5 A5 =>
    m_bd (g_169 N (x1 * (3 : Int32)) A5) fun r6 A6 =>
    some (r6, A6)
/-- plainPays -/
def g_171 (N : Nat) (x1 : Int32) (A : mS) : Option (Int32 × mS) :=
  m_bd (g_167 N (2 : Int32) A) fun r1 A1 =>
  m_bd (g_170 N x1 A1) fun r2 A2 =>
  some ((r2 - (A2 99 24)), A2)
/-- leaguePays -/
def g_172 (N : Nat) (x1 : Int32) (A : mS) : Option (Int32 × mS) :=
  m_bd (g_167 N (21 : Int32) A) fun r1 A1 =>
  m_bd (g_171 N x1 A1) fun r2 A2 =>
  some ((-r2), A2)
/-- paysActs -/
def g_173 (N : Nat) (x1 : Int32) (A : mS) : Option (Int32 × mS) :=
  bif (a_ic .ne (A 99 22) (6 : Int32)) then
    m_bd (g_168 N (A 99 22) (2 : Int32) A) fun r1 A1 =>
    bif (a_ic .eq r1 (0 : Int32)) then
      m_bd (g_171 N x1 A1) fun r2 A2 =>
      some (r2, A2)
    else
      m_bd (g_172 N x1 A1) fun r3 A3 =>
      some (r3, A3)
  else
    m_bd (g_167 N (61 : Int32) A) fun r4 A4 =>
    m_bd (g_172 N x1 A4) fun r5 A5 =>
    some ((r5 + (A5 99 24)), A5)
/-- plainTells -/
def g_174 (N : Nat) (x1 : Int32) (A : mS) : Option (Int32 × mS) :=
  m_bd (g_167 N (3 : Int32) A) fun r1 A1 =>
  m_bd (g_173 N x1 A1) fun r2 A2 =>
  some ((r2 * (2 : Int32)), A2)
/-- tellsActs -/
def g_175 (N : Nat) (x1 : Int32) (A : mS) : Option (Int32 × mS) :=
  bif (a_ic .ne (A 99 22) (3 : Int32)) then
    bif (a_ic .ne (A 99 22) (4 : Int32)) then
      m_bd (g_174 N x1 A) fun r1 A1 =>
      some (r1, A1)
    else
      m_bd (g_167 N (41 : Int32) A) fun r2 A2 =>
      m_bd (g_174 N (x1 - (1 : Int32)) A2) fun r3 A3 =>
      m_bd (g_170 N (2 : Int32) A3) fun r4 A4 =>
      some ((r3 + r4), A4)
  else
    m_bd (g_167 N (31 : Int32) A) fun r5 A5 =>
    m_bd (g_174 N x1 A5) fun r6 A6 =>
    some ((r6 ^^^ (7 : Int32)), A6)
/-- act -/
def g_176 (N : Nat) (x1 : Int32) (x2 : Int32) (x3 : Int32) (A : mS) : Option (Int32 × mS) :=
  m_bd (g_114 N x1 (va_up A 99 (upd (A 99) 21 (0 : Int32)))) fun r1 A1 =>
  bif (a_ic .eq r1 (0 : Int32)) then
    some ((0 : Int32), A1)
  else
    m_bd (g_112 N x2 (0 : Int32) (2 : Int32) A1) fun r2 A2 =>
    bif (a_ic .ne r2 (0 : Int32)) then
      bif (a_in ((140 : Int32) + x1) 947) then
      m_li ((A2 0) (((140 : Int32) + x1)).toNatClampNeg) fun y3 =>
      bif (a_in ((148 : Int32) + x1) 947) then
      m_st (va_up A2 99 (upd (upd (A2 99) 22 y3) 23 x1)) fun A4 =>
      bif (a_ic .ne x2 (0 : Int32)) then
        m_st (va_up A4 99 (upd (A4 99) 24 ((A2 0) (((148 : Int32) + x1)).toNatClampNeg))) fun A5 =>
        bif (a_ic .ne x2 (1 : Int32)) then
          m_bd (g_175 N x3 A5) fun r6 A6 =>
          some (r6, A6)
        else
          m_bd (g_173 N x3 A5) fun r7 A7 =>
          some (r7, A7)
      else
        m_st (va_up A4 99 (upd (A4 99) 24 ((A2 0) (((148 : Int32) + x1)).toNatClampNeg))) fun A8 =>
        m_bd (g_170 N x3 A8) fun r9 A9 =>
        some (r9, A9)
      else none
      else none
    else
      some ((0 : Int32), A2)
def g_177_10 (N : Nat) (x1 : Int32) (t0 : Int32) (t1 : Int32) (t2 : Int32) (A : mS) : Option (Int32 × mS) :=
  m_bd (g_112 N t0 t1 (t2 - (1 : Int32)) A) fun r1 A1 =>
  bif (a_ic .eq r1 (0 : Int32)) then
    some ((-1 : Int32), A1)
  else
    bif (a_in x1 20) then
    m_li ((A1 9) (x1).toNatClampNeg) fun y2 =>
    some (y2, A1)
    else none
/-- trace -/
def g_177 (N : Nat) (x1 : Int32) (A : mS) : Option (Int32 × mS) :=
  bif (a_ic .ge (A 99 21) (20 : Int32)) then
    g_177_10 N  x1 x1 (0 : Int32) (20 : Int32) A
  else
    g_177_10 N  x1 x1 (0 : Int32) (A 99 21) A
/-- as -/
def g_178 (N : Nat) (x1 : Int32) (x2 : Int32) (A : mS) : Option (Int32 × mS) :=
  m_bd (g_114 N x1 A) fun r1 A1 =>
  bif (a_ic .eq r1 (0 : Int32)) then
    some ((-1 : Int32), A1)
  else
    m_bd (g_112 N x2 (0 : Int32) (6 : Int32) A1) fun r2 A2 =>
    bif (a_ic .ne r2 (0 : Int32)) then
      bif (a_in ((140 : Int32) + x1) 947) then
      m_li ((A2 0) (((140 : Int32) + x1)).toNatClampNeg) fun y3 =>
      m_bd (g_168 N y3 x2 A2) fun r4 A4 =>
      bif (a_ic .eq r4 (0 : Int32)) then
        some ((-6 : Int32), A4)
      else
        bif (a_in ((148 : Int32) + x1) 947) then
        m_li ((A4 0) (((148 : Int32) + x1)).toNatClampNeg) fun y5 =>
        some (y5, A4)
        else none
      else none
    else
      some ((-1 : Int32), A2)
def g_179_2b (N : Nat) (rc2 : Int32 → mS → Option (Int32 × mS)) (x1 : Int32) (A : mS) : Option (Int32 × mS) :=
  bif (a_ic .ge x1 (947 : Int32)) then
    some (((A 0) 11), (va_up A 99 (upd (A 99) 4 (1 : Int32))))
  else
    bif (a_in x1 947) then
    m_li ((A 0) (x1).toNatClampNeg) fun y1 =>
    bif (a_in x1 947) then
    m_st (va_up A 1 (upd (A 1) (x1).toNatClampNeg y1)) fun A2 =>
    rc2 (x1 + (1 : Int32)) A2
    else none
    else none
def g_179_2 (N : Nat) : Nat → Int32 → mS → Option (Int32 × mS)
  | 0 => fun _ _ => none
  | n + 1 => g_179_2b N (g_179_2 N n)
/-- image -/
def g_179 (N : Nat) (A : mS) : Option (Int32 × mS) :=
  g_179_2 N  N (0 : Int32) A
def g_180_7b (N : Nat) (rc7 : Int32 → mS → Option (Int32 × mS)) (x1 : Int32) (A : mS) : Option (Int32 × mS) :=
  bif (a_ic .ge x1 (947 : Int32)) then
    some (((A 0) 11), A)
  else
    bif (a_in x1 947) then
    m_li ((A 1) (x1).toNatClampNeg) fun y1 =>
    bif (a_in x1 947) then
    m_st (va_up A 0 (upd (A 0) (x1).toNatClampNeg y1)) fun A2 =>
    rc7 (x1 + (1 : Int32)) A2
    else none
    else none
def g_180_7 (N : Nat) : Nat → Int32 → mS → Option (Int32 × mS)
  | 0 => fun _ _ => none
  | n + 1 => g_180_7b N (g_180_7 N n)
/-- undo -/
def g_180 (N : Nat) (A : mS) : Option (Int32 × mS) :=
  bif (a_ic .ne (A 99 4) (0 : Int32)) then
    g_180_7 N  N (0 : Int32) A
  else
    some ((-3 : Int32), A)
/-- count -/
def g_181 (N : Nat) (x1 : Int32) (A : mS) : Option (Int32 × mS) :=
  if (a_tsw 0 6 35 [2, 7, 12, 17, 22, 27, 32] x1) = 2 then
    some (((A 0) 11), A)
  else if (a_tsw 0 6 35 [2, 7, 12, 17, 22, 27, 32] x1) = 7 then
    some (((A 0) 12), A)
  else if (a_tsw 0 6 35 [2, 7, 12, 17, 22, 27, 32] x1) = 12 then
    some (((A 0) 13), A)
  else if (a_tsw 0 6 35 [2, 7, 12, 17, 22, 27, 32] x1) = 17 then
    some (((A 0) 14), A)
  else if (a_tsw 0 6 35 [2, 7, 12, 17, 22, 27, 32] x1) = 22 then
    some (((A 0) 15), A)
  else if (a_tsw 0 6 35 [2, 7, 12, 17, 22, 27, 32] x1) = 27 then
    some (((A 0) 16), A)
  else if (a_tsw 0 6 35 [2, 7, 12, 17, 22, 27, 32] x1) = 32 then
    some ((A 99 21), A)
  else if (a_tsw 0 6 35 [2, 7, 12, 17, 22, 27, 32] x1) = 35 then
    some ((-1 : Int32), A)
  else none
end
section
/-! 31.mpre: rules for the theorems on mirrored functions; the two methods of String -/
theorem a_bt {α : Type} {b : Bool} {x y z : α} (hb : b = true) (h : (bif b then x else y) = z) : x = z := by
  rw [hb] at h
  exact h
theorem a_be {α : Type} {b : Bool} {x y z : α} (hb : b = false) (h : (bif b then x else y) = z) : y = z := by
  rw [hb] at h
  exact h
section MP
variable {fz : Value} {sc : Nat × (Nat → Int32)} {d k : Nat} {L : aL} {st : List Value} {h : List aC} {Q : Option Value → List aC → Prop}
theorem v_it {b : Bool} {i1 i2 : Nat} (hb : b = true) (hv : v_V fz sc d k i1 L st h Q) : v_V fz sc d k (bif b then i1 else i2) L st h Q := by
  rw [hb]
  exact hv
theorem v_ie {b : Bool} {i1 i2 : Nat} (hb : b = false) (hv : v_V fz sc d k i2 L st h Q) : v_V fz sc d k (bif b then i1 else i2) L st h Q := by
  rw [hb]
  exact hv
theorem v_cs {i ml n kk ml2 w ix len pc : Nat} {cst : Int32} {y y2 : MethodName} {bs bs2 : ByteArray} {rt rt2 : Option FieldType} {rows rows2 : List aI} {tl : aX} {E : aL} {rest : List Value} (hP : a_P[k]? = some (y, bs, ml, rt, rows)) (hrow : rows[i]? = some (pc, .invokevirtual ix, len, cst, [5, kk, n] :: tl)) (hst : st.drop n = .retAddr w :: rest) (hw : w < 8) (hP2 : a_P[kk]? = some (y2, bs2, ml2, rt2, rows2)) (hck : (decide ((rest.map fun v => v.category).sum ≤ 8) && decide ((Value.retAddr w :: (st.take n).reverse).length ≤ ml2) && (Value.retAddr w :: (st.take n).reverse).all (fun v => v.category == 1)) = true) (hE : a_ent ml2 (Value.retAddr w :: (st.take n).reverse) = E)
    (hv : v_V fz sc d kk 0 E [] h (fun rv h' => v_V fz sc (d + 1) k (i + 1) L (rv.toList ++ rest) h' Q)) : v_V fz sc (d + 1) k i L st h Q := by
  have hc : a_cal a_tx.length (.invokevirtual ix) ([5, kk, n] :: tl) st h = some (kk, .retAddr w :: (st.take n).reverse, rest) := by
    simp only [a_cal, hst]
    rw [if_pos (show w < a_tx.length from hw)]
  refine v_call 1 (k' := kk) (i' := i + 1) (E := E) (L' := L) (rest := rest) (h1 := h) (fun q => ?_) hv
  simp only [a_go, hP, hrow, a_fin, hc, hP2]
  rw [hck, hE]
  rfl
theorem v_ii {i s len pc : Nat} {z : Int} {cst x x' : Int32} {y : MethodName} {bs : ByteArray} {ml : Nat} {rt : Option FieldType} {rows : List aI} {tl : aX} {L' : aL} (hP : a_P[k]? = some (y, bs, ml, rt, rows)) (hrow : rows[i]? = some (pc, .iinc s z, len, cst, tl)) (hL : a_ld L s = .int x) (hg : a_pg L s = true) (hy : x + cst = x') (hL' : L.set s (some (.int x')) = L') (hv : v_V fz sc d k (i + 1) L' st h Q) : v_V fz sc d k i L st h Q := by
  refine v_blk 1 (fun n => ?_) hv
  simp only [a_go, hP, hrow, a_fin, a_cal, a_s1, hL]
  rw [hg, hy, hL']
  rfl
theorem t_len_lt {w : Nat} {x : Int32} (hc : t_len w = some x) : w < 8 := by
  unfold t_len at hc
  split at hc
  · assumption
  · cases hc
theorem t_chr_lt {w : Nat} {j x : Int32} (hc : t_chr w j = some x) : w < 8 := by
  unfold t_chr at hc
  split at hc
  · assumption
  · cases hc
theorem m_bd_ok {α β : Type} {o : Option (α × mS)} {f : α → mS → Option β} {q : β} (hf : m_bd o f = some q) : ∃ (r : α) (A : mS), o = some (r, A) ∧ f r A = some q := by
  cases o with
  | none => cases hf
  | some z => exact ⟨z.1, z.2, rfl, hf⟩
theorem m_st_ok {β : Type} {x : mS} {f : mS → Option β} {q : β} (hf : m_st x f = some q) : ∃ A : mS, x = A ∧ f A = some q := ⟨x, rfl, hf⟩
theorem m_li_ok {β : Type} {x : Int32} {f : Int32 → Option β} {q : β} (hf : m_li x f = some q) : ∃ y : Int32, x = y ∧ f y = some q := ⟨x, rfl, hf⟩
theorem m_rt {α : Type} {a r : α} {A A' : mS} (h : some (a, A) = some (r, A')) : r = a ∧ A' = A := ⟨(congrArg Prod.fst (Option.some.inj h)).symm, (congrArg Prod.snd (Option.some.inj h)).symm⟩
theorem m_bs_ok {β : Type} {o : Option Int32} {f : Int32 → Option β} {q : β} (hf : m_bs o f = some q) : ∃ r : Int32, o = some r ∧ f r = some q := by
  cases o with
  | none => cases hf
  | some z => exact ⟨z, rfl, hf⟩

set_option maxRecDepth 100000 in
theorem t_len_ok {w : Nat} {x : Int32} (hfz : fz = .null ∨ fz = .retAddr 60) (hd : 5 ≤ d) (hc : t_len w = some x) : v_V fz sc d 182 0 [some (.retAddr w)] [] h (fun rv h' => rv = some (.int x) ∧ h' = h) := by
  obtain ⟨d, rfl⟩ : ∃ z, d = z + 5 := ⟨d - 5, by omega⟩
  have hw : w < 8 := by
    unfold t_len at hc
    split at hc
    · assumption
    · cases hc
  rcases (show w = 0 ∨ w = 1 ∨ w = 2 ∨ w = 3 ∨ w = 4 ∨ w = 5 ∨ w = 6 ∨ w = 7 by omega) with rfl | rfl | rfl | rfl | rfl | rfl | rfl | rfl
  · have hx : x = 5 := Option.some.inj (hc.symm.trans (by decide +kernel))
    subst hx
    exact ⟨60, _, _, rfl, rfl, rfl⟩
  · have hx : x = 5 := Option.some.inj (hc.symm.trans (by decide +kernel))
    subst hx
    exact ⟨60, _, _, rfl, rfl, rfl⟩
  · have hx : x = 5 := Option.some.inj (hc.symm.trans (by decide +kernel))
    subst hx
    exact ⟨60, _, _, rfl, rfl, rfl⟩
  · have hx : x = 6 := Option.some.inj (hc.symm.trans (by decide +kernel))
    subst hx
    exact ⟨60, _, _, rfl, rfl, rfl⟩
  · have hx : x = 1 := Option.some.inj (hc.symm.trans (by decide +kernel))
    subst hx
    exact ⟨60, _, _, rfl, rfl, rfl⟩
  · have hx : x = 1 := Option.some.inj (hc.symm.trans (by decide +kernel))
    subst hx
    exact ⟨60, _, _, rfl, rfl, rfl⟩
  · have hx : x = 5 := Option.some.inj (hc.symm.trans (by decide +kernel))
    subst hx
    exact ⟨60, _, _, rfl, rfl, rfl⟩
  · have hx : x = 3 := Option.some.inj (hc.symm.trans (by decide +kernel))
    subst hx
    exact ⟨60, _, _, rfl, rfl, rfl⟩

set_option maxRecDepth 100000 in
theorem t_chr_ok {w : Nat} {j x : Int32} (hfz : fz = .null ∨ fz = .retAddr 60) (hd : 5 ≤ d) (hc : t_chr w j = some x) : v_V fz sc d 183 0 [some (.retAddr w), some (.int j)] [] h (fun rv h' => rv = some (.int x) ∧ h' = h) := by
  obtain ⟨d, rfl⟩ : ∃ z, d = z + 5 := ⟨d - 5, by omega⟩
  have hw : w < 8 := by
    unfold t_chr at hc
    split at hc
    · assumption
    · cases hc
  rcases hfz with rfl | rfl
  · rcases (show w = 0 ∨ w = 1 ∨ w = 2 ∨ w = 3 ∨ w = 4 ∨ w = 5 ∨ w = 6 ∨ w = 7 by omega) with rfl | rfl | rfl | rfl | rfl | rfl | rfl | rfl
    · have hin : vp_in j 5 := a_in_ok (by unfold t_chr at hc; rw [if_pos (by decide)] at hc; exact (a_bif hc).1)
      obtain ⟨q, hq, rfl⟩ := vp_in_of hin (by decide)
      rcases (show q = 0 ∨ q = 1 ∨ q = 2 ∨ q = 3 ∨ q = 4 by omega) with rfl | rfl | rfl | rfl | rfl
      · have hx : x = 104 := Option.some.inj (hc.symm.trans (by decide +kernel))
        subst hx
        exact ⟨90, _, _, rfl, rfl, rfl⟩
      · have hx : x = 97 := Option.some.inj (hc.symm.trans (by decide +kernel))
        subst hx
        exact ⟨90, _, _, rfl, rfl, rfl⟩
      · have hx : x = 114 := Option.some.inj (hc.symm.trans (by decide +kernel))
        subst hx
        exact ⟨90, _, _, rfl, rfl, rfl⟩
      · have hx : x = 109 := Option.some.inj (hc.symm.trans (by decide +kernel))
        subst hx
        exact ⟨90, _, _, rfl, rfl, rfl⟩
      · have hx : x = 32 := Option.some.inj (hc.symm.trans (by decide +kernel))
        subst hx
        exact ⟨90, _, _, rfl, rfl, rfl⟩
    · have hin : vp_in j 5 := a_in_ok (by unfold t_chr at hc; rw [if_pos (by decide)] at hc; exact (a_bif hc).1)
      obtain ⟨q, hq, rfl⟩ := vp_in_of hin (by decide)
      rcases (show q = 0 ∨ q = 1 ∨ q = 2 ∨ q = 3 ∨ q = 4 by omega) with rfl | rfl | rfl | rfl | rfl
      · have hx : x = 114 := Option.some.inj (hc.symm.trans (by decide +kernel))
        subst hx
        exact ⟨90, _, _, rfl, rfl, rfl⟩
      · have hx : x = 117 := Option.some.inj (hc.symm.trans (by decide +kernel))
        subst hx
        exact ⟨90, _, _, rfl, rfl, rfl⟩
      · have hx : x = 108 := Option.some.inj (hc.symm.trans (by decide +kernel))
        subst hx
        exact ⟨90, _, _, rfl, rfl, rfl⟩
      · have hx : x = 101 := Option.some.inj (hc.symm.trans (by decide +kernel))
        subst hx
        exact ⟨90, _, _, rfl, rfl, rfl⟩
      · have hx : x = 32 := Option.some.inj (hc.symm.trans (by decide +kernel))
        subst hx
        exact ⟨90, _, _, rfl, rfl, rfl⟩
    · have hin : vp_in j 5 := a_in_ok (by unfold t_chr at hc; rw [if_pos (by decide)] at hc; exact (a_bif hc).1)
      obtain ⟨q, hq, rfl⟩ := vp_in_of hin (by decide)
      rcases (show q = 0 ∨ q = 1 ∨ q = 2 ∨ q = 3 ∨ q = 4 by omega) with rfl | rfl | rfl | rfl | rfl
      · have hx : x = 103 := Option.some.inj (hc.symm.trans (by decide +kernel))
        subst hx
        exact ⟨90, _, _, rfl, rfl, rfl⟩
      · have hx : x = 105 := Option.some.inj (hc.symm.trans (by decide +kernel))
        subst hx
        exact ⟨90, _, _, rfl, rfl, rfl⟩
      · have hx : x = 102 := Option.some.inj (hc.symm.trans (by decide +kernel))
        subst hx
        exact ⟨90, _, _, rfl, rfl, rfl⟩
      · have hx : x = 116 := Option.some.inj (hc.symm.trans (by decide +kernel))
        subst hx
        exact ⟨90, _, _, rfl, rfl, rfl⟩
      · have hx : x = 32 := Option.some.inj (hc.symm.trans (by decide +kernel))
        subst hx
        exact ⟨90, _, _, rfl, rfl, rfl⟩
    · have hin : vp_in j 6 := a_in_ok (by unfold t_chr at hc; rw [if_pos (by decide)] at hc; exact (a_bif hc).1)
      obtain ⟨q, hq, rfl⟩ := vp_in_of hin (by decide)
      rcases (show q = 0 ∨ q = 1 ∨ q = 2 ∨ q = 3 ∨ q = 4 ∨ q = 5 by omega) with rfl | rfl | rfl | rfl | rfl | rfl
      · have hx : x = 119 := Option.some.inj (hc.symm.trans (by decide +kernel))
        subst hx
        exact ⟨90, _, _, rfl, rfl, rfl⟩
      · have hx : x = 111 := Option.some.inj (hc.symm.trans (by decide +kernel))
        subst hx
        exact ⟨90, _, _, rfl, rfl, rfl⟩
      · have hx : x = 114 := Option.some.inj (hc.symm.trans (by decide +kernel))
        subst hx
        exact ⟨90, _, _, rfl, rfl, rfl⟩
      · have hx : x = 116 := Option.some.inj (hc.symm.trans (by decide +kernel))
        subst hx
        exact ⟨90, _, _, rfl, rfl, rfl⟩
      · have hx : x = 104 := Option.some.inj (hc.symm.trans (by decide +kernel))
        subst hx
        exact ⟨90, _, _, rfl, rfl, rfl⟩
      · have hx : x = 32 := Option.some.inj (hc.symm.trans (by decide +kernel))
        subst hx
        exact ⟨90, _, _, rfl, rfl, rfl⟩
    · have hin : vp_in j 1 := a_in_ok (by unfold t_chr at hc; rw [if_pos (by decide)] at hc; exact (a_bif hc).1)
      obtain ⟨q, hq, rfl⟩ := vp_in_of hin (by decide)
      rcases (show q = 0 by omega) with rfl
      · have hx : x = 32 := Option.some.inj (hc.symm.trans (by decide +kernel))
        subst hx
        exact ⟨90, _, _, rfl, rfl, rfl⟩
    · have hin : vp_in j 1 := a_in_ok (by unfold t_chr at hc; rw [if_pos (by decide)] at hc; exact (a_bif hc).1)
      obtain ⟨q, hq, rfl⟩ := vp_in_of hin (by decide)
      rcases (show q = 0 by omega) with rfl
      · have hx : x = 41 := Option.some.inj (hc.symm.trans (by decide +kernel))
        subst hx
        exact ⟨90, _, _, rfl, rfl, rfl⟩
    · have hin : vp_in j 5 := a_in_ok (by unfold t_chr at hc; rw [if_pos (by decide)] at hc; exact (a_bif hc).1)
      obtain ⟨q, hq, rfl⟩ := vp_in_of hin (by decide)
      rcases (show q = 0 ∨ q = 1 ∨ q = 2 ∨ q = 3 ∨ q = 4 by omega) with rfl | rfl | rfl | rfl | rfl
      · have hx : x = 119 := Option.some.inj (hc.symm.trans (by decide +kernel))
        subst hx
        exact ⟨90, _, _, rfl, rfl, rfl⟩
      · have hx : x = 121 := Option.some.inj (hc.symm.trans (by decide +kernel))
        subst hx
        exact ⟨90, _, _, rfl, rfl, rfl⟩
      · have hx : x = 100 := Option.some.inj (hc.symm.trans (by decide +kernel))
        subst hx
        exact ⟨90, _, _, rfl, rfl, rfl⟩
      · have hx : x = 112 := Option.some.inj (hc.symm.trans (by decide +kernel))
        subst hx
        exact ⟨90, _, _, rfl, rfl, rfl⟩
      · have hx : x = 107 := Option.some.inj (hc.symm.trans (by decide +kernel))
        subst hx
        exact ⟨90, _, _, rfl, rfl, rfl⟩
    · have hin : vp_in j 3 := a_in_ok (by unfold t_chr at hc; rw [if_pos (by decide)] at hc; exact (a_bif hc).1)
      obtain ⟨q, hq, rfl⟩ := vp_in_of hin (by decide)
      rcases (show q = 0 ∨ q = 1 ∨ q = 2 by omega) with rfl | rfl | rfl
      · have hx : x = 60 := Option.some.inj (hc.symm.trans (by decide +kernel))
        subst hx
        exact ⟨90, _, _, rfl, rfl, rfl⟩
      · have hx : x = 61 := Option.some.inj (hc.symm.trans (by decide +kernel))
        subst hx
        exact ⟨90, _, _, rfl, rfl, rfl⟩
      · have hx : x = 62 := Option.some.inj (hc.symm.trans (by decide +kernel))
        subst hx
        exact ⟨90, _, _, rfl, rfl, rfl⟩
  · rcases (show w = 0 ∨ w = 1 ∨ w = 2 ∨ w = 3 ∨ w = 4 ∨ w = 5 ∨ w = 6 ∨ w = 7 by omega) with rfl | rfl | rfl | rfl | rfl | rfl | rfl | rfl
    · have hin : vp_in j 5 := a_in_ok (by unfold t_chr at hc; rw [if_pos (by decide)] at hc; exact (a_bif hc).1)
      obtain ⟨q, hq, rfl⟩ := vp_in_of hin (by decide)
      rcases (show q = 0 ∨ q = 1 ∨ q = 2 ∨ q = 3 ∨ q = 4 by omega) with rfl | rfl | rfl | rfl | rfl
      · have hx : x = 104 := Option.some.inj (hc.symm.trans (by decide +kernel))
        subst hx
        exact ⟨90, _, _, rfl, rfl, rfl⟩
      · have hx : x = 97 := Option.some.inj (hc.symm.trans (by decide +kernel))
        subst hx
        exact ⟨90, _, _, rfl, rfl, rfl⟩
      · have hx : x = 114 := Option.some.inj (hc.symm.trans (by decide +kernel))
        subst hx
        exact ⟨90, _, _, rfl, rfl, rfl⟩
      · have hx : x = 109 := Option.some.inj (hc.symm.trans (by decide +kernel))
        subst hx
        exact ⟨90, _, _, rfl, rfl, rfl⟩
      · have hx : x = 32 := Option.some.inj (hc.symm.trans (by decide +kernel))
        subst hx
        exact ⟨90, _, _, rfl, rfl, rfl⟩
    · have hin : vp_in j 5 := a_in_ok (by unfold t_chr at hc; rw [if_pos (by decide)] at hc; exact (a_bif hc).1)
      obtain ⟨q, hq, rfl⟩ := vp_in_of hin (by decide)
      rcases (show q = 0 ∨ q = 1 ∨ q = 2 ∨ q = 3 ∨ q = 4 by omega) with rfl | rfl | rfl | rfl | rfl
      · have hx : x = 114 := Option.some.inj (hc.symm.trans (by decide +kernel))
        subst hx
        exact ⟨90, _, _, rfl, rfl, rfl⟩
      · have hx : x = 117 := Option.some.inj (hc.symm.trans (by decide +kernel))
        subst hx
        exact ⟨90, _, _, rfl, rfl, rfl⟩
      · have hx : x = 108 := Option.some.inj (hc.symm.trans (by decide +kernel))
        subst hx
        exact ⟨90, _, _, rfl, rfl, rfl⟩
      · have hx : x = 101 := Option.some.inj (hc.symm.trans (by decide +kernel))
        subst hx
        exact ⟨90, _, _, rfl, rfl, rfl⟩
      · have hx : x = 32 := Option.some.inj (hc.symm.trans (by decide +kernel))
        subst hx
        exact ⟨90, _, _, rfl, rfl, rfl⟩
    · have hin : vp_in j 5 := a_in_ok (by unfold t_chr at hc; rw [if_pos (by decide)] at hc; exact (a_bif hc).1)
      obtain ⟨q, hq, rfl⟩ := vp_in_of hin (by decide)
      rcases (show q = 0 ∨ q = 1 ∨ q = 2 ∨ q = 3 ∨ q = 4 by omega) with rfl | rfl | rfl | rfl | rfl
      · have hx : x = 103 := Option.some.inj (hc.symm.trans (by decide +kernel))
        subst hx
        exact ⟨90, _, _, rfl, rfl, rfl⟩
      · have hx : x = 105 := Option.some.inj (hc.symm.trans (by decide +kernel))
        subst hx
        exact ⟨90, _, _, rfl, rfl, rfl⟩
      · have hx : x = 102 := Option.some.inj (hc.symm.trans (by decide +kernel))
        subst hx
        exact ⟨90, _, _, rfl, rfl, rfl⟩
      · have hx : x = 116 := Option.some.inj (hc.symm.trans (by decide +kernel))
        subst hx
        exact ⟨90, _, _, rfl, rfl, rfl⟩
      · have hx : x = 32 := Option.some.inj (hc.symm.trans (by decide +kernel))
        subst hx
        exact ⟨90, _, _, rfl, rfl, rfl⟩
    · have hin : vp_in j 6 := a_in_ok (by unfold t_chr at hc; rw [if_pos (by decide)] at hc; exact (a_bif hc).1)
      obtain ⟨q, hq, rfl⟩ := vp_in_of hin (by decide)
      rcases (show q = 0 ∨ q = 1 ∨ q = 2 ∨ q = 3 ∨ q = 4 ∨ q = 5 by omega) with rfl | rfl | rfl | rfl | rfl | rfl
      · have hx : x = 119 := Option.some.inj (hc.symm.trans (by decide +kernel))
        subst hx
        exact ⟨90, _, _, rfl, rfl, rfl⟩
      · have hx : x = 111 := Option.some.inj (hc.symm.trans (by decide +kernel))
        subst hx
        exact ⟨90, _, _, rfl, rfl, rfl⟩
      · have hx : x = 114 := Option.some.inj (hc.symm.trans (by decide +kernel))
        subst hx
        exact ⟨90, _, _, rfl, rfl, rfl⟩
      · have hx : x = 116 := Option.some.inj (hc.symm.trans (by decide +kernel))
        subst hx
        exact ⟨90, _, _, rfl, rfl, rfl⟩
      · have hx : x = 104 := Option.some.inj (hc.symm.trans (by decide +kernel))
        subst hx
        exact ⟨90, _, _, rfl, rfl, rfl⟩
      · have hx : x = 32 := Option.some.inj (hc.symm.trans (by decide +kernel))
        subst hx
        exact ⟨90, _, _, rfl, rfl, rfl⟩
    · have hin : vp_in j 1 := a_in_ok (by unfold t_chr at hc; rw [if_pos (by decide)] at hc; exact (a_bif hc).1)
      obtain ⟨q, hq, rfl⟩ := vp_in_of hin (by decide)
      rcases (show q = 0 by omega) with rfl
      · have hx : x = 32 := Option.some.inj (hc.symm.trans (by decide +kernel))
        subst hx
        exact ⟨90, _, _, rfl, rfl, rfl⟩
    · have hin : vp_in j 1 := a_in_ok (by unfold t_chr at hc; rw [if_pos (by decide)] at hc; exact (a_bif hc).1)
      obtain ⟨q, hq, rfl⟩ := vp_in_of hin (by decide)
      rcases (show q = 0 by omega) with rfl
      · have hx : x = 41 := Option.some.inj (hc.symm.trans (by decide +kernel))
        subst hx
        exact ⟨90, _, _, rfl, rfl, rfl⟩
    · have hin : vp_in j 5 := a_in_ok (by unfold t_chr at hc; rw [if_pos (by decide)] at hc; exact (a_bif hc).1)
      obtain ⟨q, hq, rfl⟩ := vp_in_of hin (by decide)
      rcases (show q = 0 ∨ q = 1 ∨ q = 2 ∨ q = 3 ∨ q = 4 by omega) with rfl | rfl | rfl | rfl | rfl
      · have hx : x = 119 := Option.some.inj (hc.symm.trans (by decide +kernel))
        subst hx
        exact ⟨90, _, _, rfl, rfl, rfl⟩
      · have hx : x = 121 := Option.some.inj (hc.symm.trans (by decide +kernel))
        subst hx
        exact ⟨90, _, _, rfl, rfl, rfl⟩
      · have hx : x = 100 := Option.some.inj (hc.symm.trans (by decide +kernel))
        subst hx
        exact ⟨90, _, _, rfl, rfl, rfl⟩
      · have hx : x = 112 := Option.some.inj (hc.symm.trans (by decide +kernel))
        subst hx
        exact ⟨90, _, _, rfl, rfl, rfl⟩
      · have hx : x = 107 := Option.some.inj (hc.symm.trans (by decide +kernel))
        subst hx
        exact ⟨90, _, _, rfl, rfl, rfl⟩
    · have hin : vp_in j 3 := a_in_ok (by unfold t_chr at hc; rw [if_pos (by decide)] at hc; exact (a_bif hc).1)
      obtain ⟨q, hq, rfl⟩ := vp_in_of hin (by decide)
      rcases (show q = 0 ∨ q = 1 ∨ q = 2 by omega) with rfl | rfl | rfl
      · have hx : x = 60 := Option.some.inj (hc.symm.trans (by decide +kernel))
        subst hx
        exact ⟨90, _, _, rfl, rfl, rfl⟩
      · have hx : x = 61 := Option.some.inj (hc.symm.trans (by decide +kernel))
        subst hx
        exact ⟨90, _, _, rfl, rfl, rfl⟩
      · have hx : x = 62 := Option.some.inj (hc.symm.trans (by decide +kernel))
        subst hx
        exact ⟨90, _, _, rfl, rfl, rfl⟩
end MP
end
section
/-! 32.mthm, piece 0: runs of the model's methods are their mirrored functions (by program) -/
set_option maxRecDepth 100000 in
set_option maxHeartbeats 4000000 in
theorem gt_112 {fz : Value} {sc : Nat × (Nat → Int32)} (hfz : fz = .null ∨ fz = .retAddr 60) (N : Nat) (c : Nat → aC) (R : List aC) (d : Nat) (hd : 0 ≤ d) (x0 : Int32) (x1 : Int32) (x2 : Int32) (A : mS) (r : Int32) (A' : mS) (hf : g_112 N x0 x1 x2 A = some (r, A')) : v_V fz sc d 112 0 [some (.int x0), some (.int x1), some (.int x2)] [] (hM c A R) (fun rv h' => rv = some (.int r) ∧ h' = hM c A' R) := by
  unfold g_112 at hf
  refine v_blk 3 (i' := (bif (a_ic .lt x0 x1) then 8 else 3)) (L' := [some (.int x0), some (.int x1), some (.int x2)]) (st' := []) (h' := (hM c A R)) (fun _ => rfl) ?_
  rcases Bool.eq_false_or_eq_true (a_ic .lt x0 x1) with hb | hb
  · have hf := a_bt hb hf
    refine v_it hb ?_
    obtain ⟨rfl, rfl⟩ := m_rt hf
    exact v_ret 2 (fun _ => rfl) ⟨rfl, rfl⟩
  · have hf := a_be hb hf
    refine v_ie hb ?_
    refine v_blk 3 (i' := (bif (a_ic .gt x0 x2) then 8 else 6)) (L' := [some (.int x0), some (.int x1), some (.int x2)]) (st' := []) (h' := (hM c A R)) (fun _ => rfl) ?_
    rcases Bool.eq_false_or_eq_true (a_ic .gt x0 x2) with hb | hb
    · have hf := a_bt hb hf
      refine v_it hb ?_
      obtain ⟨rfl, rfl⟩ := m_rt hf
      exact v_ret 2 (fun _ => rfl) ⟨rfl, rfl⟩
    · have hf := a_be hb hf
      refine v_ie hb ?_
      obtain ⟨rfl, rfl⟩ := m_rt hf
      exact v_ret 3 (fun _ => rfl) ⟨rfl, rfl⟩
set_option maxRecDepth 100000 in
set_option maxHeartbeats 4000000 in
theorem gt_113 {fz : Value} {sc : Nat × (Nat → Int32)} (hfz : fz = .null ∨ fz = .retAddr 60) (N : Nat) (c : Nat → aC) (R : List aC) (d : Nat) (hd : 1 ≤ d) (x0 : Int32) (A : mS) (r : Int32) (A' : mS) (hf : g_113 N x0 A = some (r, A')) : v_V fz sc d 113 0 [some (.int x0)] [] (hM c A R) (fun rv h' => rv = some (.int r) ∧ h' = hM c A' R) := by
  unfold g_113 at hf
  obtain ⟨d, rfl⟩ : ∃ z, d = z + 1 := ⟨d - 1, by omega⟩
  obtain ⟨r1, A1, hc, hf⟩ := m_bd_ok hf
  refine v_call 4 (k' := 112) (i' := 4) (E := [some (.int x0), some (.int (0 : Int32)), some (.int (3 : Int32))]) (L' := [some (.int x0)]) (rest := []) (h1 := (hM c A R)) (fun _ => rfl) ?_
  refine v_post (gt_112 hfz N c R d (by omega) x0 (0 : Int32) (3 : Int32) A _ _ hc) ?_
  rintro rv h' ⟨rfl, rfl⟩
  obtain ⟨hg, hf⟩ := a_bif hf
  obtain ⟨rfl, rfl⟩ := m_rt hf
  exact v_retg 1 (fun _ => rfl) hg ⟨rfl, rfl⟩
set_option maxRecDepth 100000 in
set_option maxHeartbeats 4000000 in
theorem gt_114 {fz : Value} {sc : Nat × (Nat → Int32)} (hfz : fz = .null ∨ fz = .retAddr 60) (N : Nat) (c : Nat → aC) (R : List aC) (d : Nat) (hd : 1 ≤ d) (x1 : Int32) (A : mS) (r : Int32) (A' : mS) (hf : g_114 N x1 A = some (r, A')) : v_V fz sc d 114 0 [some (.ref 22), some (.int x1)] [] (hM c A R) (fun rv h' => rv = some (.int r) ∧ h' = hM c A' R) := by
  unfold g_114 at hf
  obtain ⟨d, rfl⟩ : ∃ z, d = z + 1 := ⟨d - 1, by omega⟩
  obtain ⟨r1, A1, hc, hf⟩ := m_bd_ok hf
  refine v_call 9 (k' := 112) (i' := 9) (E := [some (.int x1), some (.int (0 : Int32)), some (.int (((A 0) 11) - (1 : Int32)))]) (L' := [some (.ref 22), some (.int x1)]) (rest := []) (h1 := (hM c A R)) (fun _ => rfl) ?_
  refine v_post (gt_112 hfz N c R d (by omega) x1 (0 : Int32) (((A 0) 11) - (1 : Int32)) A _ _ hc) ?_
  rintro rv h' ⟨rfl, rfl⟩
  obtain ⟨hg, hf⟩ := a_bif hf
  obtain ⟨rfl, rfl⟩ := m_rt hf
  exact v_retg 1 (fun _ => rfl) hg ⟨rfl, rfl⟩
set_option maxRecDepth 100000 in
set_option maxHeartbeats 4000000 in
theorem gt_115_2b {fz : Value} {sc : Nat × (Nat → Int32)} (hfz : fz = .null ∨ fz = .retAddr 60) (N : Nat) (c : Nat → aC) (R : List aC) (d : Nat) (hd : 0 ≤ d) (rc2 : Int32 → mS → Option (Int32 × mS)) (hrc2 : ∀ (x1 : Int32) (A : mS) (r : Int32) (A' : mS), rc2 x1 A = some (r, A') → v_V fz sc d 115 2 [some (.ref 22), some (.int x1)] [] (hM c A R) (fun rv h' => rv = none ∧ h' = hM c A' R)) (x1 : Int32) (A : mS) (r : Int32) (A' : mS) (hf : g_115_2b N rc2 x1 A = some (r, A')) : v_V fz sc d 115 2 [some (.ref 22), some (.int x1)] [] (hM c A R) (fun rv h' => rv = none ∧ h' = hM c A' R) := by
  unfold g_115_2b at hf
  refine v_blk 3 (i' := (bif (a_ic .ge x1 (11 : Int32)) then 15 else 5)) (L' := [some (.ref 22), some (.int x1)]) (st' := []) (h' := (hM c A R)) (fun _ => rfl) ?_
  rcases Bool.eq_false_or_eq_true (a_ic .ge x1 (11 : Int32)) with hb | hb
  · have hf := a_bt hb hf
    refine v_it hb ?_
    obtain ⟨rfl, rfl⟩ := m_rt hf
    exact v_ret 1 (fun _ => rfl) ⟨rfl, rfl⟩
  · have hf := a_be hb hf
    refine v_ie hb ?_
    obtain ⟨hg, hf⟩ := a_bif hf
    refine v_grd 7 (i' := 12) (L' := [some (.ref 22), some (.int x1)]) (st' := [(.int ((A 0) (x1).toNatClampNeg)), (.int x1), (.ref 25)]) (h' := (hM c A R)) (fun _ => rfl) hg ?_
    obtain ⟨y1, hy, hf⟩ := m_li_ok hf
    rw [hy]
    obtain ⟨hg, hf⟩ := a_bif hf
    refine v_grd 1 (i' := 13) (L' := [some (.ref 22), some (.int x1)]) (st' := []) (h' := (hM c (va_up A 2 (upd (A 2) (x1).toNatClampNeg y1)) R)) (fun _ => rfl) hg ?_
    obtain ⟨A2, hA, hf⟩ := m_st_ok hf
    rw [hA]
    refine v_blk 2 (i' := 2) (L' := [some (.ref 22), some (.int (x1 + (1 : Int32)))]) (st' := []) (h' := (hM c A2 R)) (fun _ => rfl) ?_
    exact hrc2 (x1 + (1 : Int32)) A2 _ _ hf
theorem gt_115_2 {fz : Value} {sc : Nat × (Nat → Int32)} (hfz : fz = .null ∨ fz = .retAddr 60) (N : Nat) (c : Nat → aC) (R : List aC) (d : Nat) (hd : 0 ≤ d) : ∀ (n : Nat) (x1 : Int32) (A : mS) (r : Int32) (A' : mS) (hf : g_115_2 N n x1 A = some (r, A')), v_V fz sc d 115 2 [some (.ref 22), some (.int x1)] [] (hM c A R) (fun rv h' => rv = none ∧ h' = hM c A' R) := by
  intro n
  induction n with
  | zero => intro x1 A r A' hf; cases hf
  | succ n ih =>
    intro x1 A r A' hf
    exact gt_115_2b hfz N c R d hd (g_115_2 N n) ih x1 A r A' hf
set_option maxRecDepth 100000 in
set_option maxHeartbeats 4000000 in
theorem gt_115 {fz : Value} {sc : Nat × (Nat → Int32)} (hfz : fz = .null ∨ fz = .retAddr 60) (N : Nat) (c : Nat → aC) (R : List aC) (d : Nat) (hd : 0 ≤ d) (A : mS) (r : Int32) (A' : mS) (hf : g_115 N  A = some (r, A')) : v_V fz sc d 115 0 [some (.ref 22), none] [] (hM c A R) (fun rv h' => rv = none ∧ h' = hM c A' R) := by
  unfold g_115 at hf
  refine v_blk 2 (i' := 2) (L' := [some (.ref 22), some (.int (0 : Int32))]) (st' := []) (h' := (hM c A R)) (fun _ => rfl) ?_
  exact gt_115_2 hfz N c R d hd N (0 : Int32) A _ _ hf
set_option maxRecDepth 100000 in
set_option maxHeartbeats 4000000 in
theorem gt_116_2b {fz : Value} {sc : Nat × (Nat → Int32)} (hfz : fz = .null ∨ fz = .retAddr 60) (N : Nat) (c : Nat → aC) (R : List aC) (d : Nat) (hd : 0 ≤ d) (rc2 : Int32 → mS → Option (Int32 × mS)) (hrc2 : ∀ (x1 : Int32) (A : mS) (r : Int32) (A' : mS), rc2 x1 A = some (r, A') → v_V fz sc d 116 2 [some (.ref 22), some (.int x1)] [] (hM c A R) (fun rv h' => rv = none ∧ h' = hM c A' R)) (x1 : Int32) (A : mS) (r : Int32) (A' : mS) (hf : g_116_2b N rc2 x1 A = some (r, A')) : v_V fz sc d 116 2 [some (.ref 22), some (.int x1)] [] (hM c A R) (fun rv h' => rv = none ∧ h' = hM c A' R) := by
  unfold g_116_2b at hf
  refine v_blk 3 (i' := (bif (a_ic .ge x1 (11 : Int32)) then 15 else 5)) (L' := [some (.ref 22), some (.int x1)]) (st' := []) (h' := (hM c A R)) (fun _ => rfl) ?_
  rcases Bool.eq_false_or_eq_true (a_ic .ge x1 (11 : Int32)) with hb | hb
  · have hf := a_bt hb hf
    refine v_it hb ?_
    obtain ⟨rfl, rfl⟩ := m_rt hf
    exact v_ret 1 (fun _ => rfl) ⟨rfl, rfl⟩
  · have hf := a_be hb hf
    refine v_ie hb ?_
    obtain ⟨hg, hf⟩ := a_bif hf
    refine v_grd 7 (i' := 12) (L' := [some (.ref 22), some (.int x1)]) (st' := [(.int ((A 2) (x1).toNatClampNeg)), (.int x1), (.ref 23)]) (h' := (hM c A R)) (fun _ => rfl) hg ?_
    obtain ⟨y1, hy, hf⟩ := m_li_ok hf
    rw [hy]
    obtain ⟨hg, hf⟩ := a_bif hf
    refine v_grd 1 (i' := 13) (L' := [some (.ref 22), some (.int x1)]) (st' := []) (h' := (hM c (va_up A 0 (upd (A 0) (x1).toNatClampNeg y1)) R)) (fun _ => rfl) hg ?_
    obtain ⟨A2, hA, hf⟩ := m_st_ok hf
    rw [hA]
    refine v_blk 2 (i' := 2) (L' := [some (.ref 22), some (.int (x1 + (1 : Int32)))]) (st' := []) (h' := (hM c A2 R)) (fun _ => rfl) ?_
    exact hrc2 (x1 + (1 : Int32)) A2 _ _ hf
theorem gt_116_2 {fz : Value} {sc : Nat × (Nat → Int32)} (hfz : fz = .null ∨ fz = .retAddr 60) (N : Nat) (c : Nat → aC) (R : List aC) (d : Nat) (hd : 0 ≤ d) : ∀ (n : Nat) (x1 : Int32) (A : mS) (r : Int32) (A' : mS) (hf : g_116_2 N n x1 A = some (r, A')), v_V fz sc d 116 2 [some (.ref 22), some (.int x1)] [] (hM c A R) (fun rv h' => rv = none ∧ h' = hM c A' R) := by
  intro n
  induction n with
  | zero => intro x1 A r A' hf; cases hf
  | succ n ih =>
    intro x1 A r A' hf
    exact gt_116_2b hfz N c R d hd (g_116_2 N n) ih x1 A r A' hf
set_option maxRecDepth 100000 in
set_option maxHeartbeats 4000000 in
theorem gt_116 {fz : Value} {sc : Nat × (Nat → Int32)} (hfz : fz = .null ∨ fz = .retAddr 60) (N : Nat) (c : Nat → aC) (R : List aC) (d : Nat) (hd : 0 ≤ d) (A : mS) (r : Int32) (A' : mS) (hf : g_116 N  A = some (r, A')) : v_V fz sc d 116 0 [some (.ref 22), none] [] (hM c A R) (fun rv h' => rv = none ∧ h' = hM c A' R) := by
  unfold g_116 at hf
  refine v_blk 2 (i' := 2) (L' := [some (.ref 22), some (.int (0 : Int32))]) (st' := []) (h' := (hM c A R)) (fun _ => rfl) ?_
  exact gt_116_2 hfz N c R d hd N (0 : Int32) A _ _ hf
set_option maxRecDepth 100000 in
set_option maxHeartbeats 4000000 in
theorem gt_117 {fz : Value} {sc : Nat × (Nat → Int32)} (hfz : fz = .null ∨ fz = .retAddr 60) (N : Nat) (c : Nat → aC) (R : List aC) (d : Nat) (hd : 1 ≤ d) (x1 : Int32) (A : mS) (r : Int32) (A' : mS) (hf : g_117 N x1 A = some (r, A')) : v_V fz sc d 117 0 [some (.ref 22), some (.int x1)] [] (hM c A R) (fun rv h' => rv = some (.int r) ∧ h' = hM c A' R) := by
  unfold g_117 at hf
  obtain ⟨d, rfl⟩ : ∃ z, d = z + 1 := ⟨d - 1, by omega⟩
  obtain ⟨r1, A1, hc, hf⟩ := m_bd_ok hf
  refine v_call 4 (k' := 112) (i' := 4) (E := [some (.int x1), some (.int (0 : Int32)), some (.int (127 : Int32))]) (L' := [some (.ref 22), some (.int x1)]) (rest := []) (h1 := (hM c A R)) (fun _ => rfl) ?_
  refine v_post (gt_112 hfz N c R d (by omega) x1 (0 : Int32) (127 : Int32) A _ _ hc) ?_
  rintro rv h' ⟨rfl, rfl⟩
  refine v_blk 1 (i' := (bif (a_ic .ne r1 (0 : Int32)) then 7 else 5)) (L' := [some (.ref 22), some (.int x1)]) (st' := []) (h' := (hM c A1 R)) (fun _ => rfl) ?_
  rcases Bool.eq_false_or_eq_true (a_ic .ne r1 (0 : Int32)) with hb | hb
  · have hf := a_bt hb hf
    refine v_it hb ?_
    refine v_blk 6 (i' := (bif (a_ic .ne ((A1 0) 16) (120 : Int32)) then 15 else 13)) (L' := [some (.ref 22), some (.int x1)]) (st' := []) (h' := (hM c A1 R)) (fun _ => rfl) ?_
    rcases Bool.eq_false_or_eq_true (a_ic .ne ((A1 0) 16) (120 : Int32)) with hb | hb
    · have hf := a_bt hb hf
      refine v_it hb ?_
      obtain ⟨hg, hf⟩ := a_bif hf
      refine v_grd 10 (i' := 25) (L' := [some (.ref 22), some (.int x1)]) (st' := []) (h' := (hM c (va_up A1 0 (upd (A1 0) (((20 : Int32) + ((A1 0) 16))).toNatClampNeg x1)) R)) (fun _ => rfl) hg ?_
      obtain ⟨A2, hA, hf⟩ := m_st_ok hf
      rw [hA]
      obtain ⟨rfl, rfl⟩ := m_rt hf
      exact v_ret 13 (fun _ => rfl) ⟨rfl, rfl⟩
    · have hf := a_be hb hf
      refine v_ie hb ?_
      obtain ⟨rfl, rfl⟩ := m_rt hf
      exact v_ret 2 (fun _ => rfl) ⟨rfl, rfl⟩
  · have hf := a_be hb hf
    refine v_ie hb ?_
    obtain ⟨rfl, rfl⟩ := m_rt hf
    exact v_ret 2 (fun _ => rfl) ⟨rfl, rfl⟩
set_option maxRecDepth 100000 in
set_option maxHeartbeats 4000000 in
theorem gt_118 {fz : Value} {sc : Nat × (Nat → Int32)} (hfz : fz = .null ∨ fz = .retAddr 60) (N : Nat) (c : Nat → aC) (R : List aC) (d : Nat) (hd : 0 ≤ d) (A : mS) (r : Int32) (A' : mS) (hf : g_118 N  A = some (r, A')) : v_V fz sc d 118 0 [some (.ref 22)] [] (hM c A R) (fun rv h' => rv = some (.int r) ∧ h' = hM c A' R) := by
  unfold g_118 at hf
  refine v_blk 5 (i' := (bif (a_ic .ge (A 99 6) (A 99 7)) then 13 else 5)) (L' := [some (.ref 22)]) (st' := []) (h' := (hM c A R)) (fun _ => rfl) ?_
  rcases Bool.eq_false_or_eq_true (a_ic .ge (A 99 6) (A 99 7)) with hb | hb
  · have hf := a_bt hb hf
    refine v_it hb ?_
    obtain ⟨rfl, rfl⟩ := m_rt hf
    exact v_ret 2 (fun _ => rfl) ⟨rfl, rfl⟩
  · have hf := a_be hb hf
    refine v_ie hb ?_
    obtain ⟨hg, hf⟩ := a_bif hf
    refine v_grd 7 (i' := 12) (L' := [some (.ref 22)]) (st' := [(.int ((A 0) (((20 : Int32) + (A 99 6))).toNatClampNeg))]) (h' := (hM c A R)) (fun _ => rfl) hg ?_
    obtain ⟨y1, hy, hf⟩ := m_li_ok hf
    rw [hy]
    obtain ⟨rfl, rfl⟩ := m_rt hf
    exact v_ret 2 (fun _ => rfl) ⟨rfl, rfl⟩
set_option maxRecDepth 100000 in
set_option maxHeartbeats 4000000 in
theorem gt_119_11 {fz : Value} {sc : Nat × (Nat → Int32)} (hfz : fz = .null ∨ fz = .retAddr 60) (N : Nat) (c : Nat → aC) (R : List aC) (d : Nat) (hd : 1 ≤ d) (t1 : Int32) (A : mS) (r : Int32) (A' : mS) (hf : g_119_11 N t1 A = some (r, A')) : v_V fz sc d 119 11 [some (.ref 22), none] [(.int t1), (.ref 22)] (hM c A R) (fun rv h' => rv = none ∧ h' = hM c A' R) := by
  unfold g_119_11 at hf
  obtain ⟨d, rfl⟩ : ∃ z, d = z + 1 := ⟨d - 1, by omega⟩
  obtain ⟨hg, hf⟩ := a_bif hf
  refine v_grd 1 (i' := 12) (L' := [some (.ref 22), none]) (st' := []) (h' := (hM c (va_up A 99 (upd (A 99) 8 t1)) R)) (fun _ => rfl) hg ?_
  obtain ⟨A2, hA, hf⟩ := m_st_ok hf
  rw [hA]
  refine v_blk 6 (i' := (bif (a_ic .eq (A2 99 8) (0 : Int32)) then 20 else 18)) (L' := [some (.ref 22), none]) (st' := [(.int (A2 99 6)), (.ref 22)]) (h' := (hM c A2 R)) (fun _ => rfl) ?_
  rcases Bool.eq_false_or_eq_true (a_ic .eq (A2 99 8) (0 : Int32)) with hb | hb
  · have hf := a_bt hb hf
    refine v_it hb ?_
    obtain ⟨rfl, rfl⟩ := m_rt hf
    exact v_ret 4 (fun _ => rfl) ⟨rfl, rfl⟩
  · have hf := a_be hb hf
    refine v_ie hb ?_
    obtain ⟨rfl, rfl⟩ := m_rt hf
    exact v_ret 5 (fun _ => rfl) ⟨rfl, rfl⟩
set_option maxRecDepth 100000 in
set_option maxHeartbeats 4000000 in
theorem gt_119_8 {fz : Value} {sc : Nat × (Nat → Int32)} (hfz : fz = .null ∨ fz = .retAddr 60) (N : Nat) (c : Nat → aC) (R : List aC) (d : Nat) (hd : 1 ≤ d) (A : mS) (r : Int32) (A' : mS) (hf : g_119_8 N  A = some (r, A')) : v_V fz sc d 119 8 [some (.ref 22), none] [(.ref 22)] (hM c A R) (fun rv h' => rv = none ∧ h' = hM c A' R) := by
  unfold g_119_8 at hf
  obtain ⟨d, rfl⟩ : ∃ z, d = z + 1 := ⟨d - 1, by omega⟩
  refine v_blk 2 (i' := 11) (L' := [some (.ref 22), none]) (st' := [(.int (1 : Int32)), (.ref 22)]) (h' := (hM c A R)) (fun _ => rfl) ?_
  exact gt_119_11 hfz N c R (d + 1) hd (1 : Int32) A _ _ hf
set_option maxRecDepth 100000 in
set_option maxHeartbeats 4000000 in
theorem gt_119 {fz : Value} {sc : Nat × (Nat → Int32)} (hfz : fz = .null ∨ fz = .retAddr 60) (N : Nat) (c : Nat → aC) (R : List aC) (d : Nat) (hd : 1 ≤ d) (x1 : Int32) (A : mS) (r : Int32) (A' : mS) (hf : g_119 N x1 A = some (r, A')) : v_V fz sc d 119 0 [some (.ref 22), some (.int x1)] [] (hM c A R) (fun rv h' => rv = none ∧ h' = hM c A' R) := by
  unfold g_119 at hf
  obtain ⟨d, rfl⟩ : ∃ z, d = z + 1 := ⟨d - 1, by omega⟩
  refine v_blk 4 (i' := (bif (a_ic .ne (A 99 8) (0 : Int32)) then 8 else 4)) (L' := [some (.ref 22), some (.int x1)]) (st' := [(.ref 22)]) (h' := (hM c A R)) (fun _ => rfl) ?_
  rcases Bool.eq_false_or_eq_true (a_ic .ne (A 99 8) (0 : Int32)) with hb | hb
  · have hf := a_bt hb hf
    refine v_it hb ?_
    refine v_weak (L' := [some (.ref 22), none]) (show a_wk [some (.ref 22), none] [some (.ref 22), some (.int x1)] from ⟨rfl, ⟨(fun v hv => by cases hv; rfl), trivial⟩⟩) ?_
    exact gt_119_8 hfz N c R (d + 1) hd  A _ _ hf
  · have hf := a_be hb hf
    refine v_ie hb ?_
    obtain ⟨r1, A1, hc, hf⟩ := m_bd_ok hf
    refine v_call 2 (k' := 118) (i' := 6) (E := [some (.ref 22)]) (L' := [some (.ref 22), some (.int x1)]) (rest := [(.ref 22)]) (h1 := (hM c A R)) (fun _ => rfl) ?_
    refine v_post (gt_118 hfz N c R d (by omega)  A _ _ hc) ?_
    rintro rv h' ⟨rfl, rfl⟩
    refine v_blk 2 (i' := (bif (a_ic .eq r1 x1) then 10 else 8)) (L' := [some (.ref 22), some (.int x1)]) (st' := [(.ref 22)]) (h' := (hM c A1 R)) (fun _ => rfl) ?_
    rcases Bool.eq_false_or_eq_true (a_ic .eq r1 x1) with hb | hb
    · have hf := a_bt hb hf
      refine v_it hb ?_
      refine v_blk 1 (i' := 11) (L' := [some (.ref 22), some (.int x1)]) (st' := [(.int (0 : Int32)), (.ref 22)]) (h' := (hM c A1 R)) (fun _ => rfl) ?_
      refine v_weak (L' := [some (.ref 22), none]) (show a_wk [some (.ref 22), none] [some (.ref 22), some (.int x1)] from ⟨rfl, ⟨(fun v hv => by cases hv; rfl), trivial⟩⟩) ?_
      exact gt_119_11 hfz N c R (d + 1) hd (0 : Int32) A1 _ _ hf
    · have hf := a_be hb hf
      refine v_ie hb ?_
      refine v_weak (L' := [some (.ref 22), none]) (show a_wk [some (.ref 22), none] [some (.ref 22), some (.int x1)] from ⟨rfl, ⟨(fun v hv => by cases hv; rfl), trivial⟩⟩) ?_
      exact gt_119_8 hfz N c R (d + 1) hd  A1 _ _ hf
set_option maxRecDepth 100000 in
set_option maxHeartbeats 4000000 in
theorem gt_120_2b {fz : Value} {sc : Nat × (Nat → Int32)} (hfz : fz = .null ∨ fz = .retAddr 60) (N : Nat) (c : Nat → aC) (R : List aC) (d : Nat) (hd : 6 ≤ d) (rc2 : Nat → Int32 → mS → Option (Int32 × mS)) (hrc2 : ∀ (x1 : Nat) (x2 : Int32) (A : mS) (r : Int32) (A' : mS), rc2 x1 x2 A = some (r, A') → v_V fz sc d 120 2 [some (.ref 22), some (.retAddr x1), some (.int x2)] [] (hM c A R) (fun rv h' => rv = none ∧ h' = hM c A' R)) (x1 : Nat) (x2 : Int32) (A : mS) (r : Int32) (A' : mS) (hf : g_120_2b N rc2 x1 x2 A = some (r, A')) : v_V fz sc d 120 2 [some (.ref 22), some (.retAddr x1), some (.int x2)] [] (hM c A R) (fun rv h' => rv = none ∧ h' = hM c A' R) := by
  unfold g_120_2b at hf
  obtain ⟨d, rfl⟩ : ∃ z, d = z + 1 := ⟨d - 1, by omega⟩
  obtain ⟨r1, hc, hf⟩ := m_bs_ok hf
  refine v_blk 2 (i' := 4) (L' := [some (.ref 22), some (.retAddr x1), some (.int x2)]) (st' := [(.retAddr x1), (.int x2)]) (h' := (hM c A R)) (fun _ => rfl) ?_
  refine v_cs (n := 0) (w := x1) (kk := 182) (E := [some (.retAddr x1)]) (rest := [(.int x2)]) rfl rfl rfl (t_len_lt hc) rfl rfl rfl ?_
  refine v_post (t_len_ok hfz (by omega) hc) ?_
  rintro rv h' ⟨rfl, rfl⟩
  refine v_blk 1 (i' := (bif (a_ic .ge x2 r1) then 13 else 6)) (L' := [some (.ref 22), some (.retAddr x1), some (.int x2)]) (st' := []) (h' := (hM c A R)) (fun _ => rfl) ?_
  rcases Bool.eq_false_or_eq_true (a_ic .ge x2 r1) with hb | hb
  · have hf := a_bt hb hf
    refine v_it hb ?_
    obtain ⟨rfl, rfl⟩ := m_rt hf
    exact v_ret 1 (fun _ => rfl) ⟨rfl, rfl⟩
  · have hf := a_be hb hf
    refine v_ie hb ?_
    obtain ⟨r2, hc, hf⟩ := m_bs_ok hf
    refine v_blk 3 (i' := 9) (L' := [some (.ref 22), some (.retAddr x1), some (.int x2)]) (st' := [(.int x2), (.retAddr x1), (.ref 22)]) (h' := (hM c A R)) (fun _ => rfl) ?_
    refine v_cs (n := 1) (w := x1) (kk := 183) (E := [some (.retAddr x1), some (.int x2)]) (rest := [(.ref 22)]) rfl rfl rfl (t_chr_lt hc) rfl rfl rfl ?_
    refine v_post (t_chr_ok hfz (by omega) hc) ?_
    rintro rv h' ⟨rfl, rfl⟩
    obtain ⟨r3, A3, hc, hf⟩ := m_bd_ok hf
    refine v_call 1 (k' := 119) (i' := 11) (E := [some (.ref 22), some (.int r2)]) (L' := [some (.ref 22), some (.retAddr x1), some (.int x2)]) (rest := []) (h1 := (hM c A R)) (fun _ => rfl) ?_
    refine v_post (gt_119 hfz N c R d (by omega) r2 A _ _ hc) ?_
    rintro rv h' ⟨rfl, rfl⟩
    refine v_blk 2 (i' := 2) (L' := [some (.ref 22), some (.retAddr x1), some (.int (x2 + (1 : Int32)))]) (st' := []) (h' := (hM c A3 R)) (fun _ => rfl) ?_
    exact hrc2 x1 (x2 + (1 : Int32)) A3 _ _ hf
theorem gt_120_2 {fz : Value} {sc : Nat × (Nat → Int32)} (hfz : fz = .null ∨ fz = .retAddr 60) (N : Nat) (c : Nat → aC) (R : List aC) (d : Nat) (hd : 6 ≤ d) : ∀ (n : Nat) (x1 : Nat) (x2 : Int32) (A : mS) (r : Int32) (A' : mS) (hf : g_120_2 N n x1 x2 A = some (r, A')), v_V fz sc d 120 2 [some (.ref 22), some (.retAddr x1), some (.int x2)] [] (hM c A R) (fun rv h' => rv = none ∧ h' = hM c A' R) := by
  intro n
  induction n with
  | zero => intro x1 x2 A r A' hf; cases hf
  | succ n ih =>
    intro x1 x2 A r A' hf
    exact gt_120_2b hfz N c R d hd (g_120_2 N n) ih x1 x2 A r A' hf
set_option maxRecDepth 100000 in
set_option maxHeartbeats 4000000 in
theorem gt_120 {fz : Value} {sc : Nat × (Nat → Int32)} (hfz : fz = .null ∨ fz = .retAddr 60) (N : Nat) (c : Nat → aC) (R : List aC) (d : Nat) (hd : 6 ≤ d) (x1 : Nat) (A : mS) (r : Int32) (A' : mS) (hf : g_120 N x1 A = some (r, A')) : v_V fz sc d 120 0 [some (.ref 22), some (.retAddr x1), none] [] (hM c A R) (fun rv h' => rv = none ∧ h' = hM c A' R) := by
  unfold g_120 at hf
  obtain ⟨d, rfl⟩ : ∃ z, d = z + 1 := ⟨d - 1, by omega⟩
  refine v_blk 2 (i' := 2) (L' := [some (.ref 22), some (.retAddr x1), some (.int (0 : Int32))]) (st' := []) (h' := (hM c A R)) (fun _ => rfl) ?_
  exact gt_120_2 hfz N c R (d + 1) hd N x1 (0 : Int32) A _ _ hf
set_option maxRecDepth 100000 in
set_option maxHeartbeats 4000000 in
theorem gt_121_34 {fz : Value} {sc : Nat × (Nat → Int32)} (hfz : fz = .null ∨ fz = .retAddr 60) (N : Nat) (c : Nat → aC) (R : List aC) (d : Nat) (hd : 1 ≤ d) (rc18 : Int32 → Int32 → mS → Option (Int32 × mS)) (hrc18 : ∀ (x1 : Int32) (x2 : Int32) (A : mS) (r : Int32) (A' : mS), rc18 x1 x2 A = some (r, A') → v_V fz sc d 121 18 [some (.ref 22), some (.int x1), some (.int x2)] [] (hM c A R) (fun rv h' => rv = some (.int r) ∧ h' = hM c A' R)) (x1 : Int32) (x2 : Int32) (A : mS) (r : Int32) (A' : mS) (hf : g_121_34 N rc18 x1 x2 A = some (r, A')) : v_V fz sc d 121 34 [some (.ref 22), some (.int x1), some (.int x2)] [] (hM c A R) (fun rv h' => rv = some (.int r) ∧ h' = hM c A' R) := by
  unfold g_121_34 at hf
  obtain ⟨d, rfl⟩ : ∃ z, d = z + 1 := ⟨d - 1, by omega⟩
  obtain ⟨r5, A5, hc, hf⟩ := m_bd_ok hf
  refine v_call 5 (k' := 118) (i' := 39) (E := [some (.ref 22)]) (L' := [some (.ref 22), some (.int x1), some (.int x2)]) (rest := [(.int ((10 : Int32) * x1))]) (h1 := (hM c A R)) (fun _ => rfl) ?_
  refine v_post (gt_118 hfz N c R d (by omega)  A _ _ hc) ?_
  rintro rv h' ⟨rfl, rfl⟩
  refine v_blk 12 (i' := 18) (L' := [some (.ref 22), some (.int ((((10 : Int32) * x1) + r5) - (48 : Int32))), some (.int (x2 + (1 : Int32)))]) (st' := []) (h' := (hM c (va_up A5 99 (upd (A5 99) 6 ((A5 99 6) + (1 : Int32)))) R)) (fun _ => rfl) ?_
  exact hrc18 ((((10 : Int32) * x1) + r5) - (48 : Int32)) (x2 + (1 : Int32)) (va_up A5 99 (upd (A5 99) 6 ((A5 99 6) + (1 : Int32)))) _ _ hf
set_option maxRecDepth 100000 in
set_option maxHeartbeats 4000000 in
theorem gt_121_18b {fz : Value} {sc : Nat × (Nat → Int32)} (hfz : fz = .null ∨ fz = .retAddr 60) (N : Nat) (c : Nat → aC) (R : List aC) (d : Nat) (hd : 1 ≤ d) (rc18 : Int32 → Int32 → mS → Option (Int32 × mS)) (hrc18 : ∀ (x1 : Int32) (x2 : Int32) (A : mS) (r : Int32) (A' : mS), rc18 x1 x2 A = some (r, A') → v_V fz sc d 121 18 [some (.ref 22), some (.int x1), some (.int x2)] [] (hM c A R) (fun rv h' => rv = some (.int r) ∧ h' = hM c A' R)) (x1 : Int32) (x2 : Int32) (A : mS) (r : Int32) (A' : mS) (hf : g_121_18b N rc18 x1 x2 A = some (r, A')) : v_V fz sc d 121 18 [some (.ref 22), some (.int x1), some (.int x2)] [] (hM c A R) (fun rv h' => rv = some (.int r) ∧ h' = hM c A' R) := by
  unfold g_121_18b at hf
  obtain ⟨d, rfl⟩ : ∃ z, d = z + 1 := ⟨d - 1, by omega⟩
  refine v_blk 3 (i' := (bif (a_ic .ge x2 (2 : Int32)) then 51 else 21)) (L' := [some (.ref 22), some (.int x1), some (.int x2)]) (st' := []) (h' := (hM c A R)) (fun _ => rfl) ?_
  rcases Bool.eq_false_or_eq_true (a_ic .ge x2 (2 : Int32)) with hb | hb
  · have hf := a_bt hb hf
    refine v_it hb ?_
    obtain ⟨rfl, rfl⟩ := m_rt hf
    exact v_ret 2 (fun _ => rfl) ⟨rfl, rfl⟩
  · have hf := a_be hb hf
    refine v_ie hb ?_
    refine v_blk 3 (i' := (bif (a_ic .ne (A 99 8) (0 : Int32)) then 51 else 24)) (L' := [some (.ref 22), some (.int x1), some (.int x2)]) (st' := []) (h' := (hM c A R)) (fun _ => rfl) ?_
    rcases Bool.eq_false_or_eq_true (a_ic .ne (A 99 8) (0 : Int32)) with hb | hb
    · have hf := a_bt hb hf
      refine v_it hb ?_
      obtain ⟨rfl, rfl⟩ := m_rt hf
      exact v_ret 2 (fun _ => rfl) ⟨rfl, rfl⟩
    · have hf := a_be hb hf
      refine v_ie hb ?_
      obtain ⟨r3, A3, hc, hf⟩ := m_bd_ok hf
      refine v_call 2 (k' := 118) (i' := 26) (E := [some (.ref 22)]) (L' := [some (.ref 22), some (.int x1), some (.int x2)]) (rest := []) (h1 := (hM c A R)) (fun _ => rfl) ?_
      refine v_post (gt_118 hfz N c R d (by omega)  A _ _ hc) ?_
      rintro rv h' ⟨rfl, rfl⟩
      obtain ⟨r4, A4, hc, hf⟩ := m_bd_ok hf
      refine v_call 3 (k' := 112) (i' := 29) (E := [some (.int r3), some (.int (48 : Int32)), some (.int (57 : Int32))]) (L' := [some (.ref 22), some (.int x1), some (.int x2)]) (rest := []) (h1 := (hM c A3 R)) (fun _ => rfl) ?_
      refine v_post (gt_112 hfz N c R d (by omega) r3 (48 : Int32) (57 : Int32) A3 _ _ hc) ?_
      rintro rv h' ⟨rfl, rfl⟩
      refine v_blk 1 (i' := (bif (a_ic .eq r4 (0 : Int32)) then 51 else 30)) (L' := [some (.ref 22), some (.int x1), some (.int x2)]) (st' := []) (h' := (hM c A4 R)) (fun _ => rfl) ?_
      rcases Bool.eq_false_or_eq_true (a_ic .eq r4 (0 : Int32)) with hb | hb
      · have hf := a_bt hb hf
        refine v_it hb ?_
        obtain ⟨rfl, rfl⟩ := m_rt hf
        exact v_ret 2 (fun _ => rfl) ⟨rfl, rfl⟩
      · have hf := a_be hb hf
        refine v_ie hb ?_
        refine v_blk 2 (i' := (bif (a_ic .eq x2 (0 : Int32)) then 34 else 32)) (L' := [some (.ref 22), some (.int x1), some (.int x2)]) (st' := []) (h' := (hM c A4 R)) (fun _ => rfl) ?_
        rcases Bool.eq_false_or_eq_true (a_ic .eq x2 (0 : Int32)) with hb | hb
        · have hf := a_bt hb hf
          refine v_it hb ?_
          exact gt_121_34 hfz N c R (d + 1) hd rc18 hrc18 x1 x2 A4 _ _ hf
        · have hf := a_be hb hf
          refine v_ie hb ?_
          refine v_blk 2 (i' := (bif (a_ic .le x1 (0 : Int32)) then 51 else 34)) (L' := [some (.ref 22), some (.int x1), some (.int x2)]) (st' := []) (h' := (hM c A4 R)) (fun _ => rfl) ?_
          rcases Bool.eq_false_or_eq_true (a_ic .le x1 (0 : Int32)) with hb | hb
          · have hf := a_bt hb hf
            refine v_it hb ?_
            obtain ⟨rfl, rfl⟩ := m_rt hf
            exact v_ret 2 (fun _ => rfl) ⟨rfl, rfl⟩
          · have hf := a_be hb hf
            refine v_ie hb ?_
            exact gt_121_34 hfz N c R (d + 1) hd rc18 hrc18 x1 x2 A4 _ _ hf
theorem gt_121_18 {fz : Value} {sc : Nat × (Nat → Int32)} (hfz : fz = .null ∨ fz = .retAddr 60) (N : Nat) (c : Nat → aC) (R : List aC) (d : Nat) (hd : 1 ≤ d) : ∀ (n : Nat) (x1 : Int32) (x2 : Int32) (A : mS) (r : Int32) (A' : mS) (hf : g_121_18 N n x1 x2 A = some (r, A')), v_V fz sc d 121 18 [some (.ref 22), some (.int x1), some (.int x2)] [] (hM c A R) (fun rv h' => rv = some (.int r) ∧ h' = hM c A' R) := by
  intro n
  induction n with
  | zero => intro x1 x2 A r A' hf; cases hf
  | succ n ih =>
    intro x1 x2 A r A' hf
    exact gt_121_18b hfz N c R d hd (g_121_18 N n) ih x1 x2 A r A' hf
set_option maxRecDepth 100000 in
set_option maxHeartbeats 4000000 in
theorem gt_121_10 {fz : Value} {sc : Nat × (Nat → Int32)} (hfz : fz = .null ∨ fz = .retAddr 60) (N : Nat) (c : Nat → aC) (R : List aC) (d : Nat) (hd : 1 ≤ d) (A : mS) (r : Int32) (A' : mS) (hf : g_121_10 N  A = some (r, A')) : v_V fz sc d 121 10 [some (.ref 22), none, none] [(.ref 22)] (hM c A R) (fun rv h' => rv = some (.int r) ∧ h' = hM c A' R) := by
  unfold g_121_10 at hf
  obtain ⟨d, rfl⟩ : ∃ z, d = z + 1 := ⟨d - 1, by omega⟩
  refine v_blk 7 (i' := 18) (L' := [some (.ref 22), some (.int (0 : Int32)), some (.int (0 : Int32))]) (st' := []) (h' := (hM c (va_up A 99 (upd (A 99) 8 (1 : Int32))) R)) (fun _ => rfl) ?_
  exact gt_121_18 hfz N c R (d + 1) hd N (0 : Int32) (0 : Int32) (va_up A 99 (upd (A 99) 8 (1 : Int32))) _ _ hf
set_option maxRecDepth 100000 in
set_option maxHeartbeats 4000000 in
theorem gt_121 {fz : Value} {sc : Nat × (Nat → Int32)} (hfz : fz = .null ∨ fz = .retAddr 60) (N : Nat) (c : Nat → aC) (R : List aC) (d : Nat) (hd : 1 ≤ d) (A : mS) (r : Int32) (A' : mS) (hf : g_121 N  A = some (r, A')) : v_V fz sc d 121 0 [some (.ref 22), none, none] [] (hM c A R) (fun rv h' => rv = some (.int r) ∧ h' = hM c A' R) := by
  unfold g_121 at hf
  obtain ⟨d, rfl⟩ : ∃ z, d = z + 1 := ⟨d - 1, by omega⟩
  refine v_blk 4 (i' := (bif (a_ic .ne (A 99 8) (0 : Int32)) then 10 else 4)) (L' := [some (.ref 22), none, none]) (st' := [(.ref 22)]) (h' := (hM c A R)) (fun _ => rfl) ?_
  rcases Bool.eq_false_or_eq_true (a_ic .ne (A 99 8) (0 : Int32)) with hb | hb
  · have hf := a_bt hb hf
    refine v_it hb ?_
    exact gt_121_10 hfz N c R (d + 1) hd  A _ _ hf
  · have hf := a_be hb hf
    refine v_ie hb ?_
    obtain ⟨r1, A1, hc, hf⟩ := m_bd_ok hf
    refine v_call 2 (k' := 118) (i' := 6) (E := [some (.ref 22)]) (L' := [some (.ref 22), none, none]) (rest := [(.ref 22)]) (h1 := (hM c A R)) (fun _ => rfl) ?_
    refine v_post (gt_118 hfz N c R d (by omega)  A _ _ hc) ?_
    rintro rv h' ⟨rfl, rfl⟩
    obtain ⟨r2, A2, hc, hf⟩ := m_bd_ok hf
    refine v_call 3 (k' := 112) (i' := 9) (E := [some (.int r1), some (.int (48 : Int32)), some (.int (57 : Int32))]) (L' := [some (.ref 22), none, none]) (rest := [(.ref 22)]) (h1 := (hM c A1 R)) (fun _ => rfl) ?_
    refine v_post (gt_112 hfz N c R d (by omega) r1 (48 : Int32) (57 : Int32) A1 _ _ hc) ?_
    rintro rv h' ⟨rfl, rfl⟩
    refine v_blk 1 (i' := (bif (a_ic .ne r2 (0 : Int32)) then 12 else 10)) (L' := [some (.ref 22), none, none]) (st' := [(.ref 22)]) (h' := (hM c A2 R)) (fun _ => rfl) ?_
    rcases Bool.eq_false_or_eq_true (a_ic .ne r2 (0 : Int32)) with hb | hb
    · have hf := a_bt hb hf
      refine v_it hb ?_
      refine v_blk 6 (i' := 18) (L' := [some (.ref 22), some (.int (0 : Int32)), some (.int (0 : Int32))]) (st' := []) (h' := (hM c (va_up A2 99 (upd (A2 99) 8 (0 : Int32))) R)) (fun _ => rfl) ?_
      exact gt_121_18 hfz N c R (d + 1) hd N (0 : Int32) (0 : Int32) (va_up A2 99 (upd (A2 99) 8 (0 : Int32))) _ _ hf
    · have hf := a_be hb hf
      refine v_ie hb ?_
      exact gt_121_10 hfz N c R (d + 1) hd  A2 _ _ hf
set_option maxRecDepth 100000 in
set_option maxHeartbeats 4000000 in
theorem gt_122_2b {fz : Value} {sc : Nat × (Nat → Int32)} (hfz : fz = .null ∨ fz = .retAddr 60) (N : Nat) (c : Nat → aC) (R : List aC) (d : Nat) (hd : 6 ≤ d) (rc2 : Nat → Int32 → mS → Option (Int32 × mS)) (hrc2 : ∀ (x1 : Nat) (x2 : Int32) (A : mS) (r : Int32) (A' : mS), rc2 x1 x2 A = some (r, A') → v_V fz sc d 122 2 [some (.ref 22), some (.retAddr x1), some (.int x2)] [] (hM c A R) (fun rv h' => rv = some (.int r) ∧ h' = hM c A' R)) (x1 : Nat) (x2 : Int32) (A : mS) (r : Int32) (A' : mS) (hf : g_122_2b N rc2 x1 x2 A = some (r, A')) : v_V fz sc d 122 2 [some (.ref 22), some (.retAddr x1), some (.int x2)] [] (hM c A R) (fun rv h' => rv = some (.int r) ∧ h' = hM c A' R) := by
  unfold g_122_2b at hf
  obtain ⟨d, rfl⟩ : ∃ z, d = z + 1 := ⟨d - 1, by omega⟩
  obtain ⟨r1, hc, hf⟩ := m_bs_ok hf
  refine v_blk 2 (i' := 4) (L' := [some (.ref 22), some (.retAddr x1), some (.int x2)]) (st' := [(.retAddr x1), (.int x2)]) (h' := (hM c A R)) (fun _ => rfl) ?_
  refine v_cs (n := 0) (w := x1) (kk := 182) (E := [some (.retAddr x1)]) (rest := [(.int x2)]) rfl rfl rfl (t_len_lt hc) rfl rfl rfl ?_
  refine v_post (t_len_ok hfz (by omega) hc) ?_
  rintro rv h' ⟨rfl, rfl⟩
  refine v_blk 1 (i' := (bif (a_ic .ge x2 r1) then 22 else 6)) (L' := [some (.ref 22), some (.retAddr x1), some (.int x2)]) (st' := []) (h' := (hM c A R)) (fun _ => rfl) ?_
  rcases Bool.eq_false_or_eq_true (a_ic .ge x2 r1) with hb | hb
  · have hf := a_bt hb hf
    refine v_it hb ?_
    obtain ⟨rfl, rfl⟩ := m_rt hf
    exact v_ret 2 (fun _ => rfl) ⟨rfl, rfl⟩
  · have hf := a_be hb hf
    refine v_ie hb ?_
    obtain ⟨r2, A2, hc, hf⟩ := m_bd_ok hf
    refine v_call 2 (k' := 118) (i' := 8) (E := [some (.ref 22)]) (L' := [some (.ref 22), some (.retAddr x1), some (.int x2)]) (rest := []) (h1 := (hM c A R)) (fun _ => rfl) ?_
    refine v_post (gt_118 hfz N c R d (by omega)  A _ _ hc) ?_
    rintro rv h' ⟨rfl, rfl⟩
    obtain ⟨r3, hc, hf⟩ := m_bs_ok hf
    refine v_blk 2 (i' := 10) (L' := [some (.ref 22), some (.retAddr x1), some (.int x2)]) (st' := [(.int x2), (.retAddr x1), (.int r2)]) (h' := (hM c A2 R)) (fun _ => rfl) ?_
    refine v_cs (n := 1) (w := x1) (kk := 183) (E := [some (.retAddr x1), some (.int x2)]) (rest := [(.int r2)]) rfl rfl rfl (t_chr_lt hc) rfl rfl rfl ?_
    refine v_post (t_chr_ok hfz (by omega) hc) ?_
    rintro rv h' ⟨rfl, rfl⟩
    refine v_blk 1 (i' := (bif (a_ic .ne r2 r3) then 20 else 12)) (L' := [some (.ref 22), some (.retAddr x1), some (.int x2)]) (st' := []) (h' := (hM c A2 R)) (fun _ => rfl) ?_
    rcases Bool.eq_false_or_eq_true (a_ic .ne r2 r3) with hb | hb
    · have hf := a_bt hb hf
      refine v_it hb ?_
      refine v_blk 2 (i' := 2) (L' := [some (.ref 22), some (.retAddr x1), some (.int (x2 + (1 : Int32)))]) (st' := []) (h' := (hM c A2 R)) (fun _ => rfl) ?_
      exact hrc2 x1 (x2 + (1 : Int32)) A2 _ _ hf
    · have hf := a_be hb hf
      refine v_ie hb ?_
      obtain ⟨rfl, rfl⟩ := m_rt hf
      exact v_ret 8 (fun _ => rfl) ⟨rfl, rfl⟩
theorem gt_122_2 {fz : Value} {sc : Nat × (Nat → Int32)} (hfz : fz = .null ∨ fz = .retAddr 60) (N : Nat) (c : Nat → aC) (R : List aC) (d : Nat) (hd : 6 ≤ d) : ∀ (n : Nat) (x1 : Nat) (x2 : Int32) (A : mS) (r : Int32) (A' : mS) (hf : g_122_2 N n x1 x2 A = some (r, A')), v_V fz sc d 122 2 [some (.ref 22), some (.retAddr x1), some (.int x2)] [] (hM c A R) (fun rv h' => rv = some (.int r) ∧ h' = hM c A' R) := by
  intro n
  induction n with
  | zero => intro x1 x2 A r A' hf; cases hf
  | succ n ih =>
    intro x1 x2 A r A' hf
    exact gt_122_2b hfz N c R d hd (g_122_2 N n) ih x1 x2 A r A' hf
set_option maxRecDepth 100000 in
set_option maxHeartbeats 4000000 in
theorem gt_122 {fz : Value} {sc : Nat × (Nat → Int32)} (hfz : fz = .null ∨ fz = .retAddr 60) (N : Nat) (c : Nat → aC) (R : List aC) (d : Nat) (hd : 6 ≤ d) (x1 : Nat) (A : mS) (r : Int32) (A' : mS) (hf : g_122 N x1 A = some (r, A')) : v_V fz sc d 122 0 [some (.ref 22), some (.retAddr x1), none] [] (hM c A R) (fun rv h' => rv = some (.int r) ∧ h' = hM c A' R) := by
  unfold g_122 at hf
  obtain ⟨d, rfl⟩ : ∃ z, d = z + 1 := ⟨d - 1, by omega⟩
  refine v_blk 2 (i' := 2) (L' := [some (.ref 22), some (.retAddr x1), some (.int (0 : Int32))]) (st' := []) (h' := (hM c A R)) (fun _ => rfl) ?_
  exact gt_122_2 hfz N c R (d + 1) hd N x1 (0 : Int32) A _ _ hf
set_option maxRecDepth 100000 in
set_option maxHeartbeats 4000000 in
theorem gt_123 {fz : Value} {sc : Nat × (Nat → Int32)} (hfz : fz = .null ∨ fz = .retAddr 60) (N : Nat) (c : Nat → aC) (R : List aC) (d : Nat) (hd : 0 ≤ d) (x1 : Int32) (A : mS) (r : Int32) (A' : mS) (hf : g_123 N x1 A = some (r, A')) : v_V fz sc d 123 0 [some (.ref 22), some (.int x1)] [] (hM c A R) (fun rv h' => rv = none ∧ h' = hM c A' R) := by
  unfold g_123 at hf
  refine v_blk 3 (i' := (bif (a_ic .ne (A 99 8) (0 : Int32)) then 32 else 3)) (L' := [some (.ref 22), some (.int x1)]) (st' := []) (h' := (hM c A R)) (fun _ => rfl) ?_
  rcases Bool.eq_false_or_eq_true (a_ic .ne (A 99 8) (0 : Int32)) with hb | hb
  · have hf := a_bt hb hf
    refine v_it hb ?_
    obtain ⟨rfl, rfl⟩ := m_rt hf
    exact v_ret 1 (fun _ => rfl) ⟨rfl, rfl⟩
  · have hf := a_be hb hf
    refine v_ie hb ?_
    obtain ⟨hg, hf⟩ := a_bif hf
    refine v_grd 15 (i' := 18) (L' := [some (.ref 22), some (.int x1)]) (st' := [(.int ((A 0) (((242 : Int32) + (A 99 5))).toNatClampNeg)), (.int ((247 : Int32) + ((140 : Int32) * (A 99 5)))), (.ref 23)]) (h' := (hM c A R)) (fun _ => rfl) hg ?_
    obtain ⟨y1, hy, hf⟩ := m_li_ok hf
    rw [hy]
    obtain ⟨hg, hf⟩ := a_bif hf
    refine v_grd 3 (i' := 21) (L' := [some (.ref 22), some (.int x1)]) (st' := []) (h' := (hM c (va_up A 0 (upd (A 0) ((((247 : Int32) + ((140 : Int32) * (A 99 5))) + y1)).toNatClampNeg x1)) R)) (fun _ => rfl) hg ?_
    obtain ⟨A2, hA, hf⟩ := m_st_ok hf
    rw [hA]
    obtain ⟨hg, hf⟩ := a_bif hf
    refine v_grd 8 (i' := 29) (L' := [some (.ref 22), some (.int x1)]) (st' := [(.int ((A2 0) (((242 : Int32) + (A2 99 5))).toNatClampNeg)), (.int ((242 : Int32) + (A2 99 5))), (.ref 23)]) (h' := (hM c A2 R)) (fun _ => rfl) hg ?_
    obtain ⟨y3, hy, hf⟩ := m_li_ok hf
    rw [hy]
    obtain ⟨hg, hf⟩ := a_bif hf
    refine v_grd 3 (i' := 32) (L' := [some (.ref 22), some (.int x1)]) (st' := []) (h' := (hM c (va_up A2 0 (upd (A2 0) (((242 : Int32) + (A2 99 5))).toNatClampNeg (y3 + (1 : Int32)))) R)) (fun _ => rfl) hg ?_
    obtain ⟨A4, hA, hf⟩ := m_st_ok hf
    rw [hA]
    obtain ⟨rfl, rfl⟩ := m_rt hf
    exact v_ret 1 (fun _ => rfl) ⟨rfl, rfl⟩
set_option maxRecDepth 100000 in
set_option maxHeartbeats 4000000 in
theorem gt_125_2b {fz : Value} {sc : Nat × (Nat → Int32)} (hfz : fz = .null ∨ fz = .retAddr 60) (N : Nat) (rf : mS → Option (Int32 × mS)) (c : Nat → aC) (R : List aC) (D : Nat) (hD : 4 ≤ D) (hrf : ∀ (d : Nat) (A : mS) (r : Int32) (A' : mS), D ≤ d → rf A = some (r, A') → v_V fz sc d 124 0 [some (.ref 22), none, none, none, none] [] (hM c A R) (fun rv h' => rv = none ∧ h' = hM c A' R)) (d : Nat) (hd : D + 1 ≤ d) (rc2 : mS → Option (Int32 × mS)) (hrc2 : ∀ (A : mS) (r : Int32) (A' : mS), rc2  A = some (r, A') → v_V fz sc d 125 2 [some (.ref 22)] [] (hM c A R) (fun rv h' => rv = none ∧ h' = hM c A' R)) (A : mS) (r : Int32) (A' : mS) (hf : g_125_2b N rf rc2  A = some (r, A')) : v_V fz sc d 125 2 [some (.ref 22)] [] (hM c A R) (fun rv h' => rv = none ∧ h' = hM c A' R) := by
  unfold g_125_2b at hf
  obtain ⟨d, rfl⟩ : ∃ z, d = z + 1 := ⟨d - 1, by omega⟩
  refine v_blk 3 (i' := (bif (a_ic .ne (A 99 8) (0 : Int32)) then 21 else 5)) (L' := [some (.ref 22)]) (st' := []) (h' := (hM c A R)) (fun _ => rfl) ?_
  rcases Bool.eq_false_or_eq_true (a_ic .ne (A 99 8) (0 : Int32)) with hb | hb
  · have hf := a_bt hb hf
    refine v_it hb ?_
    obtain ⟨rfl, rfl⟩ := m_rt hf
    exact v_ret 1 (fun _ => rfl) ⟨rfl, rfl⟩
  · have hf := a_be hb hf
    refine v_ie hb ?_
    obtain ⟨r2, A2, hc, hf⟩ := m_bd_ok hf
    refine v_call 2 (k' := 118) (i' := 7) (E := [some (.ref 22)]) (L' := [some (.ref 22)]) (rest := []) (h1 := (hM c A R)) (fun _ => rfl) ?_
    refine v_post (gt_118 hfz N c R d (by omega)  A _ _ hc) ?_
    rintro rv h' ⟨rfl, rfl⟩
    refine v_blk 2 (i' := (bif (a_ic .ne r2 (38 : Int32)) then 21 else 9)) (L' := [some (.ref 22)]) (st' := []) (h' := (hM c A2 R)) (fun _ => rfl) ?_
    rcases Bool.eq_false_or_eq_true (a_ic .ne r2 (38 : Int32)) with hb | hb
    · have hf := a_bt hb hf
      refine v_it hb ?_
      obtain ⟨rfl, rfl⟩ := m_rt hf
      exact v_ret 1 (fun _ => rfl) ⟨rfl, rfl⟩
    · have hf := a_be hb hf
      refine v_ie hb ?_
      obtain ⟨r3, A3, hc, hf⟩ := m_bd_ok hf
      refine v_call 8 (k' := 124) (i' := 17) (E := [some (.ref 22), none, none, none, none]) (L' := [some (.ref 22)]) (rest := []) (h1 := (hM c (va_up A2 99 (upd (A2 99) 6 ((A2 99 6) + (1 : Int32)))) R)) (fun _ => rfl) ?_
      refine v_post (hrf d _ _ _ (by omega) hc) ?_
      rintro rv h' ⟨rfl, rfl⟩
      obtain ⟨r4, A4, hc, hf⟩ := m_bd_ok hf
      refine v_call 3 (k' := 123) (i' := 20) (E := [some (.ref 22), some (.int (-2 : Int32))]) (L' := [some (.ref 22)]) (rest := []) (h1 := (hM c A3 R)) (fun _ => rfl) ?_
      refine v_post (gt_123 hfz N c R d (by omega) (-2 : Int32) A3 _ _ hc) ?_
      rintro rv h' ⟨rfl, rfl⟩
      refine v_blk 1 (i' := 2) (L' := [some (.ref 22)]) (st' := []) (h' := (hM c A4 R)) (fun _ => rfl) ?_
      exact hrc2  A4 _ _ hf
theorem gt_125_2 {fz : Value} {sc : Nat × (Nat → Int32)} (hfz : fz = .null ∨ fz = .retAddr 60) (N : Nat) (rf : mS → Option (Int32 × mS)) (c : Nat → aC) (R : List aC) (D : Nat) (hD : 4 ≤ D) (hrf : ∀ (d : Nat) (A : mS) (r : Int32) (A' : mS), D ≤ d → rf A = some (r, A') → v_V fz sc d 124 0 [some (.ref 22), none, none, none, none] [] (hM c A R) (fun rv h' => rv = none ∧ h' = hM c A' R)) (d : Nat) (hd : D + 1 ≤ d) : ∀ (n : Nat) (A : mS) (r : Int32) (A' : mS) (hf : g_125_2 N rf n  A = some (r, A')), v_V fz sc d 125 2 [some (.ref 22)] [] (hM c A R) (fun rv h' => rv = none ∧ h' = hM c A' R) := by
  intro n
  induction n with
  | zero => intro  A r A' hf; cases hf
  | succ n ih =>
    intro  A r A' hf
    exact gt_125_2b hfz N rf c R D hD hrf d hd (g_125_2 N rf n) ih  A r A' hf
set_option maxRecDepth 100000 in
set_option maxHeartbeats 4000000 in
theorem gt_125 {fz : Value} {sc : Nat × (Nat → Int32)} (hfz : fz = .null ∨ fz = .retAddr 60) (N : Nat) (rf : mS → Option (Int32 × mS)) (c : Nat → aC) (R : List aC) (D : Nat) (hD : 4 ≤ D) (hrf : ∀ (d : Nat) (A : mS) (r : Int32) (A' : mS), D ≤ d → rf A = some (r, A') → v_V fz sc d 124 0 [some (.ref 22), none, none, none, none] [] (hM c A R) (fun rv h' => rv = none ∧ h' = hM c A' R)) (d : Nat) (hd : D + 1 ≤ d) (A : mS) (r : Int32) (A' : mS) (hf : g_125 N rf  A = some (r, A')) : v_V fz sc d 125 0 [some (.ref 22)] [] (hM c A R) (fun rv h' => rv = none ∧ h' = hM c A' R) := by
  unfold g_125 at hf
  obtain ⟨d, rfl⟩ : ∃ z, d = z + 1 := ⟨d - 1, by omega⟩
  obtain ⟨r1, A1, hc, hf⟩ := m_bd_ok hf
  refine v_call 2 (k' := 124) (i' := 2) (E := [some (.ref 22), none, none, none, none]) (L' := [some (.ref 22)]) (rest := []) (h1 := (hM c A R)) (fun _ => rfl) ?_
  refine v_post (hrf d _ _ _ (by omega) hc) ?_
  rintro rv h' ⟨rfl, rfl⟩
  exact gt_125_2 hfz N rf c R D hD hrf (d + 1) hd N  A1 _ _ hf
set_option maxRecDepth 100000 in
set_option maxHeartbeats 4000000 in
theorem gt_126_2b {fz : Value} {sc : Nat × (Nat → Int32)} (hfz : fz = .null ∨ fz = .retAddr 60) (N : Nat) (rf : mS → Option (Int32 × mS)) (c : Nat → aC) (R : List aC) (D : Nat) (hD : 4 ≤ D) (hrf : ∀ (d : Nat) (A : mS) (r : Int32) (A' : mS), D ≤ d → rf A = some (r, A') → v_V fz sc d 124 0 [some (.ref 22), none, none, none, none] [] (hM c A R) (fun rv h' => rv = none ∧ h' = hM c A' R)) (d : Nat) (hd : D + 2 ≤ d) (rc2 : mS → Option (Int32 × mS)) (hrc2 : ∀ (A : mS) (r : Int32) (A' : mS), rc2  A = some (r, A') → v_V fz sc d 126 2 [some (.ref 22)] [] (hM c A R) (fun rv h' => rv = none ∧ h' = hM c A' R)) (A : mS) (r : Int32) (A' : mS) (hf : g_126_2b N rf rc2  A = some (r, A')) : v_V fz sc d 126 2 [some (.ref 22)] [] (hM c A R) (fun rv h' => rv = none ∧ h' = hM c A' R) := by
  unfold g_126_2b at hf
  obtain ⟨d, rfl⟩ : ∃ z, d = z + 1 := ⟨d - 1, by omega⟩
  refine v_blk 3 (i' := (bif (a_ic .ne (A 99 8) (0 : Int32)) then 21 else 5)) (L' := [some (.ref 22)]) (st' := []) (h' := (hM c A R)) (fun _ => rfl) ?_
  rcases Bool.eq_false_or_eq_true (a_ic .ne (A 99 8) (0 : Int32)) with hb | hb
  · have hf := a_bt hb hf
    refine v_it hb ?_
    obtain ⟨rfl, rfl⟩ := m_rt hf
    exact v_ret 1 (fun _ => rfl) ⟨rfl, rfl⟩
  · have hf := a_be hb hf
    refine v_ie hb ?_
    obtain ⟨r2, A2, hc, hf⟩ := m_bd_ok hf
    refine v_call 2 (k' := 118) (i' := 7) (E := [some (.ref 22)]) (L' := [some (.ref 22)]) (rest := []) (h1 := (hM c A R)) (fun _ => rfl) ?_
    refine v_post (gt_118 hfz N c R d (by omega)  A _ _ hc) ?_
    rintro rv h' ⟨rfl, rfl⟩
    refine v_blk 2 (i' := (bif (a_ic .ne r2 (124 : Int32)) then 21 else 9)) (L' := [some (.ref 22)]) (st' := []) (h' := (hM c A2 R)) (fun _ => rfl) ?_
    rcases Bool.eq_false_or_eq_true (a_ic .ne r2 (124 : Int32)) with hb | hb
    · have hf := a_bt hb hf
      refine v_it hb ?_
      obtain ⟨rfl, rfl⟩ := m_rt hf
      exact v_ret 1 (fun _ => rfl) ⟨rfl, rfl⟩
    · have hf := a_be hb hf
      refine v_ie hb ?_
      obtain ⟨r3, A3, hc, hf⟩ := m_bd_ok hf
      refine v_call 8 (k' := 125) (i' := 17) (E := [some (.ref 22)]) (L' := [some (.ref 22)]) (rest := []) (h1 := (hM c (va_up A2 99 (upd (A2 99) 6 ((A2 99 6) + (1 : Int32)))) R)) (fun _ => rfl) ?_
      refine v_post (gt_125 hfz N rf c R D hD hrf d (by omega) (va_up A2 99 (upd (A2 99) 6 ((A2 99 6) + (1 : Int32)))) _ _ hc) ?_
      rintro rv h' ⟨rfl, rfl⟩
      obtain ⟨r4, A4, hc, hf⟩ := m_bd_ok hf
      refine v_call 3 (k' := 123) (i' := 20) (E := [some (.ref 22), some (.int (-3 : Int32))]) (L' := [some (.ref 22)]) (rest := []) (h1 := (hM c A3 R)) (fun _ => rfl) ?_
      refine v_post (gt_123 hfz N c R d (by omega) (-3 : Int32) A3 _ _ hc) ?_
      rintro rv h' ⟨rfl, rfl⟩
      refine v_blk 1 (i' := 2) (L' := [some (.ref 22)]) (st' := []) (h' := (hM c A4 R)) (fun _ => rfl) ?_
      exact hrc2  A4 _ _ hf
theorem gt_126_2 {fz : Value} {sc : Nat × (Nat → Int32)} (hfz : fz = .null ∨ fz = .retAddr 60) (N : Nat) (rf : mS → Option (Int32 × mS)) (c : Nat → aC) (R : List aC) (D : Nat) (hD : 4 ≤ D) (hrf : ∀ (d : Nat) (A : mS) (r : Int32) (A' : mS), D ≤ d → rf A = some (r, A') → v_V fz sc d 124 0 [some (.ref 22), none, none, none, none] [] (hM c A R) (fun rv h' => rv = none ∧ h' = hM c A' R)) (d : Nat) (hd : D + 2 ≤ d) : ∀ (n : Nat) (A : mS) (r : Int32) (A' : mS) (hf : g_126_2 N rf n  A = some (r, A')), v_V fz sc d 126 2 [some (.ref 22)] [] (hM c A R) (fun rv h' => rv = none ∧ h' = hM c A' R) := by
  intro n
  induction n with
  | zero => intro  A r A' hf; cases hf
  | succ n ih =>
    intro  A r A' hf
    exact gt_126_2b hfz N rf c R D hD hrf d hd (g_126_2 N rf n) ih  A r A' hf
set_option maxRecDepth 100000 in
set_option maxHeartbeats 4000000 in
theorem gt_126 {fz : Value} {sc : Nat × (Nat → Int32)} (hfz : fz = .null ∨ fz = .retAddr 60) (N : Nat) (rf : mS → Option (Int32 × mS)) (c : Nat → aC) (R : List aC) (D : Nat) (hD : 4 ≤ D) (hrf : ∀ (d : Nat) (A : mS) (r : Int32) (A' : mS), D ≤ d → rf A = some (r, A') → v_V fz sc d 124 0 [some (.ref 22), none, none, none, none] [] (hM c A R) (fun rv h' => rv = none ∧ h' = hM c A' R)) (d : Nat) (hd : D + 2 ≤ d) (A : mS) (r : Int32) (A' : mS) (hf : g_126 N rf  A = some (r, A')) : v_V fz sc d 126 0 [some (.ref 22)] [] (hM c A R) (fun rv h' => rv = none ∧ h' = hM c A' R) := by
  unfold g_126 at hf
  obtain ⟨d, rfl⟩ : ∃ z, d = z + 1 := ⟨d - 1, by omega⟩
  obtain ⟨r1, A1, hc, hf⟩ := m_bd_ok hf
  refine v_call 2 (k' := 125) (i' := 2) (E := [some (.ref 22)]) (L' := [some (.ref 22)]) (rest := []) (h1 := (hM c A R)) (fun _ => rfl) ?_
  refine v_post (gt_125 hfz N rf c R D hD hrf d (by omega) A _ _ hc) ?_
  rintro rv h' ⟨rfl, rfl⟩
  exact gt_126_2 hfz N rf c R D hD hrf (d + 1) hd N  A1 _ _ hf
end
section
/-! 32.mthm, piece 1: runs of the model's methods are their mirrored functions (by program) -/
set_option maxRecDepth 100000 in
set_option maxHeartbeats 4000000 in
theorem gt_124_91 {fz : Value} {sc : Nat × (Nat → Int32)} (hfz : fz = .null ∨ fz = .retAddr 60) (N : Nat) (rf : mS → Option (Int32 × mS)) (c : Nat → aC) (R : List aC) (D : Nat) (hD : 4 ≤ D) (hrf : ∀ (d : Nat) (A : mS) (r : Int32) (A' : mS), D ≤ d → rf A = some (r, A') → v_V fz sc d 124 0 [some (.ref 22), none, none, none, none] [] (hM c A R) (fun rv h' => rv = none ∧ h' = hM c A' R)) (d : Nat) (hd : D + 3 ≤ d) (x2 : Int32) (x3 : Int32) (t1 : Int32) (A : mS) (r : Int32) (A' : mS) (hf : g_124_91 N rf x2 x3 t1 A = some (r, A')) : v_V fz sc d 124 91 [some (.ref 22), none, some (.int x2), some (.int x3), none] [(.int t1), (.ref 22)] (hM c A R) (fun rv h' => rv = none ∧ h' = hM c A' R) := by
  unfold g_124_91 at hf
  obtain ⟨d, rfl⟩ : ∃ z, d = z + 1 := ⟨d - 1, by omega⟩
  obtain ⟨hg, hf⟩ := a_bif hf
  refine v_grd 1 (i' := 92) (L' := [some (.ref 22), none, some (.int x2), some (.int x3), none]) (st' := []) (h' := (hM c (va_up A 99 (upd (A 99) 8 t1)) R)) (fun _ => rfl) hg ?_
  obtain ⟨A14, hA, hf⟩ := m_st_ok hf
  rw [hA]
  obtain ⟨r15, A15, hc, hf⟩ := m_bd_ok hf
  refine v_call 2 (k' := 121) (i' := 94) (E := [some (.ref 22), none, none]) (L' := [some (.ref 22), none, some (.int x2), some (.int x3), none]) (rest := []) (h1 := (hM c A14 R)) (fun _ => rfl) ?_
  refine v_post (gt_121 hfz N c R d (by omega)  A14 _ _ hc) ?_
  rintro rv h' ⟨rfl, rfl⟩
  obtain ⟨r16, A16, hc, hf⟩ := m_bd_ok hf
  refine v_call 12 (k' := 123) (i' := 106) (E := [some (.ref 22), some (.int ((x2 + ((8 : Int32) * x3)) + ((32 : Int32) * r15)))]) (L' := [some (.ref 22), none, some (.int x2), some (.int x3), some (.int r15)]) (rest := []) (h1 := (hM c A15 R)) (fun _ => rfl) ?_
  refine v_post (gt_123 hfz N c R d (by omega) ((x2 + ((8 : Int32) * x3)) + ((32 : Int32) * r15)) A15 _ _ hc) ?_
  rintro rv h' ⟨rfl, rfl⟩
  obtain ⟨rfl, rfl⟩ := m_rt hf
  exact v_ret 1 (fun _ => rfl) ⟨rfl, rfl⟩
set_option maxRecDepth 100000 in
set_option maxHeartbeats 4000000 in
theorem gt_124_88 {fz : Value} {sc : Nat × (Nat → Int32)} (hfz : fz = .null ∨ fz = .retAddr 60) (N : Nat) (rf : mS → Option (Int32 × mS)) (c : Nat → aC) (R : List aC) (D : Nat) (hD : 4 ≤ D) (hrf : ∀ (d : Nat) (A : mS) (r : Int32) (A' : mS), D ≤ d → rf A = some (r, A') → v_V fz sc d 124 0 [some (.ref 22), none, none, none, none] [] (hM c A R) (fun rv h' => rv = none ∧ h' = hM c A' R)) (d : Nat) (hd : D + 3 ≤ d) (x2 : Int32) (x3 : Int32) (A : mS) (r : Int32) (A' : mS) (hf : g_124_88 N rf x2 x3 A = some (r, A')) : v_V fz sc d 124 88 [some (.ref 22), none, some (.int x2), some (.int x3), none] [(.ref 22)] (hM c A R) (fun rv h' => rv = none ∧ h' = hM c A' R) := by
  unfold g_124_88 at hf
  obtain ⟨d, rfl⟩ : ∃ z, d = z + 1 := ⟨d - 1, by omega⟩
  refine v_blk 2 (i' := 91) (L' := [some (.ref 22), none, some (.int x2), some (.int x3), none]) (st' := [(.int (1 : Int32)), (.ref 22)]) (h' := (hM c A R)) (fun _ => rfl) ?_
  exact gt_124_91 hfz N rf c R D hD hrf (d + 1) hd x2 x3 (1 : Int32) A _ _ hf
set_option maxRecDepth 100000 in
set_option maxHeartbeats 4000000 in
theorem gt_124_80 {fz : Value} {sc : Nat × (Nat → Int32)} (hfz : fz = .null ∨ fz = .retAddr 60) (N : Nat) (rf : mS → Option (Int32 × mS)) (c : Nat → aC) (R : List aC) (D : Nat) (hD : 4 ≤ D) (hrf : ∀ (d : Nat) (A : mS) (r : Int32) (A' : mS), D ≤ d → rf A = some (r, A') → v_V fz sc d 124 0 [some (.ref 22), none, none, none, none] [] (hM c A R) (fun rv h' => rv = none ∧ h' = hM c A' R)) (d : Nat) (hd : D + 3 ≤ d) (x2 : Int32) (t0 : Int32) (A : mS) (r : Int32) (A' : mS) (hf : g_124_80 N rf x2 t0 A = some (r, A')) : v_V fz sc d 124 80 [some (.ref 22), none, some (.int x2), none, none] [(.int t0)] (hM c A R) (fun rv h' => rv = none ∧ h' = hM c A' R) := by
  unfold g_124_80 at hf
  obtain ⟨d, rfl⟩ : ∃ z, d = z + 1 := ⟨d - 1, by omega⟩
  refine v_blk 5 (i' := (bif (a_ic .ne (A 99 8) (0 : Int32)) then 88 else 85)) (L' := [some (.ref 22), none, some (.int x2), some (.int t0), none]) (st' := [(.ref 22)]) (h' := (hM c A R)) (fun _ => rfl) ?_
  rcases Bool.eq_false_or_eq_true (a_ic .ne (A 99 8) (0 : Int32)) with hb | hb
  · have hf := a_bt hb hf
    refine v_it hb ?_
    exact gt_124_88 hfz N rf c R D hD hrf (d + 1) hd x2 t0 A _ _ hf
  · have hf := a_be hb hf
    refine v_ie hb ?_
    refine v_blk 3 (i' := (bif (a_ic .ne t0 (-1 : Int32)) then 90 else 88)) (L' := [some (.ref 22), none, some (.int x2), some (.int t0), none]) (st' := [(.ref 22)]) (h' := (hM c A R)) (fun _ => rfl) ?_
    rcases Bool.eq_false_or_eq_true (a_ic .ne t0 (-1 : Int32)) with hb | hb
    · have hf := a_bt hb hf
      refine v_it hb ?_
      refine v_blk 1 (i' := 91) (L' := [some (.ref 22), none, some (.int x2), some (.int t0), none]) (st' := [(.int (0 : Int32)), (.ref 22)]) (h' := (hM c A R)) (fun _ => rfl) ?_
      exact gt_124_91 hfz N rf c R D hD hrf (d + 1) hd x2 t0 (0 : Int32) A _ _ hf
    · have hf := a_be hb hf
      refine v_ie hb ?_
      exact gt_124_88 hfz N rf c R D hD hrf (d + 1) hd x2 t0 A _ _ hf
set_option maxRecDepth 100000 in
set_option maxHeartbeats 4000000 in
theorem gt_124_71 {fz : Value} {sc : Nat × (Nat → Int32)} (hfz : fz = .null ∨ fz = .retAddr 60) (N : Nat) (rf : mS → Option (Int32 × mS)) (c : Nat → aC) (R : List aC) (D : Nat) (hD : 4 ≤ D) (hrf : ∀ (d : Nat) (A : mS) (r : Int32) (A' : mS), D ≤ d → rf A = some (r, A') → v_V fz sc d 124 0 [some (.ref 22), none, none, none, none] [] (hM c A R) (fun rv h' => rv = none ∧ h' = hM c A' R)) (d : Nat) (hd : D + 3 ≤ d) (x2 : Int32) (t1 : Int32) (A : mS) (r : Int32) (A' : mS) (hf : g_124_71 N rf x2 t1 A = some (r, A')) : v_V fz sc d 124 71 [some (.ref 22), none, some (.int x2), none, none] [(.int t1), (.ref 22)] (hM c A R) (fun rv h' => rv = none ∧ h' = hM c A' R) := by
  unfold g_124_71 at hf
  obtain ⟨d, rfl⟩ : ∃ z, d = z + 1 := ⟨d - 1, by omega⟩
  obtain ⟨hg, hf⟩ := a_bif hf
  refine v_grd 1 (i' := 72) (L' := [some (.ref 22), none, some (.int x2), none, none]) (st' := []) (h' := (hM c (va_up A 99 (upd (A 99) 8 t1)) R)) (fun _ => rfl) hg ?_
  obtain ⟨A3, hA, hf⟩ := m_st_ok hf
  rw [hA]
  refine v_blk 3 (i' := (bif (a_ic .eq (A3 99 8) (0 : Int32)) then 77 else 75)) (L' := [some (.ref 22), none, some (.int x2), none, none]) (st' := []) (h' := (hM c A3 R)) (fun _ => rfl) ?_
  rcases Bool.eq_false_or_eq_true (a_ic .eq (A3 99 8) (0 : Int32)) with hb | hb
  · have hf := a_bt hb hf
    refine v_it hb ?_
    obtain ⟨r4, A4, hc, hf⟩ := m_bd_ok hf
    refine v_call 3 (k' := 122) (i' := 80) (E := [some (.ref 22), some (.retAddr 7), none]) (L' := [some (.ref 22), none, some (.int x2), none, none]) (rest := []) (h1 := (hM c A3 R)) (fun _ => rfl) ?_
    refine v_post (gt_122 hfz N c R d (by omega) 7 A3 _ _ hc) ?_
    rintro rv h' ⟨rfl, rfl⟩
    exact gt_124_80 hfz N rf c R D hD hrf (d + 1) hd x2 r4 A4 _ _ hf
  · have hf := a_be hb hf
    refine v_ie hb ?_
    refine v_blk 2 (i' := 80) (L' := [some (.ref 22), none, some (.int x2), none, none]) (st' := [(.int (0 : Int32))]) (h' := (hM c A3 R)) (fun _ => rfl) ?_
    exact gt_124_80 hfz N rf c R D hD hrf (d + 1) hd x2 (0 : Int32) A3 _ _ hf
set_option maxRecDepth 100000 in
set_option maxHeartbeats 4000000 in
theorem gt_124_37 {fz : Value} {sc : Nat × (Nat → Int32)} (hfz : fz = .null ∨ fz = .retAddr 60) (N : Nat) (rf : mS → Option (Int32 × mS)) (c : Nat → aC) (R : List aC) (D : Nat) (hD : 4 ≤ D) (hrf : ∀ (d : Nat) (A : mS) (r : Int32) (A' : mS), D ≤ d → rf A = some (r, A') → v_V fz sc d 124 0 [some (.ref 22), none, none, none, none] [] (hM c A R) (fun rv h' => rv = none ∧ h' = hM c A' R)) (d : Nat) (hd : D + 3 ≤ d) (x1 : Int32) (t1 : Int32) (t2 : Int32) (A : mS) (r : Int32) (A' : mS) (hf : g_124_37 N rf x1 t1 t2 A = some (r, A')) : v_V fz sc d 124 37 [some (.ref 22), some (.int x1), none, none, none] [(.int t2), (.int t1), (.ref 22)] (hM c A R) (fun rv h' => rv = none ∧ h' = hM c A' R) := by
  unfold g_124_37 at hf
  obtain ⟨d, rfl⟩ : ∃ z, d = z + 1 := ⟨d - 1, by omega⟩
  refine v_blk 5 (i' := (bif (a_ic .ne x1 (33 : Int32)) then 48 else 42)) (L' := [some (.ref 22), some (.int x1), none, none, none]) (st' := []) (h' := (hM c (va_up A 99 (upd (A 99) 6 (t1 + t2))) R)) (fun _ => rfl) ?_
  rcases Bool.eq_false_or_eq_true (a_ic .ne x1 (33 : Int32)) with hb | hb
  · have hf := a_bt hb hf
    refine v_it hb ?_
    obtain ⟨A8, hA, hf⟩ := m_st_ok hf
    rw [hA]
    obtain ⟨r9, A9, hc, hf⟩ := m_bd_ok hf
    refine v_call 2 (k' := 126) (i' := 50) (E := [some (.ref 22)]) (L' := [some (.ref 22), some (.int x1), none, none, none]) (rest := []) (h1 := (hM c A8 R)) (fun _ => rfl) ?_
    refine v_post (gt_126 hfz N rf c R D hD hrf d (by omega) A8 _ _ hc) ?_
    rintro rv h' ⟨rfl, rfl⟩
    obtain ⟨r10, A10, hc, hf⟩ := m_bd_ok hf
    refine v_call 3 (k' := 119) (i' := 53) (E := [some (.ref 22), some (.int (41 : Int32))]) (L' := [some (.ref 22), some (.int x1), none, none, none]) (rest := []) (h1 := (hM c A9 R)) (fun _ => rfl) ?_
    refine v_post (gt_119 hfz N c R d (by omega) (41 : Int32) A9 _ _ hc) ?_
    rintro rv h' ⟨rfl, rfl⟩
    obtain ⟨rfl, rfl⟩ := m_rt hf
    exact v_ret 7 (fun _ => rfl) ⟨rfl, rfl⟩
  · have hf := a_be hb hf
    refine v_ie hb ?_
    obtain ⟨A11, hA, hf⟩ := m_st_ok hf
    rw [hA]
    obtain ⟨r12, A12, hc, hf⟩ := m_bd_ok hf
    refine v_call 2 (k' := 124) (i' := 44) (E := [some (.ref 22), none, none, none, none]) (L' := [some (.ref 22), some (.int x1), none, none, none]) (rest := []) (h1 := (hM c A11 R)) (fun _ => rfl) ?_
    refine v_post (hrf d _ _ _ (by omega) hc) ?_
    rintro rv h' ⟨rfl, rfl⟩
    obtain ⟨r13, A13, hc, hf⟩ := m_bd_ok hf
    refine v_call 3 (k' := 123) (i' := 47) (E := [some (.ref 22), some (.int (-1 : Int32))]) (L' := [some (.ref 22), some (.int x1), none, none, none]) (rest := []) (h1 := (hM c A12 R)) (fun _ => rfl) ?_
    refine v_post (gt_123 hfz N c R d (by omega) (-1 : Int32) A12 _ _ hc) ?_
    rintro rv h' ⟨rfl, rfl⟩
    obtain ⟨rfl, rfl⟩ := m_rt hf
    exact v_ret 8 (fun _ => rfl) ⟨rfl, rfl⟩
set_option maxRecDepth 100000 in
set_option maxHeartbeats 4000000 in
theorem gt_124_21 {fz : Value} {sc : Nat × (Nat → Int32)} (hfz : fz = .null ∨ fz = .retAddr 60) (N : Nat) (rf : mS → Option (Int32 × mS)) (c : Nat → aC) (R : List aC) (D : Nat) (hD : 4 ≤ D) (hrf : ∀ (d : Nat) (A : mS) (r : Int32) (A' : mS), D ≤ d → rf A = some (r, A') → v_V fz sc d 124 0 [some (.ref 22), none, none, none, none] [] (hM c A R) (fun rv h' => rv = none ∧ h' = hM c A' R)) (d : Nat) (hd : D + 3 ≤ d) (x1 : Int32) (t1 : Int32) (A : mS) (r : Int32) (A' : mS) (hf : g_124_21 N rf x1 t1 A = some (r, A')) : v_V fz sc d 124 21 [some (.ref 22), some (.int x1), none, none, none] [(.int t1), (.ref 22)] (hM c A R) (fun rv h' => rv = none ∧ h' = hM c A' R) := by
  unfold g_124_21 at hf
  obtain ⟨d, rfl⟩ : ∃ z, d = z + 1 := ⟨d - 1, by omega⟩
  obtain ⟨hg, hf⟩ := a_bif hf
  refine v_grd 1 (i' := 22) (L' := [some (.ref 22), some (.int x1), none, none, none]) (st' := []) (h' := (hM c (va_up A 99 (upd (A 99) 8 t1)) R)) (fun _ => rfl) hg ?_
  obtain ⟨A5, hA, hf⟩ := m_st_ok hf
  rw [hA]
  refine v_blk 12 (i' := (bif (a_ic .eq (A5 99 8) (0 : Int32)) then 36 else 34)) (L' := [some (.ref 22), some (.int x1), none, none, none]) (st' := [(.int (A5 99 6)), (.ref 22)]) (h' := (hM c (va_up A5 99 (upd (A5 99) 9 ((A5 99 9) + (1 : Int32)))) R)) (fun _ => rfl) ?_
  rcases Bool.eq_false_or_eq_true (a_ic .eq (A5 99 8) (0 : Int32)) with hb | hb
  · have hf := a_bt hb hf
    refine v_it hb ?_
    obtain ⟨A6, hA, hf⟩ := m_st_ok hf
    rw [hA]
    refine v_blk 1 (i' := 37) (L' := [some (.ref 22), some (.int x1), none, none, none]) (st' := [(.int (1 : Int32)), (.int (A5 99 6)), (.ref 22)]) (h' := (hM c A6 R)) (fun _ => rfl) ?_
    exact gt_124_37 hfz N rf c R D hD hrf (d + 1) hd x1 (A5 99 6) (1 : Int32) A6 _ _ hf
  · have hf := a_be hb hf
    refine v_ie hb ?_
    obtain ⟨A7, hA, hf⟩ := m_st_ok hf
    rw [hA]
    refine v_blk 2 (i' := 37) (L' := [some (.ref 22), some (.int x1), none, none, none]) (st' := [(.int (0 : Int32)), (.int (A5 99 6)), (.ref 22)]) (h' := (hM c A7 R)) (fun _ => rfl) ?_
    exact gt_124_37 hfz N rf c R D hD hrf (d + 1) hd x1 (A5 99 6) (0 : Int32) A7 _ _ hf
set_option maxRecDepth 100000 in
set_option maxHeartbeats 4000000 in
theorem gt_124_13 {fz : Value} {sc : Nat × (Nat → Int32)} (hfz : fz = .null ∨ fz = .retAddr 60) (N : Nat) (rf : mS → Option (Int32 × mS)) (c : Nat → aC) (R : List aC) (D : Nat) (hD : 4 ≤ D) (hrf : ∀ (d : Nat) (A : mS) (r : Int32) (A' : mS), D ≤ d → rf A = some (r, A') → v_V fz sc d 124 0 [some (.ref 22), none, none, none, none] [] (hM c A R) (fun rv h' => rv = none ∧ h' = hM c A' R)) (d : Nat) (hd : D + 3 ≤ d) (x1 : Int32) (A : mS) (r : Int32) (A' : mS) (hf : g_124_13 N rf x1 A = some (r, A')) : v_V fz sc d 124 13 [some (.ref 22), some (.int x1), none, none, none] [] (hM c A R) (fun rv h' => rv = none ∧ h' = hM c A' R) := by
  unfold g_124_13 at hf
  obtain ⟨d, rfl⟩ : ∃ z, d = z + 1 := ⟨d - 1, by omega⟩
  refine v_blk 5 (i' := (bif (a_ic .ne (A 99 9) (5 : Int32)) then 20 else 18)) (L' := [some (.ref 22), some (.int x1), none, none, none]) (st' := [(.ref 22)]) (h' := (hM c A R)) (fun _ => rfl) ?_
  rcases Bool.eq_false_or_eq_true (a_ic .ne (A 99 9) (5 : Int32)) with hb | hb
  · have hf := a_bt hb hf
    refine v_it hb ?_
    refine v_blk 1 (i' := 21) (L' := [some (.ref 22), some (.int x1), none, none, none]) (st' := [(.int (0 : Int32)), (.ref 22)]) (h' := (hM c A R)) (fun _ => rfl) ?_
    exact gt_124_21 hfz N rf c R D hD hrf (d + 1) hd x1 (0 : Int32) A _ _ hf
  · have hf := a_be hb hf
    refine v_ie hb ?_
    refine v_blk 2 (i' := 21) (L' := [some (.ref 22), some (.int x1), none, none, none]) (st' := [(.int (1 : Int32)), (.ref 22)]) (h' := (hM c A R)) (fun _ => rfl) ?_
    exact gt_124_21 hfz N rf c R D hD hrf (d + 1) hd x1 (1 : Int32) A _ _ hf
set_option maxRecDepth 100000 in
set_option maxHeartbeats 4000000 in
theorem gt_124 {fz : Value} {sc : Nat × (Nat → Int32)} (hfz : fz = .null ∨ fz = .retAddr 60) (N : Nat) (rf : mS → Option (Int32 × mS)) (c : Nat → aC) (R : List aC) (D : Nat) (hD : 4 ≤ D) (hrf : ∀ (d : Nat) (A : mS) (r : Int32) (A' : mS), D ≤ d → rf A = some (r, A') → v_V fz sc d 124 0 [some (.ref 22), none, none, none, none] [] (hM c A R) (fun rv h' => rv = none ∧ h' = hM c A' R)) (d : Nat) (hd : D + 3 ≤ d) (A : mS) (r : Int32) (A' : mS) (hf : g_124 N rf  A = some (r, A')) : v_V fz sc d 124 0 [some (.ref 22), none, none, none, none] [] (hM c A R) (fun rv h' => rv = none ∧ h' = hM c A' R) := by
  unfold g_124 at hf
  obtain ⟨d, rfl⟩ : ∃ z, d = z + 1 := ⟨d - 1, by omega⟩
  refine v_blk 3 (i' := (bif (a_ic .eq (A 99 8) (0 : Int32)) then 4 else 3)) (L' := [some (.ref 22), none, none, none, none]) (st' := []) (h' := (hM c A R)) (fun _ => rfl) ?_
  rcases Bool.eq_false_or_eq_true (a_ic .eq (A 99 8) (0 : Int32)) with hb | hb
  · have hf := a_bt hb hf
    refine v_it hb ?_
    obtain ⟨r1, A1, hc, hf⟩ := m_bd_ok hf
    refine v_call 2 (k' := 118) (i' := 6) (E := [some (.ref 22)]) (L' := [some (.ref 22), none, none, none, none]) (rest := []) (h1 := (hM c A R)) (fun _ => rfl) ?_
    refine v_post (gt_118 hfz N c R d (by omega)  A _ _ hc) ?_
    rintro rv h' ⟨rfl, rfl⟩
    refine v_blk 4 (i' := (bif (a_ic .eq r1 (33 : Int32)) then 13 else 10)) (L' := [some (.ref 22), some (.int r1), none, none, none]) (st' := []) (h' := (hM c A1 R)) (fun _ => rfl) ?_
    rcases Bool.eq_false_or_eq_true (a_ic .eq r1 (33 : Int32)) with hb | hb
    · have hf := a_bt hb hf
      refine v_it hb ?_
      exact gt_124_13 hfz N rf c R D hD hrf (d + 1) hd r1 A1 _ _ hf
    · have hf := a_be hb hf
      refine v_ie hb ?_
      refine v_blk 3 (i' := (bif (a_ic .ne r1 (40 : Int32)) then 60 else 13)) (L' := [some (.ref 22), some (.int r1), none, none, none]) (st' := []) (h' := (hM c A1 R)) (fun _ => rfl) ?_
      rcases Bool.eq_false_or_eq_true (a_ic .ne r1 (40 : Int32)) with hb | hb
      · have hf := a_bt hb hf
        refine v_it hb ?_
        obtain ⟨r2, A2, hc, hf⟩ := m_bd_ok hf
        refine v_call 3 (k' := 122) (i' := 63) (E := [some (.ref 22), some (.retAddr 6), none]) (L' := [some (.ref 22), some (.int r1), none, none, none]) (rest := []) (h1 := (hM c A1 R)) (fun _ => rfl) ?_
        refine v_post (gt_122 hfz N c R d (by omega) 6 A1 _ _ hc) ?_
        rintro rv h' ⟨rfl, rfl⟩
        refine v_blk 5 (i' := (bif (a_ic .ne r2 (-1 : Int32)) then 70 else 68)) (L' := [some (.ref 22), some (.int r1), some (.int r2), none, none]) (st' := [(.ref 22)]) (h' := (hM c A2 R)) (fun _ => rfl) ?_
        rcases Bool.eq_false_or_eq_true (a_ic .ne r2 (-1 : Int32)) with hb | hb
        · have hf := a_bt hb hf
          refine v_it hb ?_
          refine v_blk 1 (i' := 71) (L' := [some (.ref 22), some (.int r1), some (.int r2), none, none]) (st' := [(.int (0 : Int32)), (.ref 22)]) (h' := (hM c A2 R)) (fun _ => rfl) ?_
          refine v_weak (L' := [some (.ref 22), none, some (.int r2), none, none]) (show a_wk [some (.ref 22), none, some (.int r2), none, none] [some (.ref 22), some (.int r1), some (.int r2), none, none] from ⟨rfl, ⟨(fun v hv => by cases hv; rfl), ⟨rfl, ⟨(fun v hv => by cases hv), ⟨(fun v hv => by cases hv), trivial⟩⟩⟩⟩⟩) ?_
          exact gt_124_71 hfz N rf c R D hD hrf (d + 1) hd r2 (0 : Int32) A2 _ _ hf
        · have hf := a_be hb hf
          refine v_ie hb ?_
          refine v_blk 2 (i' := 71) (L' := [some (.ref 22), some (.int r1), some (.int r2), none, none]) (st' := [(.int (1 : Int32)), (.ref 22)]) (h' := (hM c A2 R)) (fun _ => rfl) ?_
          refine v_weak (L' := [some (.ref 22), none, some (.int r2), none, none]) (show a_wk [some (.ref 22), none, some (.int r2), none, none] [some (.ref 22), some (.int r1), some (.int r2), none, none] from ⟨rfl, ⟨(fun v hv => by cases hv; rfl), ⟨rfl, ⟨(fun v hv => by cases hv), ⟨(fun v hv => by cases hv), trivial⟩⟩⟩⟩⟩) ?_
          exact gt_124_71 hfz N rf c R D hD hrf (d + 1) hd r2 (1 : Int32) A2 _ _ hf
      · have hf := a_be hb hf
        refine v_ie hb ?_
        exact gt_124_13 hfz N rf c R D hD hrf (d + 1) hd r1 A1 _ _ hf
  · have hf := a_be hb hf
    refine v_ie hb ?_
    obtain ⟨rfl, rfl⟩ := m_rt hf
    exact v_ret 1 (fun _ => rfl) ⟨rfl, rfl⟩
theorem gt_fac {fz : Value} {sc : Nat × (Nat → Int32)} (hfz : fz = .null ∨ fz = .retAddr 60) (N : Nat) (c : Nat → aC) (R : List aC) : ∀ (q d : Nat) (A : mS) (r : Int32) (A' : mS), 4 + 3 * q ≤ d → g_fac N q A = some (r, A') → v_V fz sc d 124 0 [some (.ref 22), none, none, none, none] [] (hM c A R) (fun rv h' => rv = none ∧ h' = hM c A' R) := by
  intro q
  induction q with
  | zero => intro d A r A' hd hf; cases hf
  | succ q ih =>
    intro d A r A' hd hf
    exact gt_124 hfz N (g_fac N q) c R (4 + 3 * q) (by omega) (fun d A r A' hd hf => ih d A r A' hd hf) d (by omega) A r A' hf
set_option maxRecDepth 100000 in
set_option maxHeartbeats 4000000 in
theorem gt_127 {fz : Value} {sc : Nat × (Nat → Int32)} (hfz : fz = .null ∨ fz = .retAddr 60) (N : Nat) (c : Nat → aC) (R : List aC) (d : Nat) (hd : 31 ≤ d) (x1 : Int32) (x2 : Nat) (A : mS) (r : Int32) (A' : mS) (hf : g_127 N x1 x2 A = some (r, A')) : v_V fz sc d 127 0 [some (.ref 22), some (.int x1), some (.retAddr x2), none] [] (hM c A R) (fun rv h' => rv = none ∧ h' = hM c A' R) := by
  unfold g_127 at hf
  obtain ⟨d, rfl⟩ : ∃ z, d = z + 1 := ⟨d - 1, by omega⟩
  obtain ⟨r1, A1, hc, hf⟩ := m_bd_ok hf
  refine v_call 3 (k' := 120) (i' := 3) (E := [some (.ref 22), some (.retAddr x2), none]) (L' := [some (.ref 22), some (.int x1), some (.retAddr x2), none]) (rest := []) (h1 := (hM c A R)) (fun _ => rfl) ?_
  refine v_post (gt_120 hfz N c R d (by omega) x2 A _ _ hc) ?_
  rintro rv h' ⟨rfl, rfl⟩
  obtain ⟨r2, A2, hc, hf⟩ := m_bd_ok hf
  refine v_call 2 (k' := 121) (i' := 5) (E := [some (.ref 22), none, none]) (L' := [some (.ref 22), some (.int x1), some (.retAddr x2), none]) (rest := []) (h1 := (hM c A1 R)) (fun _ => rfl) ?_
  refine v_post (gt_121 hfz N c R d (by omega)  A1 _ _ hc) ?_
  rintro rv h' ⟨rfl, rfl⟩
  obtain ⟨r3, A3, hc, hf⟩ := m_bd_ok hf
  refine v_call 4 (k' := 119) (i' := 9) (E := [some (.ref 22), some (.int (32 : Int32))]) (L' := [some (.ref 22), some (.int x1), some (.retAddr x2), some (.int r2)]) (rest := []) (h1 := (hM c A2 R)) (fun _ => rfl) ?_
  refine v_post (gt_119 hfz N c R d (by omega) (32 : Int32) A2 _ _ hc) ?_
  rintro rv h' ⟨rfl, rfl⟩
  obtain ⟨r4, A4, hc, hf⟩ := m_bd_ok hf
  refine v_call 2 (k' := 126) (i' := 11) (E := [some (.ref 22)]) (L' := [some (.ref 22), some (.int x1), some (.retAddr x2), some (.int r2)]) (rest := []) (h1 := (hM c A3 R)) (fun _ => rfl) ?_
  refine v_post (gt_126 hfz N (g_fac N 8) c R 28 (by omega) (fun d A r A' hd hf => gt_fac hfz N c R 8 d A r A' (by omega) hf) d (by omega) A3 _ _ hc) ?_
  rintro rv h' ⟨rfl, rfl⟩
  obtain ⟨r5, A5, hc, hf⟩ := m_bd_ok hf
  refine v_call 5 (k' := 123) (i' := 16) (E := [some (.ref 22), some (.int (x1 - r2))]) (L' := [some (.ref 22), some (.int x1), some (.retAddr x2), some (.int r2)]) (rest := []) (h1 := (hM c A4 R)) (fun _ => rfl) ?_
  refine v_post (gt_123 hfz N c R d (by omega) (x1 - r2) A4 _ _ hc) ?_
  rintro rv h' ⟨rfl, rfl⟩
  obtain ⟨rfl, rfl⟩ := m_rt hf
  exact v_ret 1 (fun _ => rfl) ⟨rfl, rfl⟩
set_option maxRecDepth 100000 in
set_option maxHeartbeats 4000000 in
theorem gt_128_16 {fz : Value} {sc : Nat × (Nat → Int32)} (hfz : fz = .null ∨ fz = .retAddr 60) (N : Nat) (c : Nat → aC) (R : List aC) (d : Nat) (hd : 7 ≤ d) (t1 : Int32) (A : mS) (r : Int32) (A' : mS) (hf : g_128_16 N t1 A = some (r, A')) : v_V fz sc d 128 16 [some (.ref 22)] [(.int t1), (.ref 22)] (hM c A R) (fun rv h' => rv = none ∧ h' = hM c A' R) := by
  unfold g_128_16 at hf
  obtain ⟨d, rfl⟩ : ∃ z, d = z + 1 := ⟨d - 1, by omega⟩
  obtain ⟨hg, hf⟩ := a_bif hf
  refine v_grd 1 (i' := 17) (L' := [some (.ref 22)]) (st' := []) (h' := (hM c (va_up A 99 (upd (A 99) 8 t1)) R)) (fun _ => rfl) hg ?_
  obtain ⟨A4, hA, hf⟩ := m_st_ok hf
  rw [hA]
  refine v_blk 3 (i' := (bif (a_ic .ne (A4 99 8) (0 : Int32)) then 37 else 20)) (L' := [some (.ref 22)]) (st' := []) (h' := (hM c A4 R)) (fun _ => rfl) ?_
  rcases Bool.eq_false_or_eq_true (a_ic .ne (A4 99 8) (0 : Int32)) with hb | hb
  · have hf := a_bt hb hf
    refine v_it hb ?_
    obtain ⟨rfl, rfl⟩ := m_rt hf
    exact v_ret 1 (fun _ => rfl) ⟨rfl, rfl⟩
  · have hf := a_be hb hf
    refine v_ie hb ?_
    obtain ⟨r5, A5, hc, hf⟩ := m_bd_ok hf
    refine v_call 8 (k' := 118) (i' := 28) (E := [some (.ref 22)]) (L' := [some (.ref 22)]) (rest := [(.int ((232 : Int32) + (A4 99 5))), (.ref 23)]) (h1 := (hM c A4 R)) (fun _ => rfl) ?_
    refine v_post (gt_118 hfz N c R d (by omega)  A4 _ _ hc) ?_
    rintro rv h' ⟨rfl, rfl⟩
    obtain ⟨hg, hf⟩ := a_bif hf
    refine v_grd 3 (i' := 31) (L' := [some (.ref 22)]) (st' := []) (h' := (hM c (va_up A5 0 (upd (A5 0) (((232 : Int32) + (A4 99 5))).toNatClampNeg (r5 - (48 : Int32)))) R)) (fun _ => rfl) hg ?_
    obtain ⟨A6, hA, hf⟩ := m_st_ok hf
    rw [hA]
    obtain ⟨rfl, rfl⟩ := m_rt hf
    exact v_ret 7 (fun _ => rfl) ⟨rfl, rfl⟩
set_option maxRecDepth 100000 in
set_option maxHeartbeats 4000000 in
theorem gt_128_13 {fz : Value} {sc : Nat × (Nat → Int32)} (hfz : fz = .null ∨ fz = .retAddr 60) (N : Nat) (c : Nat → aC) (R : List aC) (d : Nat) (hd : 7 ≤ d) (A : mS) (r : Int32) (A' : mS) (hf : g_128_13 N  A = some (r, A')) : v_V fz sc d 128 13 [some (.ref 22)] [(.ref 22)] (hM c A R) (fun rv h' => rv = none ∧ h' = hM c A' R) := by
  unfold g_128_13 at hf
  obtain ⟨d, rfl⟩ : ∃ z, d = z + 1 := ⟨d - 1, by omega⟩
  refine v_blk 2 (i' := 16) (L' := [some (.ref 22)]) (st' := [(.int (1 : Int32)), (.ref 22)]) (h' := (hM c A R)) (fun _ => rfl) ?_
  exact gt_128_16 hfz N c R (d + 1) hd (1 : Int32) A _ _ hf
set_option maxRecDepth 100000 in
set_option maxHeartbeats 4000000 in
theorem gt_128 {fz : Value} {sc : Nat × (Nat → Int32)} (hfz : fz = .null ∨ fz = .retAddr 60) (N : Nat) (c : Nat → aC) (R : List aC) (d : Nat) (hd : 7 ≤ d) (A : mS) (r : Int32) (A' : mS) (hf : g_128 N  A = some (r, A')) : v_V fz sc d 128 0 [some (.ref 22)] [] (hM c A R) (fun rv h' => rv = none ∧ h' = hM c A' R) := by
  unfold g_128 at hf
  obtain ⟨d, rfl⟩ : ∃ z, d = z + 1 := ⟨d - 1, by omega⟩
  obtain ⟨r1, A1, hc, hf⟩ := m_bd_ok hf
  refine v_call 3 (k' := 120) (i' := 3) (E := [some (.ref 22), some (.retAddr 1), none]) (L' := [some (.ref 22)]) (rest := []) (h1 := (hM c A R)) (fun _ => rfl) ?_
  refine v_post (gt_120 hfz N c R d (by omega) 1 A _ _ hc) ?_
  rintro rv h' ⟨rfl, rfl⟩
  refine v_blk 4 (i' := (bif (a_ic .ne (A1 99 8) (0 : Int32)) then 13 else 7)) (L' := [some (.ref 22)]) (st' := [(.ref 22)]) (h' := (hM c A1 R)) (fun _ => rfl) ?_
  rcases Bool.eq_false_or_eq_true (a_ic .ne (A1 99 8) (0 : Int32)) with hb | hb
  · have hf := a_bt hb hf
    refine v_it hb ?_
    exact gt_128_13 hfz N c R (d + 1) hd  A1 _ _ hf
  · have hf := a_be hb hf
    refine v_ie hb ?_
    obtain ⟨r2, A2, hc, hf⟩ := m_bd_ok hf
    refine v_call 2 (k' := 118) (i' := 9) (E := [some (.ref 22)]) (L' := [some (.ref 22)]) (rest := [(.ref 22)]) (h1 := (hM c A1 R)) (fun _ => rfl) ?_
    refine v_post (gt_118 hfz N c R d (by omega)  A1 _ _ hc) ?_
    rintro rv h' ⟨rfl, rfl⟩
    obtain ⟨r3, A3, hc, hf⟩ := m_bd_ok hf
    refine v_call 3 (k' := 112) (i' := 12) (E := [some (.int r2), some (.int (48 : Int32)), some (.int (50 : Int32))]) (L' := [some (.ref 22)]) (rest := [(.ref 22)]) (h1 := (hM c A2 R)) (fun _ => rfl) ?_
    refine v_post (gt_112 hfz N c R d (by omega) r2 (48 : Int32) (50 : Int32) A2 _ _ hc) ?_
    rintro rv h' ⟨rfl, rfl⟩
    refine v_blk 1 (i' := (bif (a_ic .ne r3 (0 : Int32)) then 15 else 13)) (L' := [some (.ref 22)]) (st' := [(.ref 22)]) (h' := (hM c A3 R)) (fun _ => rfl) ?_
    rcases Bool.eq_false_or_eq_true (a_ic .ne r3 (0 : Int32)) with hb | hb
    · have hf := a_bt hb hf
      refine v_it hb ?_
      refine v_blk 1 (i' := 16) (L' := [some (.ref 22)]) (st' := [(.int (0 : Int32)), (.ref 22)]) (h' := (hM c A3 R)) (fun _ => rfl) ?_
      exact gt_128_16 hfz N c R (d + 1) hd (0 : Int32) A3 _ _ hf
    · have hf := a_be hb hf
      refine v_ie hb ?_
      exact gt_128_13 hfz N c R (d + 1) hd  A3 _ _ hf
set_option maxRecDepth 100000 in
set_option maxHeartbeats 4000000 in
theorem gt_129 {fz : Value} {sc : Nat × (Nat → Int32)} (hfz : fz = .null ∨ fz = .retAddr 60) (N : Nat) (c : Nat → aC) (R : List aC) (d : Nat) (hd : 7 ≤ d) (A : mS) (r : Int32) (A' : mS) (hf : g_129 N  A = some (r, A')) : v_V fz sc d 129 0 [some (.ref 22), none] [] (hM c A R) (fun rv h' => rv = none ∧ h' = hM c A' R) := by
  unfold g_129 at hf
  obtain ⟨d, rfl⟩ : ∃ z, d = z + 1 := ⟨d - 1, by omega⟩
  obtain ⟨r1, A1, hc, hf⟩ := m_bd_ok hf
  refine v_call 3 (k' := 120) (i' := 3) (E := [some (.ref 22), some (.retAddr 2), none]) (L' := [some (.ref 22), none]) (rest := []) (h1 := (hM c A R)) (fun _ => rfl) ?_
  refine v_post (gt_120 hfz N c R d (by omega) 2 A _ _ hc) ?_
  rintro rv h' ⟨rfl, rfl⟩
  obtain ⟨r2, A2, hc, hf⟩ := m_bd_ok hf
  refine v_call 2 (k' := 121) (i' := 5) (E := [some (.ref 22), none, none]) (L' := [some (.ref 22), none]) (rest := []) (h1 := (hM c A1 R)) (fun _ => rfl) ?_
  refine v_post (gt_121 hfz N c R d (by omega)  A1 _ _ hc) ?_
  rintro rv h' ⟨rfl, rfl⟩
  refine v_blk 4 (i' := (bif (a_ic .ne (A2 99 8) (0 : Int32)) then 17 else 9)) (L' := [some (.ref 22), some (.int r2)]) (st' := []) (h' := (hM c A2 R)) (fun _ => rfl) ?_
  rcases Bool.eq_false_or_eq_true (a_ic .ne (A2 99 8) (0 : Int32)) with hb | hb
  · have hf := a_bt hb hf
    refine v_it hb ?_
    obtain ⟨rfl, rfl⟩ := m_rt hf
    exact v_ret 1 (fun _ => rfl) ⟨rfl, rfl⟩
  · have hf := a_be hb hf
    refine v_ie hb ?_
    obtain ⟨hg, hf⟩ := a_bif hf
    refine v_grd 8 (i' := 17) (L' := [some (.ref 22), some (.int r2)]) (st' := []) (h' := (hM c (va_up A2 0 (upd (A2 0) (((237 : Int32) + (A2 99 5))).toNatClampNeg r2)) R)) (fun _ => rfl) hg ?_
    obtain ⟨A3, hA, hf⟩ := m_st_ok hf
    rw [hA]
    obtain ⟨rfl, rfl⟩ := m_rt hf
    exact v_ret 1 (fun _ => rfl) ⟨rfl, rfl⟩
set_option maxRecDepth 100000 in
set_option maxHeartbeats 4000000 in
theorem gt_130 {fz : Value} {sc : Nat × (Nat → Int32)} (hfz : fz = .null ∨ fz = .retAddr 60) (N : Nat) (c : Nat → aC) (R : List aC) (d : Nat) (hd : 32 ≤ d) (A : mS) (r : Int32) (A' : mS) (hf : g_130 N  A = some (r, A')) : v_V fz sc d 130 0 [some (.ref 22)] [] (hM c A R) (fun rv h' => rv = none ∧ h' = hM c A' R) := by
  unfold g_130 at hf
  obtain ⟨d, rfl⟩ : ∃ z, d = z + 1 := ⟨d - 1, by omega⟩
  obtain ⟨r1, A1, hc, hf⟩ := m_bd_ok hf
  refine v_call 2 (k' := 118) (i' := 2) (E := [some (.ref 22)]) (L' := [some (.ref 22)]) (rest := []) (h1 := (hM c A R)) (fun _ => rfl) ?_
  refine v_post (gt_118 hfz N c R d (by omega)  A _ _ hc) ?_
  rintro rv h' ⟨rfl, rfl⟩
  refine v_blk 1 (i' := (a_lsw 19 [(103, 74), (104, 55), (114, 67), (119, 44)] [16, 8, 13, 3] r1)) (L' := [some (.ref 22)]) (st' := []) (h' := (hM c A1 R)) (fun _ => rfl) ?_
  by_cases hb : (a_lsw 19 [(103, 74), (104, 55), (114, 67), (119, 44)] [16, 8, 13, 3] r1) = 16
  · rw [if_pos hb] at hf
    rw [hb]
    obtain ⟨r2, A2, hc, hf⟩ := m_bd_ok hf
    refine v_call 2 (k' := 129) (i' := 18) (E := [some (.ref 22), none]) (L' := [some (.ref 22)]) (rest := []) (h1 := (hM c A1 R)) (fun _ => rfl) ?_
    refine v_post (gt_129 hfz N c R d (by omega)  A1 _ _ hc) ?_
    rintro rv h' ⟨rfl, rfl⟩
    obtain ⟨rfl, rfl⟩ := m_rt hf
    exact v_ret 2 (fun _ => rfl) ⟨rfl, rfl⟩
  rw [if_neg hb] at hf
  by_cases hb : (a_lsw 19 [(103, 74), (104, 55), (114, 67), (119, 44)] [16, 8, 13, 3] r1) = 8
  · rw [if_pos hb] at hf
    rw [hb]
    obtain ⟨r3, A3, hc, hf⟩ := m_bd_ok hf
    refine v_call 4 (k' := 127) (i' := 12) (E := [some (.ref 22), some (.int (-200 : Int32)), some (.retAddr 0), none]) (L' := [some (.ref 22)]) (rest := []) (h1 := (hM c A1 R)) (fun _ => rfl) ?_
    refine v_post (gt_127 hfz N c R d (by omega) (-200 : Int32) 0 A1 _ _ hc) ?_
    rintro rv h' ⟨rfl, rfl⟩
    obtain ⟨rfl, rfl⟩ := m_rt hf
    exact v_ret 2 (fun _ => rfl) ⟨rfl, rfl⟩
  rw [if_neg hb] at hf
  by_cases hb : (a_lsw 19 [(103, 74), (104, 55), (114, 67), (119, 44)] [16, 8, 13, 3] r1) = 13
  · rw [if_pos hb] at hf
    rw [hb]
    obtain ⟨r4, A4, hc, hf⟩ := m_bd_ok hf
    refine v_call 2 (k' := 128) (i' := 15) (E := [some (.ref 22)]) (L' := [some (.ref 22)]) (rest := []) (h1 := (hM c A1 R)) (fun _ => rfl) ?_
    refine v_post (gt_128 hfz N c R d (by omega)  A1 _ _ hc) ?_
    rintro rv h' ⟨rfl, rfl⟩
    obtain ⟨rfl, rfl⟩ := m_rt hf
    exact v_ret 2 (fun _ => rfl) ⟨rfl, rfl⟩
  rw [if_neg hb] at hf
  by_cases hb : (a_lsw 19 [(103, 74), (104, 55), (114, 67), (119, 44)] [16, 8, 13, 3] r1) = 3
  · rw [if_pos hb] at hf
    rw [hb]
    obtain ⟨r5, A5, hc, hf⟩ := m_bd_ok hf
    refine v_call 4 (k' := 127) (i' := 7) (E := [some (.ref 22), some (.int (-10 : Int32)), some (.retAddr 3), none]) (L' := [some (.ref 22)]) (rest := []) (h1 := (hM c A1 R)) (fun _ => rfl) ?_
    refine v_post (gt_127 hfz N c R d (by omega) (-10 : Int32) 3 A1 _ _ hc) ?_
    rintro rv h' ⟨rfl, rfl⟩
    obtain ⟨rfl, rfl⟩ := m_rt hf
    exact v_ret 2 (fun _ => rfl) ⟨rfl, rfl⟩
  rw [if_neg hb] at hf
  by_cases hb : (a_lsw 19 [(103, 74), (104, 55), (114, 67), (119, 44)] [16, 8, 13, 3] r1) = 19
  · rw [if_pos hb] at hf
    rw [hb]
    obtain ⟨rfl, rfl⟩ := m_rt hf
    exact v_ret 4 (fun _ => rfl) ⟨rfl, rfl⟩
  rw [if_neg hb] at hf
  cases hf
set_option maxRecDepth 100000 in
set_option maxHeartbeats 4000000 in
theorem gt_131_82 {fz : Value} {sc : Nat × (Nat → Int32)} (hfz : fz = .null ∨ fz = .retAddr 60) (N : Nat) (c : Nat → aC) (R : List aC) (d : Nat) (hd : 33 ≤ d) (A : mS) (r : Int32) (A' : mS) (hf : g_131_82 N  A = some (r, A')) : v_V fz sc d 131 82 [some (.ref 22), none] [] (hM c A R) (fun rv h' => rv = some (.int r) ∧ h' = hM c A' R) := by
  unfold g_131_82 at hf
  obtain ⟨d, rfl⟩ : ∃ z, d = z + 1 := ⟨d - 1, by omega⟩
  refine v_blk 3 (i' := (bif (a_ic .ne (A 99 8) (0 : Int32)) then 90 else 85)) (L' := [some (.ref 22), none]) (st' := []) (h' := (hM c A R)) (fun _ => rfl) ?_
  rcases Bool.eq_false_or_eq_true (a_ic .ne (A 99 8) (0 : Int32)) with hb | hb
  · have hf := a_bt hb hf
    refine v_it hb ?_
    refine v_blk 4 (i' := 94) (L' := [some (.ref 22), none]) (st' := [(.int ((-10 : Int32) - (A 99 6)))]) (h' := (hM c A R)) (fun _ => rfl) ?_
    obtain ⟨y7, hy, hf⟩ := m_li_ok hf
    rw [hy]
    obtain ⟨rfl, rfl⟩ := m_rt hf
    exact v_ret 1 (fun _ => rfl) ⟨rfl, rfl⟩
  · have hf := a_be hb hf
    refine v_ie hb ?_
    refine v_blk 5 (i' := (bif (a_ic .eq (A 99 6) (A 99 7)) then 95 else 90)) (L' := [some (.ref 22), none]) (st' := []) (h' := (hM c A R)) (fun _ => rfl) ?_
    rcases Bool.eq_false_or_eq_true (a_ic .eq (A 99 6) (A 99 7)) with hb | hb
    · have hf := a_bt hb hf
      refine v_it hb ?_
      obtain ⟨rfl, rfl⟩ := m_rt hf
      exact v_ret 17 (fun _ => rfl) ⟨rfl, rfl⟩
    · have hf := a_be hb hf
      refine v_ie hb ?_
      refine v_blk 4 (i' := 94) (L' := [some (.ref 22), none]) (st' := [(.int ((-10 : Int32) - (A 99 6)))]) (h' := (hM c A R)) (fun _ => rfl) ?_
      obtain ⟨y8, hy, hf⟩ := m_li_ok hf
      rw [hy]
      obtain ⟨rfl, rfl⟩ := m_rt hf
      exact v_ret 1 (fun _ => rfl) ⟨rfl, rfl⟩
set_option maxRecDepth 100000 in
set_option maxHeartbeats 4000000 in
theorem gt_131_62b {fz : Value} {sc : Nat × (Nat → Int32)} (hfz : fz = .null ∨ fz = .retAddr 60) (N : Nat) (c : Nat → aC) (R : List aC) (d : Nat) (hd : 33 ≤ d) (rc62 : Int32 → mS → Option (Int32 × mS)) (hrc62 : ∀ (x1 : Int32) (A : mS) (r : Int32) (A' : mS), rc62 x1 A = some (r, A') → v_V fz sc d 131 62 [some (.ref 22), some (.int x1)] [] (hM c A R) (fun rv h' => rv = some (.int r) ∧ h' = hM c A' R)) (x1 : Int32) (A : mS) (r : Int32) (A' : mS) (hf : g_131_62b N rc62 x1 A = some (r, A')) : v_V fz sc d 131 62 [some (.ref 22), some (.int x1)] [] (hM c A R) (fun rv h' => rv = some (.int r) ∧ h' = hM c A' R) := by
  unfold g_131_62b at hf
  obtain ⟨d, rfl⟩ : ∃ z, d = z + 1 := ⟨d - 1, by omega⟩
  refine v_blk 3 (i' := (bif (a_ic .ne (A 99 8) (0 : Int32)) then 82 else 65)) (L' := [some (.ref 22), some (.int x1)]) (st' := []) (h' := (hM c A R)) (fun _ => rfl) ?_
  rcases Bool.eq_false_or_eq_true (a_ic .ne (A 99 8) (0 : Int32)) with hb | hb
  · have hf := a_bt hb hf
    refine v_it hb ?_
    refine v_weak (L' := [some (.ref 22), none]) (show a_wk [some (.ref 22), none] [some (.ref 22), some (.int x1)] from ⟨rfl, ⟨(fun v hv => by cases hv; rfl), trivial⟩⟩) ?_
    exact gt_131_82 hfz N c R (d + 1) hd  A _ _ hf
  · have hf := a_be hb hf
    refine v_ie hb ?_
    refine v_blk 3 (i' := (bif (a_ic .ge x1 (10 : Int32)) then 82 else 68)) (L' := [some (.ref 22), some (.int x1)]) (st' := []) (h' := (hM c A R)) (fun _ => rfl) ?_
    rcases Bool.eq_false_or_eq_true (a_ic .ge x1 (10 : Int32)) with hb | hb
    · have hf := a_bt hb hf
      refine v_it hb ?_
      refine v_weak (L' := [some (.ref 22), none]) (show a_wk [some (.ref 22), none] [some (.ref 22), some (.int x1)] from ⟨rfl, ⟨(fun v hv => by cases hv; rfl), trivial⟩⟩) ?_
      exact gt_131_82 hfz N c R (d + 1) hd  A _ _ hf
    · have hf := a_be hb hf
      refine v_ie hb ?_
      obtain ⟨r5, A5, hc, hf⟩ := m_bd_ok hf
      refine v_call 2 (k' := 118) (i' := 70) (E := [some (.ref 22)]) (L' := [some (.ref 22), some (.int x1)]) (rest := []) (h1 := (hM c A R)) (fun _ => rfl) ?_
      refine v_post (gt_118 hfz N c R d (by omega)  A _ _ hc) ?_
      rintro rv h' ⟨rfl, rfl⟩
      refine v_blk 2 (i' := (bif (a_ic .ne r5 (59 : Int32)) then 82 else 72)) (L' := [some (.ref 22), some (.int x1)]) (st' := []) (h' := (hM c A5 R)) (fun _ => rfl) ?_
      rcases Bool.eq_false_or_eq_true (a_ic .ne r5 (59 : Int32)) with hb | hb
      · have hf := a_bt hb hf
        refine v_it hb ?_
        refine v_weak (L' := [some (.ref 22), none]) (show a_wk [some (.ref 22), none] [some (.ref 22), some (.int x1)] from ⟨rfl, ⟨(fun v hv => by cases hv; rfl), trivial⟩⟩) ?_
        exact gt_131_82 hfz N c R (d + 1) hd  A5 _ _ hf
      · have hf := a_be hb hf
        refine v_ie hb ?_
        obtain ⟨r6, A6, hc, hf⟩ := m_bd_ok hf
        refine v_call 8 (k' := 130) (i' := 80) (E := [some (.ref 22)]) (L' := [some (.ref 22), some (.int x1)]) (rest := []) (h1 := (hM c (va_up A5 99 (upd (A5 99) 6 ((A5 99 6) + (1 : Int32)))) R)) (fun _ => rfl) ?_
        refine v_post (gt_130 hfz N c R d (by omega)  (va_up A5 99 (upd (A5 99) 6 ((A5 99 6) + (1 : Int32)))) _ _ hc) ?_
        rintro rv h' ⟨rfl, rfl⟩
        refine v_blk 2 (i' := 62) (L' := [some (.ref 22), some (.int (x1 + (1 : Int32)))]) (st' := []) (h' := (hM c A6 R)) (fun _ => rfl) ?_
        exact hrc62 (x1 + (1 : Int32)) A6 _ _ hf
theorem gt_131_62 {fz : Value} {sc : Nat × (Nat → Int32)} (hfz : fz = .null ∨ fz = .retAddr 60) (N : Nat) (c : Nat → aC) (R : List aC) (d : Nat) (hd : 33 ≤ d) : ∀ (n : Nat) (x1 : Int32) (A : mS) (r : Int32) (A' : mS) (hf : g_131_62 N n x1 A = some (r, A')), v_V fz sc d 131 62 [some (.ref 22), some (.int x1)] [] (hM c A R) (fun rv h' => rv = some (.int r) ∧ h' = hM c A' R) := by
  intro n
  induction n with
  | zero => intro x1 A r A' hf; cases hf
  | succ n ih =>
    intro x1 A r A' hf
    exact gt_131_62b hfz N c R d hd (g_131_62 N n) ih x1 A r A' hf
set_option maxRecDepth 100000 in
set_option maxHeartbeats 4000000 in
theorem gt_131 {fz : Value} {sc : Nat × (Nat → Int32)} (hfz : fz = .null ∨ fz = .retAddr 60) (N : Nat) (c : Nat → aC) (R : List aC) (d : Nat) (hd : 33 ≤ d) (A : mS) (r : Int32) (A' : mS) (hf : g_131 N  A = some (r, A')) : v_V fz sc d 131 0 [some (.ref 22), none] [] (hM c A R) (fun rv h' => rv = some (.int r) ∧ h' = hM c A' R) := by
  unfold g_131 at hf
  obtain ⟨d, rfl⟩ : ∃ z, d = z + 1 := ⟨d - 1, by omega⟩
  refine v_blk 6 (i' := (bif (a_ic .ne ((A 0) 12) (5 : Int32)) then 8 else 6)) (L' := [some (.ref 22), none]) (st' := []) (h' := (hM c A R)) (fun _ => rfl) ?_
  rcases Bool.eq_false_or_eq_true (a_ic .ne ((A 0) 12) (5 : Int32)) with hb | hb
  · have hf := a_bt hb hf
    refine v_it hb ?_
    obtain ⟨hg, hf⟩ := a_bif hf
    refine v_grd 25 (i' := 33) (L' := [some (.ref 22), none]) (st' := []) (h' := (hM c (va_up (va_up A 0 (upd (upd (A 0) 16 (0 : Int32)) (((232 : Int32) + ((A 0) 12))).toNatClampNeg (0 : Int32))) 99 (upd (upd (A 99) 5 ((A 0) 12)) 7 ((A 0) 16))) R)) (fun _ => rfl) hg ?_
    obtain ⟨A1, hA, hf⟩ := m_st_ok hf
    rw [hA]
    obtain ⟨hg, hf⟩ := a_bif hf
    refine v_grd 8 (i' := 41) (L' := [some (.ref 22), none]) (st' := []) (h' := (hM c (va_up A1 0 (upd (A1 0) (((237 : Int32) + (A1 99 5))).toNatClampNeg (0 : Int32))) R)) (fun _ => rfl) hg ?_
    obtain ⟨A2, hA, hf⟩ := m_st_ok hf
    rw [hA]
    obtain ⟨hg, hf⟩ := a_bif hf
    refine v_grd 8 (i' := 49) (L' := [some (.ref 22), none]) (st' := []) (h' := (hM c (va_up A2 0 (upd (A2 0) (((242 : Int32) + (A2 99 5))).toNatClampNeg (0 : Int32))) R)) (fun _ => rfl) hg ?_
    obtain ⟨A3, hA, hf⟩ := m_st_ok hf
    rw [hA]
    obtain ⟨r4, A4, hc, hf⟩ := m_bd_ok hf
    refine v_call 13 (k' := 130) (i' := 62) (E := [some (.ref 22)]) (L' := [some (.ref 22), some (.int (1 : Int32))]) (rest := []) (h1 := (hM c (va_up A3 99 (upd (upd (upd (A3 99) 6 (0 : Int32)) 8 (0 : Int32)) 9 (0 : Int32))) R)) (fun _ => rfl) ?_
    refine v_post (gt_130 hfz N c R d (by omega)  (va_up A3 99 (upd (upd (upd (A3 99) 6 (0 : Int32)) 8 (0 : Int32)) 9 (0 : Int32))) _ _ hc) ?_
    rintro rv h' ⟨rfl, rfl⟩
    exact gt_131_62 hfz N c R (d + 1) hd N (1 : Int32) A4 _ _ hf
  · have hf := a_be hb hf
    refine v_ie hb ?_
    obtain ⟨rfl, rfl⟩ := m_rt hf
    exact v_ret 2 (fun _ => rfl) ⟨rfl, rfl⟩
set_option maxRecDepth 100000 in
set_option maxHeartbeats 4000000 in
theorem gt_132 {fz : Value} {sc : Nat × (Nat → Int32)} (hfz : fz = .null ∨ fz = .retAddr 60) (N : Nat) (c : Nat → aC) (R : List aC) (d : Nat) (hd : 0 ≤ d) (x1 : Int32) (A : mS) (r : Int32) (A' : mS) (hf : g_132 N x1 A = some (r, A')) : v_V fz sc d 132 0 [some (.ref 22), some (.int x1)] [] (hM c A R) (fun rv h' => rv = some (.int r) ∧ h' = hM c A' R) := by
  unfold g_132 at hf
  refine v_blk 6 (i' := (bif (a_ic .ne ((A 0) 17) (-1 : Int32)) then 8 else 6)) (L' := [some (.ref 22), some (.int x1)]) (st' := []) (h' := (hM c A R)) (fun _ => rfl) ?_
  rcases Bool.eq_false_or_eq_true (a_ic .ne ((A 0) 17) (-1 : Int32)) with hb | hb
  · have hf := a_bt hb hf
    refine v_it hb ?_
    obtain ⟨hg, hf⟩ := a_bif hf
    refine v_grd 9 (i' := 17) (L' := [some (.ref 22), some (.int x1)]) (st' := [(.int ((A 0) ((x1 + ((A 0) 17))).toNatClampNeg))]) (h' := (hM c A R)) (fun _ => rfl) hg ?_
    obtain ⟨y1, hy, hf⟩ := m_li_ok hf
    rw [hy]
    obtain ⟨rfl, rfl⟩ := m_rt hf
    exact v_ret 1 (fun _ => rfl) ⟨rfl, rfl⟩
  · have hf := a_be hb hf
    refine v_ie hb ?_
    obtain ⟨rfl, rfl⟩ := m_rt hf
    exact v_ret 3 (fun _ => rfl) ⟨rfl, rfl⟩
set_option maxRecDepth 100000 in
set_option maxHeartbeats 4000000 in
theorem gt_133_188 {fz : Value} {sc : Nat × (Nat → Int32)} (hfz : fz = .null ∨ fz = .retAddr 60) (N : Nat) (c : Nat → aC) (R : List aC) (d : Nat) (hd : 1 ≤ d) (rc51 : Int32 → Int32 → Int32 → Int32 → Int32 → mS → Option (Int32 × mS)) (hrc51 : ∀ (x5 : Int32) (x6 : Int32) (x7 : Int32) (x8 : Int32) (x9 : Int32) (A : mS) (r : Int32) (A' : mS), rc51 x5 x6 x7 x8 x9 A = some (r, A') → v_V fz sc d 133 51 [some (.ref 22), none, none, none, none, some (.int x5), some (.int x6), some (.int x7), some (.int x8), some (.int x9), none, none, none, none] [] (hM c A R) (fun rv h' => rv = some (.int r) ∧ h' = hM c A' R)) (x5 : Int32) (x6 : Int32) (x7 : Int32) (x8 : Int32) (x9 : Int32) (t0 : Int32) (A : mS) (r : Int32) (A' : mS) (hf : g_133_188 N rc51 x5 x6 x7 x8 x9 t0 A = some (r, A')) : v_V fz sc d 133 188 [some (.ref 22), none, none, none, none, some (.int x5), some (.int x6), some (.int x7), some (.int x8), some (.int x9), none, none, none, none] [(.int t0)] (hM c A R) (fun rv h' => rv = some (.int r) ∧ h' = hM c A' R) := by
  unfold g_133_188 at hf
  obtain ⟨d, rfl⟩ : ∃ z, d = z + 1 := ⟨d - 1, by omega⟩
  refine v_blk 7 (i' := (bif (a_ic .eq ((A 4) 0) (0 : Int32)) then 197 else 195)) (L' := [some (.ref 22), none, none, none, none, some (.int x5), some (.int x6), some (.int x7), some (.int x8), some (.int x9), none, some (.int t0), none, none]) (st' := [(.int x5)]) (h' := (hM c A R)) (fun _ => rfl) ?_
  rcases Bool.eq_false_or_eq_true (a_ic .eq ((A 4) 0) (0 : Int32)) with hb | hb
  · have hf := a_bt hb hf
    refine v_it hb ?_
    refine v_blk 5 (i' := 51) (L' := [some (.ref 22), none, none, none, none, some (.int (x5 + (0 : Int32))), some (.int x6), some (.int x7), some (.int x8), some (.int (x9 + (1 : Int32))), none, some (.int t0), none, none]) (st' := []) (h' := (hM c A R)) (fun _ => rfl) ?_
    refine v_weak (L' := [some (.ref 22), none, none, none, none, some (.int (x5 + (0 : Int32))), some (.int x6), some (.int x7), some (.int x8), some (.int (x9 + (1 : Int32))), none, none, none, none]) (show a_wk [some (.ref 22), none, none, none, none, some (.int (x5 + (0 : Int32))), some (.int x6), some (.int x7), some (.int x8), some (.int (x9 + (1 : Int32))), none, none, none, none] [some (.ref 22), none, none, none, none, some (.int (x5 + (0 : Int32))), some (.int x6), some (.int x7), some (.int x8), some (.int (x9 + (1 : Int32))), none, some (.int t0), none, none] from ⟨rfl, ⟨(fun v hv => by cases hv), ⟨(fun v hv => by cases hv), ⟨(fun v hv => by cases hv), ⟨(fun v hv => by cases hv), ⟨rfl, ⟨rfl, ⟨rfl, ⟨rfl, ⟨rfl, ⟨(fun v hv => by cases hv), ⟨(fun v hv => by cases hv; rfl), ⟨(fun v hv => by cases hv), ⟨(fun v hv => by cases hv), trivial⟩⟩⟩⟩⟩⟩⟩⟩⟩⟩⟩⟩⟩⟩) ?_
    exact hrc51 (x5 + (0 : Int32)) x6 x7 x8 (x9 + (1 : Int32)) A _ _ hf
  · have hf := a_be hb hf
    refine v_ie hb ?_
    refine v_blk 6 (i' := 51) (L' := [some (.ref 22), none, none, none, none, some (.int (x5 + t0)), some (.int x6), some (.int x7), some (.int x8), some (.int (x9 + (1 : Int32))), none, some (.int t0), none, none]) (st' := []) (h' := (hM c A R)) (fun _ => rfl) ?_
    refine v_weak (L' := [some (.ref 22), none, none, none, none, some (.int (x5 + t0)), some (.int x6), some (.int x7), some (.int x8), some (.int (x9 + (1 : Int32))), none, none, none, none]) (show a_wk [some (.ref 22), none, none, none, none, some (.int (x5 + t0)), some (.int x6), some (.int x7), some (.int x8), some (.int (x9 + (1 : Int32))), none, none, none, none] [some (.ref 22), none, none, none, none, some (.int (x5 + t0)), some (.int x6), some (.int x7), some (.int x8), some (.int (x9 + (1 : Int32))), none, some (.int t0), none, none] from ⟨rfl, ⟨(fun v hv => by cases hv), ⟨(fun v hv => by cases hv), ⟨(fun v hv => by cases hv), ⟨(fun v hv => by cases hv), ⟨rfl, ⟨rfl, ⟨rfl, ⟨rfl, ⟨rfl, ⟨(fun v hv => by cases hv), ⟨(fun v hv => by cases hv; rfl), ⟨(fun v hv => by cases hv), ⟨(fun v hv => by cases hv), trivial⟩⟩⟩⟩⟩⟩⟩⟩⟩⟩⟩⟩⟩⟩) ?_
    exact hrc51 (x5 + t0) x6 x7 x8 (x9 + (1 : Int32)) A _ _ hf
set_option maxRecDepth 100000 in
set_option maxHeartbeats 4000000 in
theorem gt_133_51b {fz : Value} {sc : Nat × (Nat → Int32)} (hfz : fz = .null ∨ fz = .retAddr 60) (N : Nat) (c : Nat → aC) (R : List aC) (d : Nat) (hd : 1 ≤ d) (rc51 : Int32 → Int32 → Int32 → Int32 → Int32 → mS → Option (Int32 × mS)) (hrc51 : ∀ (x5 : Int32) (x6 : Int32) (x7 : Int32) (x8 : Int32) (x9 : Int32) (A : mS) (r : Int32) (A' : mS), rc51 x5 x6 x7 x8 x9 A = some (r, A') → v_V fz sc d 133 51 [some (.ref 22), none, none, none, none, some (.int x5), some (.int x6), some (.int x7), some (.int x8), some (.int x9), none, none, none, none] [] (hM c A R) (fun rv h' => rv = some (.int r) ∧ h' = hM c A' R)) (x5 : Int32) (x6 : Int32) (x7 : Int32) (x8 : Int32) (x9 : Int32) (A : mS) (r : Int32) (A' : mS) (hf : g_133_51b N rc51 x5 x6 x7 x8 x9 A = some (r, A')) : v_V fz sc d 133 51 [some (.ref 22), none, none, none, none, some (.int x5), some (.int x6), some (.int x7), some (.int x8), some (.int x9), none, none, none, none] [] (hM c A R) (fun rv h' => rv = some (.int r) ∧ h' = hM c A' R) := by
  unfold g_133_51b at hf
  obtain ⟨d, rfl⟩ : ∃ z, d = z + 1 := ⟨d - 1, by omega⟩
  refine v_blk 5 (i' := (bif (a_ic .ge x9 (x7 + x6)) then 202 else 56)) (L' := [some (.ref 22), none, none, none, none, some (.int x5), some (.int x6), some (.int x7), some (.int x8), some (.int x9), none, none, none, none]) (st' := []) (h' := (hM c A R)) (fun _ => rfl) ?_
  rcases Bool.eq_false_or_eq_true (a_ic .ge x9 (x7 + x6)) with hb | hb
  · have hf := a_bt hb hf
    refine v_it hb ?_
    obtain ⟨rfl, rfl⟩ := m_rt hf
    exact v_ret 2 (fun _ => rfl) ⟨rfl, rfl⟩
  · have hf := a_be hb hf
    refine v_ie hb ?_
    obtain ⟨hg, hf⟩ := a_bif hf
    refine v_grd 4 (i' := 60) (L' := [some (.ref 22), none, none, none, none, some (.int x5), some (.int x6), some (.int x7), some (.int x8), some (.int x9), none, none, none, none]) (st' := [(.int ((A 0) (x9).toNatClampNeg))]) (h' := (hM c A R)) (fun _ => rfl) hg ?_
    obtain ⟨y4, hy, hf⟩ := m_li_ok hf
    rw [hy]
    refine v_blk 3 (i' := (bif (a_ic .lt y4 (0 : Int32)) then 111 else 63)) (L' := [some (.ref 22), none, none, none, none, some (.int x5), some (.int x6), some (.int x7), some (.int x8), some (.int x9), some (.int y4), none, none, none]) (st' := []) (h' := (hM c A R)) (fun _ => rfl) ?_
    rcases Bool.eq_false_or_eq_true (a_ic .lt y4 (0 : Int32)) with hb | hb
    · have hf := a_bt hb hf
      refine v_it hb ?_
      refine v_blk 3 (i' := (bif (a_ic .ne y4 (-1 : Int32)) then 131 else 114)) (L' := [some (.ref 22), none, none, none, none, some (.int x5), some (.int x6), some (.int x7), some (.int x8), some (.int x9), some (.int y4), none, none, none]) (st' := []) (h' := (hM c A R)) (fun _ => rfl) ?_
      rcases Bool.eq_false_or_eq_true (a_ic .ne y4 (-1 : Int32)) with hb | hb
      · have hf := a_bt hb hf
        refine v_it hb ?_
        refine v_blk 3 (i' := (bif (a_ic .le y4 (-10 : Int32)) then 176 else 134)) (L' := [some (.ref 22), none, none, none, none, some (.int x5), some (.int x6), some (.int x7), some (.int x8), some (.int x9), some (.int y4), none, none, none]) (st' := []) (h' := (hM c A R)) (fun _ => rfl) ?_
        rcases Bool.eq_false_or_eq_true (a_ic .le y4 (-10 : Int32)) with hb | hb
        · have hf := a_bt hb hf
          refine v_it hb ?_
          refine v_blk 5 (i' := (bif (a_ic .le y4 (-200 : Int32)) then 185 else 181)) (L' := [some (.ref 22), none, none, none, none, some (.int x5), some (.int x6), some (.int x7), some (.int (0 : Int32)), some (.int x9), some (.int y4), none, none, none]) (st' := []) (h' := (hM c A R)) (fun _ => rfl) ?_
          rcases Bool.eq_false_or_eq_true (a_ic .le y4 (-200 : Int32)) with hb | hb
          · have hf := a_bt hb hf
            refine v_it hb ?_
            refine v_blk 3 (i' := 188) (L' := [some (.ref 22), none, none, none, none, some (.int x5), some (.int x6), some (.int x7), some (.int (0 : Int32)), some (.int x9), some (.int y4), none, none, none]) (st' := [(.int (y4 - (-200 : Int32)))]) (h' := (hM c A R)) (fun _ => rfl) ?_
            obtain ⟨y5, hy, hf⟩ := m_li_ok hf
            rw [hy]
            refine v_weak (L' := [some (.ref 22), none, none, none, none, some (.int x5), some (.int x6), some (.int x7), some (.int (0 : Int32)), some (.int x9), none, none, none, none]) (show a_wk [some (.ref 22), none, none, none, none, some (.int x5), some (.int x6), some (.int x7), some (.int (0 : Int32)), some (.int x9), none, none, none, none] [some (.ref 22), none, none, none, none, some (.int x5), some (.int x6), some (.int x7), some (.int (0 : Int32)), some (.int x9), some (.int y4), none, none, none] from ⟨rfl, ⟨(fun v hv => by cases hv), ⟨(fun v hv => by cases hv), ⟨(fun v hv => by cases hv), ⟨(fun v hv => by cases hv), ⟨rfl, ⟨rfl, ⟨rfl, ⟨rfl, ⟨rfl, ⟨(fun v hv => by cases hv; rfl), ⟨(fun v hv => by cases hv), ⟨(fun v hv => by cases hv), ⟨(fun v hv => by cases hv), trivial⟩⟩⟩⟩⟩⟩⟩⟩⟩⟩⟩⟩⟩⟩) ?_
            exact gt_133_188 hfz N c R (d + 1) hd rc51 hrc51 x5 x6 x7 (0 : Int32) x9 y5 A _ _ hf
          · have hf := a_be hb hf
            refine v_ie hb ?_
            refine v_blk 3 (i' := 184) (L' := [some (.ref 22), none, none, none, none, some (.int x5), some (.int x6), some (.int x7), some (.int (0 : Int32)), some (.int x9), some (.int y4), none, none, none]) (st' := [(.int ((-10 : Int32) - y4))]) (h' := (hM c A R)) (fun _ => rfl) ?_
            obtain ⟨y6, hy, hf⟩ := m_li_ok hf
            rw [hy]
            refine v_blk 1 (i' := 188) (L' := [some (.ref 22), none, none, none, none, some (.int x5), some (.int x6), some (.int x7), some (.int (0 : Int32)), some (.int x9), some (.int y4), none, none, none]) (st' := [(.int y6)]) (h' := (hM c A R)) (fun _ => rfl) ?_
            refine v_weak (L' := [some (.ref 22), none, none, none, none, some (.int x5), some (.int x6), some (.int x7), some (.int (0 : Int32)), some (.int x9), none, none, none, none]) (show a_wk [some (.ref 22), none, none, none, none, some (.int x5), some (.int x6), some (.int x7), some (.int (0 : Int32)), some (.int x9), none, none, none, none] [some (.ref 22), none, none, none, none, some (.int x5), some (.int x6), some (.int x7), some (.int (0 : Int32)), some (.int x9), some (.int y4), none, none, none] from ⟨rfl, ⟨(fun v hv => by cases hv), ⟨(fun v hv => by cases hv), ⟨(fun v hv => by cases hv), ⟨(fun v hv => by cases hv), ⟨rfl, ⟨rfl, ⟨rfl, ⟨rfl, ⟨rfl, ⟨(fun v hv => by cases hv; rfl), ⟨(fun v hv => by cases hv), ⟨(fun v hv => by cases hv), ⟨(fun v hv => by cases hv), trivial⟩⟩⟩⟩⟩⟩⟩⟩⟩⟩⟩⟩⟩⟩) ?_
            exact gt_133_188 hfz N c R (d + 1) hd rc51 hrc51 x5 x6 x7 (0 : Int32) x9 y6 A _ _ hf
        · have hf := a_be hb hf
          refine v_ie hb ?_
          obtain ⟨y7, hy, hf⟩ := m_li_ok hf
          refine v_ii rfl rfl rfl rfl hy rfl ?_
          refine v_blk 8 (i' := (bif (a_ic .ne y4 (-2 : Int32)) then 159 else 143)) (L' := [some (.ref 22), none, none, none, none, some (.int x5), some (.int x6), some (.int x7), some (.int y7), some (.int x9), some (.int y4), none, none, none]) (st' := [(.int (y7 - (1 : Int32))), (.ref 27)]) (h' := (hM c A R)) (fun _ => rfl) ?_
          rcases Bool.eq_false_or_eq_true (a_ic .ne y4 (-2 : Int32)) with hb | hb
          · have hf := a_bt hb hf
            refine v_it hb ?_
            obtain ⟨hg, hf⟩ := a_bif hf
            refine v_grd 6 (i' := 165) (L' := [some (.ref 22), none, none, none, none, some (.int x5), some (.int x6), some (.int x7), some (.int y7), some (.int x9), some (.int y4), none, none, none]) (st' := [(.int ((A 4) ((y7 - (1 : Int32))).toNatClampNeg)), (.int (y7 - (1 : Int32))), (.ref 27)]) (h' := (hM c A R)) (fun _ => rfl) hg ?_
            obtain ⟨y8, hy, hf⟩ := m_li_ok hf
            rw [hy]
            refine v_blk 1 (i' := (bif (a_ic .ne y8 (0 : Int32)) then 171 else 166)) (L' := [some (.ref 22), none, none, none, none, some (.int x5), some (.int x6), some (.int x7), some (.int y7), some (.int x9), some (.int y4), none, none, none]) (st' := [(.int (y7 - (1 : Int32))), (.ref 27)]) (h' := (hM c A R)) (fun _ => rfl) ?_
            rcases Bool.eq_false_or_eq_true (a_ic .ne y8 (0 : Int32)) with hb | hb
            · have hf := a_bt hb hf
              refine v_it hb ?_
              obtain ⟨hg, hf⟩ := a_bif hf
              refine v_grd 3 (i' := 175) (L' := [some (.ref 22), none, none, none, none, some (.int x5), some (.int x6), some (.int x7), some (.int y7), some (.int x9), some (.int y4), none, none, none]) (st' := []) (h' := (hM c (va_up A 4 (upd (A 4) ((y7 - (1 : Int32))).toNatClampNeg (1 : Int32))) R)) (fun _ => rfl) hg ?_
              obtain ⟨A9, hA, hf⟩ := m_st_ok hf
              rw [hA]
              refine v_blk 3 (i' := 51) (L' := [some (.ref 22), none, none, none, none, some (.int x5), some (.int x6), some (.int x7), some (.int y7), some (.int (x9 + (1 : Int32))), some (.int y4), none, none, none]) (st' := []) (h' := (hM c A9 R)) (fun _ => rfl) ?_
              refine v_weak (L' := [some (.ref 22), none, none, none, none, some (.int x5), some (.int x6), some (.int x7), some (.int y7), some (.int (x9 + (1 : Int32))), none, none, none, none]) (show a_wk [some (.ref 22), none, none, none, none, some (.int x5), some (.int x6), some (.int x7), some (.int y7), some (.int (x9 + (1 : Int32))), none, none, none, none] [some (.ref 22), none, none, none, none, some (.int x5), some (.int x6), some (.int x7), some (.int y7), some (.int (x9 + (1 : Int32))), some (.int y4), none, none, none] from ⟨rfl, ⟨(fun v hv => by cases hv), ⟨(fun v hv => by cases hv), ⟨(fun v hv => by cases hv), ⟨(fun v hv => by cases hv), ⟨rfl, ⟨rfl, ⟨rfl, ⟨rfl, ⟨rfl, ⟨(fun v hv => by cases hv; rfl), ⟨(fun v hv => by cases hv), ⟨(fun v hv => by cases hv), ⟨(fun v hv => by cases hv), trivial⟩⟩⟩⟩⟩⟩⟩⟩⟩⟩⟩⟩⟩⟩) ?_
              exact hrc51 x5 x6 x7 y7 (x9 + (1 : Int32)) A9 _ _ hf
            · have hf := a_be hb hf
              refine v_ie hb ?_
              obtain ⟨hg, hf⟩ := a_bif hf
              refine v_grd 4 (i' := 170) (L' := [some (.ref 22), none, none, none, none, some (.int x5), some (.int x6), some (.int x7), some (.int y7), some (.int x9), some (.int y4), none, none, none]) (st' := [(.int ((A 4) (y7).toNatClampNeg)), (.int (y7 - (1 : Int32))), (.ref 27)]) (h' := (hM c A R)) (fun _ => rfl) hg ?_
              obtain ⟨y10, hy, hf⟩ := m_li_ok hf
              rw [hy]
              refine v_blk 1 (i' := (bif (a_ic .eq y10 (0 : Int32)) then 173 else 171)) (L' := [some (.ref 22), none, none, none, none, some (.int x5), some (.int x6), some (.int x7), some (.int y7), some (.int x9), some (.int y4), none, none, none]) (st' := [(.int (y7 - (1 : Int32))), (.ref 27)]) (h' := (hM c A R)) (fun _ => rfl) ?_
              rcases Bool.eq_false_or_eq_true (a_ic .eq y10 (0 : Int32)) with hb | hb
              · have hf := a_bt hb hf
                refine v_it hb ?_
                obtain ⟨hg, hf⟩ := a_bif hf
                refine v_grd 2 (i' := 175) (L' := [some (.ref 22), none, none, none, none, some (.int x5), some (.int x6), some (.int x7), some (.int y7), some (.int x9), some (.int y4), none, none, none]) (st' := []) (h' := (hM c (va_up A 4 (upd (A 4) ((y7 - (1 : Int32))).toNatClampNeg (0 : Int32))) R)) (fun _ => rfl) hg ?_
                obtain ⟨A11, hA, hf⟩ := m_st_ok hf
                rw [hA]
                refine v_blk 3 (i' := 51) (L' := [some (.ref 22), none, none, none, none, some (.int x5), some (.int x6), some (.int x7), some (.int y7), some (.int (x9 + (1 : Int32))), some (.int y4), none, none, none]) (st' := []) (h' := (hM c A11 R)) (fun _ => rfl) ?_
                refine v_weak (L' := [some (.ref 22), none, none, none, none, some (.int x5), some (.int x6), some (.int x7), some (.int y7), some (.int (x9 + (1 : Int32))), none, none, none, none]) (show a_wk [some (.ref 22), none, none, none, none, some (.int x5), some (.int x6), some (.int x7), some (.int y7), some (.int (x9 + (1 : Int32))), none, none, none, none] [some (.ref 22), none, none, none, none, some (.int x5), some (.int x6), some (.int x7), some (.int y7), some (.int (x9 + (1 : Int32))), some (.int y4), none, none, none] from ⟨rfl, ⟨(fun v hv => by cases hv), ⟨(fun v hv => by cases hv), ⟨(fun v hv => by cases hv), ⟨(fun v hv => by cases hv), ⟨rfl, ⟨rfl, ⟨rfl, ⟨rfl, ⟨rfl, ⟨(fun v hv => by cases hv; rfl), ⟨(fun v hv => by cases hv), ⟨(fun v hv => by cases hv), ⟨(fun v hv => by cases hv), trivial⟩⟩⟩⟩⟩⟩⟩⟩⟩⟩⟩⟩⟩⟩) ?_
                exact hrc51 x5 x6 x7 y7 (x9 + (1 : Int32)) A11 _ _ hf
              · have hf := a_be hb hf
                refine v_ie hb ?_
                obtain ⟨hg, hf⟩ := a_bif hf
                refine v_grd 3 (i' := 175) (L' := [some (.ref 22), none, none, none, none, some (.int x5), some (.int x6), some (.int x7), some (.int y7), some (.int x9), some (.int y4), none, none, none]) (st' := []) (h' := (hM c (va_up A 4 (upd (A 4) ((y7 - (1 : Int32))).toNatClampNeg (1 : Int32))) R)) (fun _ => rfl) hg ?_
                obtain ⟨A12, hA, hf⟩ := m_st_ok hf
                rw [hA]
                refine v_blk 3 (i' := 51) (L' := [some (.ref 22), none, none, none, none, some (.int x5), some (.int x6), some (.int x7), some (.int y7), some (.int (x9 + (1 : Int32))), some (.int y4), none, none, none]) (st' := []) (h' := (hM c A12 R)) (fun _ => rfl) ?_
                refine v_weak (L' := [some (.ref 22), none, none, none, none, some (.int x5), some (.int x6), some (.int x7), some (.int y7), some (.int (x9 + (1 : Int32))), none, none, none, none]) (show a_wk [some (.ref 22), none, none, none, none, some (.int x5), some (.int x6), some (.int x7), some (.int y7), some (.int (x9 + (1 : Int32))), none, none, none, none] [some (.ref 22), none, none, none, none, some (.int x5), some (.int x6), some (.int x7), some (.int y7), some (.int (x9 + (1 : Int32))), some (.int y4), none, none, none] from ⟨rfl, ⟨(fun v hv => by cases hv), ⟨(fun v hv => by cases hv), ⟨(fun v hv => by cases hv), ⟨(fun v hv => by cases hv), ⟨rfl, ⟨rfl, ⟨rfl, ⟨rfl, ⟨rfl, ⟨(fun v hv => by cases hv; rfl), ⟨(fun v hv => by cases hv), ⟨(fun v hv => by cases hv), ⟨(fun v hv => by cases hv), trivial⟩⟩⟩⟩⟩⟩⟩⟩⟩⟩⟩⟩⟩⟩) ?_
                exact hrc51 x5 x6 x7 y7 (x9 + (1 : Int32)) A12 _ _ hf
          · have hf := a_be hb hf
            refine v_ie hb ?_
            obtain ⟨hg, hf⟩ := a_bif hf
            refine v_grd 6 (i' := 149) (L' := [some (.ref 22), none, none, none, none, some (.int x5), some (.int x6), some (.int x7), some (.int y7), some (.int x9), some (.int y4), none, none, none]) (st' := [(.int ((A 4) ((y7 - (1 : Int32))).toNatClampNeg)), (.int (y7 - (1 : Int32))), (.ref 27)]) (h' := (hM c A R)) (fun _ => rfl) hg ?_
            obtain ⟨y13, hy, hf⟩ := m_li_ok hf
            rw [hy]
            refine v_blk 1 (i' := (bif (a_ic .eq y13 (0 : Int32)) then 157 else 150)) (L' := [some (.ref 22), none, none, none, none, some (.int x5), some (.int x6), some (.int x7), some (.int y7), some (.int x9), some (.int y4), none, none, none]) (st' := [(.int (y7 - (1 : Int32))), (.ref 27)]) (h' := (hM c A R)) (fun _ => rfl) ?_
            rcases Bool.eq_false_or_eq_true (a_ic .eq y13 (0 : Int32)) with hb | hb
            · have hf := a_bt hb hf
              refine v_it hb ?_
              obtain ⟨hg, hf⟩ := a_bif hf
              refine v_grd 3 (i' := 175) (L' := [some (.ref 22), none, none, none, none, some (.int x5), some (.int x6), some (.int x7), some (.int y7), some (.int x9), some (.int y4), none, none, none]) (st' := []) (h' := (hM c (va_up A 4 (upd (A 4) ((y7 - (1 : Int32))).toNatClampNeg (0 : Int32))) R)) (fun _ => rfl) hg ?_
              obtain ⟨A14, hA, hf⟩ := m_st_ok hf
              rw [hA]
              refine v_blk 3 (i' := 51) (L' := [some (.ref 22), none, none, none, none, some (.int x5), some (.int x6), some (.int x7), some (.int y7), some (.int (x9 + (1 : Int32))), some (.int y4), none, none, none]) (st' := []) (h' := (hM c A14 R)) (fun _ => rfl) ?_
              refine v_weak (L' := [some (.ref 22), none, none, none, none, some (.int x5), some (.int x6), some (.int x7), some (.int y7), some (.int (x9 + (1 : Int32))), none, none, none, none]) (show a_wk [some (.ref 22), none, none, none, none, some (.int x5), some (.int x6), some (.int x7), some (.int y7), some (.int (x9 + (1 : Int32))), none, none, none, none] [some (.ref 22), none, none, none, none, some (.int x5), some (.int x6), some (.int x7), some (.int y7), some (.int (x9 + (1 : Int32))), some (.int y4), none, none, none] from ⟨rfl, ⟨(fun v hv => by cases hv), ⟨(fun v hv => by cases hv), ⟨(fun v hv => by cases hv), ⟨(fun v hv => by cases hv), ⟨rfl, ⟨rfl, ⟨rfl, ⟨rfl, ⟨rfl, ⟨(fun v hv => by cases hv; rfl), ⟨(fun v hv => by cases hv), ⟨(fun v hv => by cases hv), ⟨(fun v hv => by cases hv), trivial⟩⟩⟩⟩⟩⟩⟩⟩⟩⟩⟩⟩⟩⟩) ?_
              exact hrc51 x5 x6 x7 y7 (x9 + (1 : Int32)) A14 _ _ hf
            · have hf := a_be hb hf
              refine v_ie hb ?_
              obtain ⟨hg, hf⟩ := a_bif hf
              refine v_grd 4 (i' := 154) (L' := [some (.ref 22), none, none, none, none, some (.int x5), some (.int x6), some (.int x7), some (.int y7), some (.int x9), some (.int y4), none, none, none]) (st' := [(.int ((A 4) (y7).toNatClampNeg)), (.int (y7 - (1 : Int32))), (.ref 27)]) (h' := (hM c A R)) (fun _ => rfl) hg ?_
              obtain ⟨y15, hy, hf⟩ := m_li_ok hf
              rw [hy]
              refine v_blk 1 (i' := (bif (a_ic .eq y15 (0 : Int32)) then 157 else 155)) (L' := [some (.ref 22), none, none, none, none, some (.int x5), some (.int x6), some (.int x7), some (.int y7), some (.int x9), some (.int y4), none, none, none]) (st' := [(.int (y7 - (1 : Int32))), (.ref 27)]) (h' := (hM c A R)) (fun _ => rfl) ?_
              rcases Bool.eq_false_or_eq_true (a_ic .eq y15 (0 : Int32)) with hb | hb
              · have hf := a_bt hb hf
                refine v_it hb ?_
                obtain ⟨hg, hf⟩ := a_bif hf
                refine v_grd 3 (i' := 175) (L' := [some (.ref 22), none, none, none, none, some (.int x5), some (.int x6), some (.int x7), some (.int y7), some (.int x9), some (.int y4), none, none, none]) (st' := []) (h' := (hM c (va_up A 4 (upd (A 4) ((y7 - (1 : Int32))).toNatClampNeg (0 : Int32))) R)) (fun _ => rfl) hg ?_
                obtain ⟨A16, hA, hf⟩ := m_st_ok hf
                rw [hA]
                refine v_blk 3 (i' := 51) (L' := [some (.ref 22), none, none, none, none, some (.int x5), some (.int x6), some (.int x7), some (.int y7), some (.int (x9 + (1 : Int32))), some (.int y4), none, none, none]) (st' := []) (h' := (hM c A16 R)) (fun _ => rfl) ?_
                refine v_weak (L' := [some (.ref 22), none, none, none, none, some (.int x5), some (.int x6), some (.int x7), some (.int y7), some (.int (x9 + (1 : Int32))), none, none, none, none]) (show a_wk [some (.ref 22), none, none, none, none, some (.int x5), some (.int x6), some (.int x7), some (.int y7), some (.int (x9 + (1 : Int32))), none, none, none, none] [some (.ref 22), none, none, none, none, some (.int x5), some (.int x6), some (.int x7), some (.int y7), some (.int (x9 + (1 : Int32))), some (.int y4), none, none, none] from ⟨rfl, ⟨(fun v hv => by cases hv), ⟨(fun v hv => by cases hv), ⟨(fun v hv => by cases hv), ⟨(fun v hv => by cases hv), ⟨rfl, ⟨rfl, ⟨rfl, ⟨rfl, ⟨rfl, ⟨(fun v hv => by cases hv; rfl), ⟨(fun v hv => by cases hv), ⟨(fun v hv => by cases hv), ⟨(fun v hv => by cases hv), trivial⟩⟩⟩⟩⟩⟩⟩⟩⟩⟩⟩⟩⟩⟩) ?_
                exact hrc51 x5 x6 x7 y7 (x9 + (1 : Int32)) A16 _ _ hf
              · have hf := a_be hb hf
                refine v_ie hb ?_
                obtain ⟨hg, hf⟩ := a_bif hf
                refine v_grd 3 (i' := 175) (L' := [some (.ref 22), none, none, none, none, some (.int x5), some (.int x6), some (.int x7), some (.int y7), some (.int x9), some (.int y4), none, none, none]) (st' := []) (h' := (hM c (va_up A 4 (upd (A 4) ((y7 - (1 : Int32))).toNatClampNeg (1 : Int32))) R)) (fun _ => rfl) hg ?_
                obtain ⟨A17, hA, hf⟩ := m_st_ok hf
                rw [hA]
                refine v_blk 3 (i' := 51) (L' := [some (.ref 22), none, none, none, none, some (.int x5), some (.int x6), some (.int x7), some (.int y7), some (.int (x9 + (1 : Int32))), some (.int y4), none, none, none]) (st' := []) (h' := (hM c A17 R)) (fun _ => rfl) ?_
                refine v_weak (L' := [some (.ref 22), none, none, none, none, some (.int x5), some (.int x6), some (.int x7), some (.int y7), some (.int (x9 + (1 : Int32))), none, none, none, none]) (show a_wk [some (.ref 22), none, none, none, none, some (.int x5), some (.int x6), some (.int x7), some (.int y7), some (.int (x9 + (1 : Int32))), none, none, none, none] [some (.ref 22), none, none, none, none, some (.int x5), some (.int x6), some (.int x7), some (.int y7), some (.int (x9 + (1 : Int32))), some (.int y4), none, none, none] from ⟨rfl, ⟨(fun v hv => by cases hv), ⟨(fun v hv => by cases hv), ⟨(fun v hv => by cases hv), ⟨(fun v hv => by cases hv), ⟨rfl, ⟨rfl, ⟨rfl, ⟨rfl, ⟨rfl, ⟨(fun v hv => by cases hv; rfl), ⟨(fun v hv => by cases hv), ⟨(fun v hv => by cases hv), ⟨(fun v hv => by cases hv), trivial⟩⟩⟩⟩⟩⟩⟩⟩⟩⟩⟩⟩⟩⟩) ?_
                exact hrc51 x5 x6 x7 y7 (x9 + (1 : Int32)) A17 _ _ hf
      · have hf := a_be hb hf
        refine v_ie hb ?_
        obtain ⟨hg, hf⟩ := a_bif hf
        refine v_grd 11 (i' := 125) (L' := [some (.ref 22), none, none, none, none, some (.int x5), some (.int x6), some (.int x7), some (.int x8), some (.int x9), some (.int y4), none, none, none]) (st' := [(.int ((A 4) ((x8 - (1 : Int32))).toNatClampNeg)), (.int (x8 - (1 : Int32))), (.ref 27)]) (h' := (hM c A R)) (fun _ => rfl) hg ?_
        obtain ⟨y18, hy, hf⟩ := m_li_ok hf
        rw [hy]
        refine v_blk 1 (i' := (bif (a_ic .ne y18 (0 : Int32)) then 128 else 126)) (L' := [some (.ref 22), none, none, none, none, some (.int x5), some (.int x6), some (.int x7), some (.int x8), some (.int x9), some (.int y4), none, none, none]) (st' := [(.int (x8 - (1 : Int32))), (.ref 27)]) (h' := (hM c A R)) (fun _ => rfl) ?_
        rcases Bool.eq_false_or_eq_true (a_ic .ne y18 (0 : Int32)) with hb | hb
        · have hf := a_bt hb hf
          refine v_it hb ?_
          obtain ⟨hg, hf⟩ := a_bif hf
          refine v_grd 2 (i' := 130) (L' := [some (.ref 22), none, none, none, none, some (.int x5), some (.int x6), some (.int x7), some (.int x8), some (.int x9), some (.int y4), none, none, none]) (st' := []) (h' := (hM c (va_up A 4 (upd (A 4) ((x8 - (1 : Int32))).toNatClampNeg (0 : Int32))) R)) (fun _ => rfl) hg ?_
          obtain ⟨A19, hA, hf⟩ := m_st_ok hf
          rw [hA]
          refine v_blk 3 (i' := 51) (L' := [some (.ref 22), none, none, none, none, some (.int x5), some (.int x6), some (.int x7), some (.int x8), some (.int (x9 + (1 : Int32))), some (.int y4), none, none, none]) (st' := []) (h' := (hM c A19 R)) (fun _ => rfl) ?_
          refine v_weak (L' := [some (.ref 22), none, none, none, none, some (.int x5), some (.int x6), some (.int x7), some (.int x8), some (.int (x9 + (1 : Int32))), none, none, none, none]) (show a_wk [some (.ref 22), none, none, none, none, some (.int x5), some (.int x6), some (.int x7), some (.int x8), some (.int (x9 + (1 : Int32))), none, none, none, none] [some (.ref 22), none, none, none, none, some (.int x5), some (.int x6), some (.int x7), some (.int x8), some (.int (x9 + (1 : Int32))), some (.int y4), none, none, none] from ⟨rfl, ⟨(fun v hv => by cases hv), ⟨(fun v hv => by cases hv), ⟨(fun v hv => by cases hv), ⟨(fun v hv => by cases hv), ⟨rfl, ⟨rfl, ⟨rfl, ⟨rfl, ⟨rfl, ⟨(fun v hv => by cases hv; rfl), ⟨(fun v hv => by cases hv), ⟨(fun v hv => by cases hv), ⟨(fun v hv => by cases hv), trivial⟩⟩⟩⟩⟩⟩⟩⟩⟩⟩⟩⟩⟩⟩) ?_
          exact hrc51 x5 x6 x7 x8 (x9 + (1 : Int32)) A19 _ _ hf
        · have hf := a_be hb hf
          refine v_ie hb ?_
          obtain ⟨hg, hf⟩ := a_bif hf
          refine v_grd 3 (i' := 130) (L' := [some (.ref 22), none, none, none, none, some (.int x5), some (.int x6), some (.int x7), some (.int x8), some (.int x9), some (.int y4), none, none, none]) (st' := []) (h' := (hM c (va_up A 4 (upd (A 4) ((x8 - (1 : Int32))).toNatClampNeg (1 : Int32))) R)) (fun _ => rfl) hg ?_
          obtain ⟨A20, hA, hf⟩ := m_st_ok hf
          rw [hA]
          refine v_blk 3 (i' := 51) (L' := [some (.ref 22), none, none, none, none, some (.int x5), some (.int x6), some (.int x7), some (.int x8), some (.int (x9 + (1 : Int32))), some (.int y4), none, none, none]) (st' := []) (h' := (hM c A20 R)) (fun _ => rfl) ?_
          refine v_weak (L' := [some (.ref 22), none, none, none, none, some (.int x5), some (.int x6), some (.int x7), some (.int x8), some (.int (x9 + (1 : Int32))), none, none, none, none]) (show a_wk [some (.ref 22), none, none, none, none, some (.int x5), some (.int x6), some (.int x7), some (.int x8), some (.int (x9 + (1 : Int32))), none, none, none, none] [some (.ref 22), none, none, none, none, some (.int x5), some (.int x6), some (.int x7), some (.int x8), some (.int (x9 + (1 : Int32))), some (.int y4), none, none, none] from ⟨rfl, ⟨(fun v hv => by cases hv), ⟨(fun v hv => by cases hv), ⟨(fun v hv => by cases hv), ⟨(fun v hv => by cases hv), ⟨rfl, ⟨rfl, ⟨rfl, ⟨rfl, ⟨rfl, ⟨(fun v hv => by cases hv; rfl), ⟨(fun v hv => by cases hv), ⟨(fun v hv => by cases hv), ⟨(fun v hv => by cases hv), trivial⟩⟩⟩⟩⟩⟩⟩⟩⟩⟩⟩⟩⟩⟩) ?_
          exact hrc51 x5 x6 x7 x8 (x9 + (1 : Int32)) A20 _ _ hf
    · have hf := a_be hb hf
      refine v_ie hb ?_
      refine v_blk 5 (i' := 68) (L' := [some (.ref 22), none, none, none, none, some (.int x5), some (.int x6), some (.int x7), some (.int x8), some (.int x9), some (.int y4), none, none, none]) (st' := [(.int (y4 - y4 / (8 : Int32) * (8 : Int32))), (.ref 26)]) (h' := (hM c A R)) (fun _ => rfl) ?_
      obtain ⟨y21, hy, hf⟩ := m_li_ok hf
      rw [hy]
      obtain ⟨hg, hf⟩ := a_bif hf
      refine v_grd 1 (i' := 69) (L' := [some (.ref 22), none, none, none, none, some (.int x5), some (.int x6), some (.int x7), some (.int x8), some (.int x9), some (.int y4), none, none, none]) (st' := [(.int ((A 3) (y21).toNatClampNeg))]) (h' := (hM c A R)) (fun _ => rfl) hg ?_
      obtain ⟨y22, hy, hf⟩ := m_li_ok hf
      rw [hy]
      refine v_blk 4 (i' := 73) (L' := [some (.ref 22), none, none, none, none, some (.int x5), some (.int x6), some (.int x7), some (.int x8), some (.int x9), some (.int y4), some (.int y22), none, none]) (st' := [(.int (y4 / (8 : Int32)))]) (h' := (hM c A R)) (fun _ => rfl) ?_
      obtain ⟨y23, hy, hf⟩ := m_li_ok hf
      rw [hy]
      refine v_blk 2 (i' := 75) (L' := [some (.ref 22), none, none, none, none, some (.int x5), some (.int x6), some (.int x7), some (.int x8), some (.int x9), some (.int y4), some (.int y22), none, none]) (st' := [(.int (y23 - y23 / (4 : Int32) * (4 : Int32)))]) (h' := (hM c A R)) (fun _ => rfl) ?_
      obtain ⟨y24, hy, hf⟩ := m_li_ok hf
      rw [hy]
      refine v_blk 4 (i' := 79) (L' := [some (.ref 22), none, none, none, none, some (.int x5), some (.int x6), some (.int x7), some (.int x8), some (.int x9), some (.int y4), some (.int y22), some (.int y24), none]) (st' := [(.int (y4 / (32 : Int32)))]) (h' := (hM c A R)) (fun _ => rfl) ?_
      obtain ⟨y25, hy, hf⟩ := m_li_ok hf
      rw [hy]
      refine v_blk 6 (i' := (bif (a_ic .ne y24 (0 : Int32)) then 92 else 85)) (L' := [some (.ref 22), none, none, none, none, some (.int x5), some (.int x6), some (.int x7), some (.int x8), some (.int x9), some (.int y4), some (.int y22), some (.int y24), some (.int y25)]) (st' := [(.int x8), (.ref 27)]) (h' := (hM c A R)) (fun _ => rfl) ?_
      rcases Bool.eq_false_or_eq_true (a_ic .ne y24 (0 : Int32)) with hb | hb
      · have hf := a_bt hb hf
        refine v_it hb ?_
        refine v_blk 3 (i' := (bif (a_ic .ne y24 (1 : Int32)) then 102 else 95)) (L' := [some (.ref 22), none, none, none, none, some (.int x5), some (.int x6), some (.int x7), some (.int x8), some (.int x9), some (.int y4), some (.int y22), some (.int y24), some (.int y25)]) (st' := [(.int x8), (.ref 27)]) (h' := (hM c A R)) (fun _ => rfl) ?_
        rcases Bool.eq_false_or_eq_true (a_ic .ne y24 (1 : Int32)) with hb | hb
        · have hf := a_bt hb hf
          refine v_it hb ?_
          refine v_blk 3 (i' := (bif (a_ic .le y22 y25) then 107 else 105)) (L' := [some (.ref 22), none, none, none, none, some (.int x5), some (.int x6), some (.int x7), some (.int x8), some (.int x9), some (.int y4), some (.int y22), some (.int y24), some (.int y25)]) (st' := [(.int x8), (.ref 27)]) (h' := (hM c A R)) (fun _ => rfl) ?_
          rcases Bool.eq_false_or_eq_true (a_ic .le y22 y25) with hb | hb
          · have hf := a_bt hb hf
            refine v_it hb ?_
            obtain ⟨hg, hf⟩ := a_bif hf
            refine v_grd 2 (i' := 109) (L' := [some (.ref 22), none, none, none, none, some (.int x5), some (.int x6), some (.int x7), some (.int x8), some (.int x9), some (.int y4), some (.int y22), some (.int y24), some (.int y25)]) (st' := []) (h' := (hM c (va_up A 4 (upd (A 4) (x8).toNatClampNeg (0 : Int32))) R)) (fun _ => rfl) hg ?_
            obtain ⟨A26, hA, hf⟩ := m_st_ok hf
            rw [hA]
            refine v_blk 4 (i' := 51) (L' := [some (.ref 22), none, none, none, none, some (.int x5), some (.int x6), some (.int x7), some (.int (x8 + (1 : Int32))), some (.int (x9 + (1 : Int32))), some (.int y4), some (.int y22), some (.int y24), some (.int y25)]) (st' := []) (h' := (hM c A26 R)) (fun _ => rfl) ?_
            refine v_weak (L' := [some (.ref 22), none, none, none, none, some (.int x5), some (.int x6), some (.int x7), some (.int (x8 + (1 : Int32))), some (.int (x9 + (1 : Int32))), none, none, none, none]) (show a_wk [some (.ref 22), none, none, none, none, some (.int x5), some (.int x6), some (.int x7), some (.int (x8 + (1 : Int32))), some (.int (x9 + (1 : Int32))), none, none, none, none] [some (.ref 22), none, none, none, none, some (.int x5), some (.int x6), some (.int x7), some (.int (x8 + (1 : Int32))), some (.int (x9 + (1 : Int32))), some (.int y4), some (.int y22), some (.int y24), some (.int y25)] from ⟨rfl, ⟨(fun v hv => by cases hv), ⟨(fun v hv => by cases hv), ⟨(fun v hv => by cases hv), ⟨(fun v hv => by cases hv), ⟨rfl, ⟨rfl, ⟨rfl, ⟨rfl, ⟨rfl, ⟨(fun v hv => by cases hv; rfl), ⟨(fun v hv => by cases hv; rfl), ⟨(fun v hv => by cases hv; rfl), ⟨(fun v hv => by cases hv; rfl), trivial⟩⟩⟩⟩⟩⟩⟩⟩⟩⟩⟩⟩⟩⟩) ?_
            exact hrc51 x5 x6 x7 (x8 + (1 : Int32)) (x9 + (1 : Int32)) A26 _ _ hf
          · have hf := a_be hb hf
            refine v_ie hb ?_
            obtain ⟨hg, hf⟩ := a_bif hf
            refine v_grd 3 (i' := 109) (L' := [some (.ref 22), none, none, none, none, some (.int x5), some (.int x6), some (.int x7), some (.int x8), some (.int x9), some (.int y4), some (.int y22), some (.int y24), some (.int y25)]) (st' := []) (h' := (hM c (va_up A 4 (upd (A 4) (x8).toNatClampNeg (1 : Int32))) R)) (fun _ => rfl) hg ?_
            obtain ⟨A27, hA, hf⟩ := m_st_ok hf
            rw [hA]
            refine v_blk 4 (i' := 51) (L' := [some (.ref 22), none, none, none, none, some (.int x5), some (.int x6), some (.int x7), some (.int (x8 + (1 : Int32))), some (.int (x9 + (1 : Int32))), some (.int y4), some (.int y22), some (.int y24), some (.int y25)]) (st' := []) (h' := (hM c A27 R)) (fun _ => rfl) ?_
            refine v_weak (L' := [some (.ref 22), none, none, none, none, some (.int x5), some (.int x6), some (.int x7), some (.int (x8 + (1 : Int32))), some (.int (x9 + (1 : Int32))), none, none, none, none]) (show a_wk [some (.ref 22), none, none, none, none, some (.int x5), some (.int x6), some (.int x7), some (.int (x8 + (1 : Int32))), some (.int (x9 + (1 : Int32))), none, none, none, none] [some (.ref 22), none, none, none, none, some (.int x5), some (.int x6), some (.int x7), some (.int (x8 + (1 : Int32))), some (.int (x9 + (1 : Int32))), some (.int y4), some (.int y22), some (.int y24), some (.int y25)] from ⟨rfl, ⟨(fun v hv => by cases hv), ⟨(fun v hv => by cases hv), ⟨(fun v hv => by cases hv), ⟨(fun v hv => by cases hv), ⟨rfl, ⟨rfl, ⟨rfl, ⟨rfl, ⟨rfl, ⟨(fun v hv => by cases hv; rfl), ⟨(fun v hv => by cases hv; rfl), ⟨(fun v hv => by cases hv; rfl), ⟨(fun v hv => by cases hv; rfl), trivial⟩⟩⟩⟩⟩⟩⟩⟩⟩⟩⟩⟩⟩⟩) ?_
            exact hrc51 x5 x6 x7 (x8 + (1 : Int32)) (x9 + (1 : Int32)) A27 _ _ hf
        · have hf := a_be hb hf
          refine v_ie hb ?_
          refine v_blk 3 (i' := (bif (a_ic .ne y22 y25) then 100 else 98)) (L' := [some (.ref 22), none, none, none, none, some (.int x5), some (.int x6), some (.int x7), some (.int x8), some (.int x9), some (.int y4), some (.int y22), some (.int y24), some (.int y25)]) (st' := [(.int x8), (.ref 27)]) (h' := (hM c A R)) (fun _ => rfl) ?_
          rcases Bool.eq_false_or_eq_true (a_ic .ne y22 y25) with hb | hb
          · have hf := a_bt hb hf
            refine v_it hb ?_
            obtain ⟨hg, hf⟩ := a_bif hf
            refine v_grd 3 (i' := 109) (L' := [some (.ref 22), none, none, none, none, some (.int x5), some (.int x6), some (.int x7), some (.int x8), some (.int x9), some (.int y4), some (.int y22), some (.int y24), some (.int y25)]) (st' := []) (h' := (hM c (va_up A 4 (upd (A 4) (x8).toNatClampNeg (0 : Int32))) R)) (fun _ => rfl) hg ?_
            obtain ⟨A28, hA, hf⟩ := m_st_ok hf
            rw [hA]
            refine v_blk 4 (i' := 51) (L' := [some (.ref 22), none, none, none, none, some (.int x5), some (.int x6), some (.int x7), some (.int (x8 + (1 : Int32))), some (.int (x9 + (1 : Int32))), some (.int y4), some (.int y22), some (.int y24), some (.int y25)]) (st' := []) (h' := (hM c A28 R)) (fun _ => rfl) ?_
            refine v_weak (L' := [some (.ref 22), none, none, none, none, some (.int x5), some (.int x6), some (.int x7), some (.int (x8 + (1 : Int32))), some (.int (x9 + (1 : Int32))), none, none, none, none]) (show a_wk [some (.ref 22), none, none, none, none, some (.int x5), some (.int x6), some (.int x7), some (.int (x8 + (1 : Int32))), some (.int (x9 + (1 : Int32))), none, none, none, none] [some (.ref 22), none, none, none, none, some (.int x5), some (.int x6), some (.int x7), some (.int (x8 + (1 : Int32))), some (.int (x9 + (1 : Int32))), some (.int y4), some (.int y22), some (.int y24), some (.int y25)] from ⟨rfl, ⟨(fun v hv => by cases hv), ⟨(fun v hv => by cases hv), ⟨(fun v hv => by cases hv), ⟨(fun v hv => by cases hv), ⟨rfl, ⟨rfl, ⟨rfl, ⟨rfl, ⟨rfl, ⟨(fun v hv => by cases hv; rfl), ⟨(fun v hv => by cases hv; rfl), ⟨(fun v hv => by cases hv; rfl), ⟨(fun v hv => by cases hv; rfl), trivial⟩⟩⟩⟩⟩⟩⟩⟩⟩⟩⟩⟩⟩⟩) ?_
            exact hrc51 x5 x6 x7 (x8 + (1 : Int32)) (x9 + (1 : Int32)) A28 _ _ hf
          · have hf := a_be hb hf
            refine v_ie hb ?_
            obtain ⟨hg, hf⟩ := a_bif hf
            refine v_grd 3 (i' := 109) (L' := [some (.ref 22), none, none, none, none, some (.int x5), some (.int x6), some (.int x7), some (.int x8), some (.int x9), some (.int y4), some (.int y22), some (.int y24), some (.int y25)]) (st' := []) (h' := (hM c (va_up A 4 (upd (A 4) (x8).toNatClampNeg (1 : Int32))) R)) (fun _ => rfl) hg ?_
            obtain ⟨A29, hA, hf⟩ := m_st_ok hf
            rw [hA]
            refine v_blk 4 (i' := 51) (L' := [some (.ref 22), none, none, none, none, some (.int x5), some (.int x6), some (.int x7), some (.int (x8 + (1 : Int32))), some (.int (x9 + (1 : Int32))), some (.int y4), some (.int y22), some (.int y24), some (.int y25)]) (st' := []) (h' := (hM c A29 R)) (fun _ => rfl) ?_
            refine v_weak (L' := [some (.ref 22), none, none, none, none, some (.int x5), some (.int x6), some (.int x7), some (.int (x8 + (1 : Int32))), some (.int (x9 + (1 : Int32))), none, none, none, none]) (show a_wk [some (.ref 22), none, none, none, none, some (.int x5), some (.int x6), some (.int x7), some (.int (x8 + (1 : Int32))), some (.int (x9 + (1 : Int32))), none, none, none, none] [some (.ref 22), none, none, none, none, some (.int x5), some (.int x6), some (.int x7), some (.int (x8 + (1 : Int32))), some (.int (x9 + (1 : Int32))), some (.int y4), some (.int y22), some (.int y24), some (.int y25)] from ⟨rfl, ⟨(fun v hv => by cases hv), ⟨(fun v hv => by cases hv), ⟨(fun v hv => by cases hv), ⟨(fun v hv => by cases hv), ⟨rfl, ⟨rfl, ⟨rfl, ⟨rfl, ⟨rfl, ⟨(fun v hv => by cases hv; rfl), ⟨(fun v hv => by cases hv; rfl), ⟨(fun v hv => by cases hv; rfl), ⟨(fun v hv => by cases hv; rfl), trivial⟩⟩⟩⟩⟩⟩⟩⟩⟩⟩⟩⟩⟩⟩) ?_
            exact hrc51 x5 x6 x7 (x8 + (1 : Int32)) (x9 + (1 : Int32)) A29 _ _ hf
      · have hf := a_be hb hf
        refine v_ie hb ?_
        refine v_blk 3 (i' := (bif (a_ic .ge y22 y25) then 90 else 88)) (L' := [some (.ref 22), none, none, none, none, some (.int x5), some (.int x6), some (.int x7), some (.int x8), some (.int x9), some (.int y4), some (.int y22), some (.int y24), some (.int y25)]) (st' := [(.int x8), (.ref 27)]) (h' := (hM c A R)) (fun _ => rfl) ?_
        rcases Bool.eq_false_or_eq_true (a_ic .ge y22 y25) with hb | hb
        · have hf := a_bt hb hf
          refine v_it hb ?_
          obtain ⟨hg, hf⟩ := a_bif hf
          refine v_grd 3 (i' := 109) (L' := [some (.ref 22), none, none, none, none, some (.int x5), some (.int x6), some (.int x7), some (.int x8), some (.int x9), some (.int y4), some (.int y22), some (.int y24), some (.int y25)]) (st' := []) (h' := (hM c (va_up A 4 (upd (A 4) (x8).toNatClampNeg (0 : Int32))) R)) (fun _ => rfl) hg ?_
          obtain ⟨A30, hA, hf⟩ := m_st_ok hf
          rw [hA]
          refine v_blk 4 (i' := 51) (L' := [some (.ref 22), none, none, none, none, some (.int x5), some (.int x6), some (.int x7), some (.int (x8 + (1 : Int32))), some (.int (x9 + (1 : Int32))), some (.int y4), some (.int y22), some (.int y24), some (.int y25)]) (st' := []) (h' := (hM c A30 R)) (fun _ => rfl) ?_
          refine v_weak (L' := [some (.ref 22), none, none, none, none, some (.int x5), some (.int x6), some (.int x7), some (.int (x8 + (1 : Int32))), some (.int (x9 + (1 : Int32))), none, none, none, none]) (show a_wk [some (.ref 22), none, none, none, none, some (.int x5), some (.int x6), some (.int x7), some (.int (x8 + (1 : Int32))), some (.int (x9 + (1 : Int32))), none, none, none, none] [some (.ref 22), none, none, none, none, some (.int x5), some (.int x6), some (.int x7), some (.int (x8 + (1 : Int32))), some (.int (x9 + (1 : Int32))), some (.int y4), some (.int y22), some (.int y24), some (.int y25)] from ⟨rfl, ⟨(fun v hv => by cases hv), ⟨(fun v hv => by cases hv), ⟨(fun v hv => by cases hv), ⟨(fun v hv => by cases hv), ⟨rfl, ⟨rfl, ⟨rfl, ⟨rfl, ⟨rfl, ⟨(fun v hv => by cases hv; rfl), ⟨(fun v hv => by cases hv; rfl), ⟨(fun v hv => by cases hv; rfl), ⟨(fun v hv => by cases hv; rfl), trivial⟩⟩⟩⟩⟩⟩⟩⟩⟩⟩⟩⟩⟩⟩) ?_
          exact hrc51 x5 x6 x7 (x8 + (1 : Int32)) (x9 + (1 : Int32)) A30 _ _ hf
        · have hf := a_be hb hf
          refine v_ie hb ?_
          obtain ⟨hg, hf⟩ := a_bif hf
          refine v_grd 3 (i' := 109) (L' := [some (.ref 22), none, none, none, none, some (.int x5), some (.int x6), some (.int x7), some (.int x8), some (.int x9), some (.int y4), some (.int y22), some (.int y24), some (.int y25)]) (st' := []) (h' := (hM c (va_up A 4 (upd (A 4) (x8).toNatClampNeg (1 : Int32))) R)) (fun _ => rfl) hg ?_
          obtain ⟨A31, hA, hf⟩ := m_st_ok hf
          rw [hA]
          refine v_blk 4 (i' := 51) (L' := [some (.ref 22), none, none, none, none, some (.int x5), some (.int x6), some (.int x7), some (.int (x8 + (1 : Int32))), some (.int (x9 + (1 : Int32))), some (.int y4), some (.int y22), some (.int y24), some (.int y25)]) (st' := []) (h' := (hM c A31 R)) (fun _ => rfl) ?_
          refine v_weak (L' := [some (.ref 22), none, none, none, none, some (.int x5), some (.int x6), some (.int x7), some (.int (x8 + (1 : Int32))), some (.int (x9 + (1 : Int32))), none, none, none, none]) (show a_wk [some (.ref 22), none, none, none, none, some (.int x5), some (.int x6), some (.int x7), some (.int (x8 + (1 : Int32))), some (.int (x9 + (1 : Int32))), none, none, none, none] [some (.ref 22), none, none, none, none, some (.int x5), some (.int x6), some (.int x7), some (.int (x8 + (1 : Int32))), some (.int (x9 + (1 : Int32))), some (.int y4), some (.int y22), some (.int y24), some (.int y25)] from ⟨rfl, ⟨(fun v hv => by cases hv), ⟨(fun v hv => by cases hv), ⟨(fun v hv => by cases hv), ⟨(fun v hv => by cases hv), ⟨rfl, ⟨rfl, ⟨rfl, ⟨rfl, ⟨rfl, ⟨(fun v hv => by cases hv; rfl), ⟨(fun v hv => by cases hv; rfl), ⟨(fun v hv => by cases hv; rfl), ⟨(fun v hv => by cases hv; rfl), trivial⟩⟩⟩⟩⟩⟩⟩⟩⟩⟩⟩⟩⟩⟩) ?_
          exact hrc51 x5 x6 x7 (x8 + (1 : Int32)) (x9 + (1 : Int32)) A31 _ _ hf
theorem gt_133_51 {fz : Value} {sc : Nat × (Nat → Int32)} (hfz : fz = .null ∨ fz = .retAddr 60) (N : Nat) (c : Nat → aC) (R : List aC) (d : Nat) (hd : 1 ≤ d) : ∀ (n : Nat) (x5 : Int32) (x6 : Int32) (x7 : Int32) (x8 : Int32) (x9 : Int32) (A : mS) (r : Int32) (A' : mS) (hf : g_133_51 N n x5 x6 x7 x8 x9 A = some (r, A')), v_V fz sc d 133 51 [some (.ref 22), none, none, none, none, some (.int x5), some (.int x6), some (.int x7), some (.int x8), some (.int x9), none, none, none, none] [] (hM c A R) (fun rv h' => rv = some (.int r) ∧ h' = hM c A' R) := by
  intro n
  induction n with
  | zero => intro x5 x6 x7 x8 x9 A r A' hf; cases hf
  | succ n ih =>
    intro x5 x6 x7 x8 x9 A r A' hf
    exact gt_133_51b hfz N c R d hd (g_133_51 N n) ih x5 x6 x7 x8 x9 A r A' hf
set_option maxRecDepth 100000 in
set_option maxHeartbeats 4000000 in
theorem gt_133 {fz : Value} {sc : Nat × (Nat → Int32)} (hfz : fz = .null ∨ fz = .retAddr 60) (N : Nat) (c : Nat → aC) (R : List aC) (d : Nat) (hd : 1 ≤ d) (x1 : Int32) (x2 : Int32) (x3 : Int32) (x4 : Int32) (A : mS) (r : Int32) (A' : mS) (hf : g_133 N x1 x2 x3 x4 A = some (r, A')) : v_V fz sc d 133 0 [some (.ref 22), some (.int x1), some (.int x2), some (.int x3), some (.int x4), none, none, none, none, none, none, none, none, none] [] (hM c A R) (fun rv h' => rv = some (.int r) ∧ h' = hM c A' R) := by
  unfold g_133 at hf
  obtain ⟨d, rfl⟩ : ∃ z, d = z + 1 := ⟨d - 1, by omega⟩
  refine v_blk 16 (i' := 16) (L' := [some (.ref 22), some (.int x1), some (.int x2), some (.int x3), some (.int x4), none, none, none, none, none, none, none, none, none]) (st' := [(.int (x4 - x4 / (7 : Int32) * (7 : Int32))), (.int (2 : Int32)), (.ref 26)]) (h' := (hM c (va_up A 3 (upd (upd (A 3) 0 x2) 1 x3)) R)) (fun _ => rfl) ?_
  obtain ⟨y1, hy, hf⟩ := m_li_ok hf
  rw [hy]
  obtain ⟨hg, hf⟩ := a_bif hf
  refine v_grd 15 (i' := 31) (L' := [some (.ref 22), some (.int x1), some (.int x2), some (.int x3), some (.int x4), none, none, none, none, none, none, none, none, none]) (st' := [(.int ((A 0) (((140 : Int32) + x1)).toNatClampNeg)), (.int (4 : Int32)), (.ref 26)]) (h' := (hM c (va_up A 3 (upd (upd (upd (upd (A 3) 0 x2) 1 x3) 2 y1) 3 x1)) R)) (fun _ => rfl) hg ?_
  obtain ⟨A2, hA, hf⟩ := m_st_ok hf
  rw [hA]
  obtain ⟨r3, A3, hc, hf⟩ := m_bd_ok hf
  refine v_call 6 (k' := 132) (i' := 37) (E := [some (.ref 22), some (.int (242 : Int32))]) (L' := [some (.ref 22), some (.int x1), some (.int x2), some (.int x3), some (.int x4), some (.int (0 : Int32)), none, none, none, none, none, none, none, none]) (rest := []) (h1 := (hM c (va_up A2 3 (upd (A2 3) 4 ((A 0) (((140 : Int32) + x1)).toNatClampNeg))) R)) (fun _ => rfl) ?_
  refine v_post (gt_132 hfz N c R d (by omega) (242 : Int32) (va_up A2 3 (upd (A2 3) 4 ((A 0) (((140 : Int32) + x1)).toNatClampNeg))) _ _ hc) ?_
  rintro rv h' ⟨rfl, rfl⟩
  refine v_blk 14 (i' := 51) (L' := [some (.ref 22), some (.int x1), some (.int x2), some (.int x3), some (.int x4), some (.int (0 : Int32)), some (.int r3), some (.int ((247 : Int32) + ((140 : Int32) * ((A3 0) 17)))), some (.int (0 : Int32)), some (.int ((247 : Int32) + ((140 : Int32) * ((A3 0) 17)))), none, none, none, none]) (st' := []) (h' := (hM c A3 R)) (fun _ => rfl) ?_
  refine v_weak (L' := [some (.ref 22), none, none, none, none, some (.int (0 : Int32)), some (.int r3), some (.int ((247 : Int32) + ((140 : Int32) * ((A3 0) 17)))), some (.int (0 : Int32)), some (.int ((247 : Int32) + ((140 : Int32) * ((A3 0) 17)))), none, none, none, none]) (show a_wk [some (.ref 22), none, none, none, none, some (.int (0 : Int32)), some (.int r3), some (.int ((247 : Int32) + ((140 : Int32) * ((A3 0) 17)))), some (.int (0 : Int32)), some (.int ((247 : Int32) + ((140 : Int32) * ((A3 0) 17)))), none, none, none, none] [some (.ref 22), some (.int x1), some (.int x2), some (.int x3), some (.int x4), some (.int (0 : Int32)), some (.int r3), some (.int ((247 : Int32) + ((140 : Int32) * ((A3 0) 17)))), some (.int (0 : Int32)), some (.int ((247 : Int32) + ((140 : Int32) * ((A3 0) 17)))), none, none, none, none] from ⟨rfl, ⟨(fun v hv => by cases hv; rfl), ⟨(fun v hv => by cases hv; rfl), ⟨(fun v hv => by cases hv; rfl), ⟨(fun v hv => by cases hv; rfl), ⟨rfl, ⟨rfl, ⟨rfl, ⟨rfl, ⟨rfl, ⟨(fun v hv => by cases hv), ⟨(fun v hv => by cases hv), ⟨(fun v hv => by cases hv), ⟨(fun v hv => by cases hv), trivial⟩⟩⟩⟩⟩⟩⟩⟩⟩⟩⟩⟩⟩⟩) ?_
  exact gt_133_51 hfz N c R (d + 1) hd N (0 : Int32) r3 ((247 : Int32) + ((140 : Int32) * ((A3 0) 17))) (0 : Int32) ((247 : Int32) + ((140 : Int32) * ((A3 0) 17))) A3 _ _ hf
set_option maxRecDepth 100000 in
set_option maxHeartbeats 4000000 in
theorem gt_134 {fz : Value} {sc : Nat × (Nat → Int32)} (hfz : fz = .null ∨ fz = .retAddr 60) (N : Nat) (c : Nat → aC) (R : List aC) (d : Nat) (hd : 2 ≤ d) (x1 : Int32) (x2 : Int32) (A : mS) (r : Int32) (A' : mS) (hf : g_134 N x1 x2 A = some (r, A')) : v_V fz sc d 134 0 [some (.ref 22), some (.int x1), some (.int x2)] [] (hM c A R) (fun rv h' => rv = some (.int r) ∧ h' = hM c A' R) := by
  unfold g_134 at hf
  obtain ⟨d, rfl⟩ : ∃ z, d = z + 1 := ⟨d - 1, by omega⟩
  obtain ⟨r1, A1, hc, hf⟩ := m_bd_ok hf
  refine v_call 12 (k' := 133) (i' := 12) (E := [some (.ref 22), some (.int x1), some (.int x2), some (.int ((A 0) 1)), some (.int ((A 0) 0)), none, none, none, none, none, none, none, none, none]) (L' := [some (.ref 22), some (.int x1), some (.int x2)]) (rest := []) (h1 := (hM c A R)) (fun _ => rfl) ?_
  refine v_post (gt_133 hfz N c R d (by omega) x1 x2 ((A 0) 1) ((A 0) 0) A _ _ hc) ?_
  rintro rv h' ⟨rfl, rfl⟩
  obtain ⟨rfl, rfl⟩ := m_rt hf
  exact v_ret 1 (fun _ => rfl) ⟨rfl, rfl⟩
set_option maxRecDepth 100000 in
set_option maxHeartbeats 4000000 in
theorem gt_135_4b {fz : Value} {sc : Nat × (Nat → Int32)} (hfz : fz = .null ∨ fz = .retAddr 60) (N : Nat) (c : Nat → aC) (R : List aC) (d : Nat) (hd : 2 ≤ d) (rc4 : Int32 → Int32 → Int32 → Int32 → Int32 → mS → Option (Int32 × mS)) (hrc4 : ∀ (x1 : Int32) (x2 : Int32) (x3 : Int32) (x4 : Int32) (x5 : Int32) (A : mS) (r : Int32) (A' : mS), rc4 x1 x2 x3 x4 x5 A = some (r, A') → v_V fz sc d 135 4 [some (.ref 22), some (.int x1), some (.int x2), some (.int x3), some (.int x4), some (.int x5)] [] (hM c A R) (fun rv h' => rv = some (.int r) ∧ h' = hM c A' R)) (x1 : Int32) (x2 : Int32) (x3 : Int32) (x4 : Int32) (x5 : Int32) (A : mS) (r : Int32) (A' : mS) (hf : g_135_4b N rc4 x1 x2 x3 x4 x5 A = some (r, A')) : v_V fz sc d 135 4 [some (.ref 22), some (.int x1), some (.int x2), some (.int x3), some (.int x4), some (.int x5)] [] (hM c A R) (fun rv h' => rv = some (.int r) ∧ h' = hM c A' R) := by
  unfold g_135_4b at hf
  obtain ⟨d, rfl⟩ : ∃ z, d = z + 1 := ⟨d - 1, by omega⟩
  refine v_blk 6 (i' := (bif (a_ic .ge x5 ((A 0) 11)) then 21 else 10)) (L' := [some (.ref 22), some (.int x1), some (.int x2), some (.int x3), some (.int x4), some (.int x5)]) (st' := []) (h' := (hM c A R)) (fun _ => rfl) ?_
  rcases Bool.eq_false_or_eq_true (a_ic .ge x5 ((A 0) 11)) with hb | hb
  · have hf := a_bt hb hf
    refine v_it hb ?_
    obtain ⟨rfl, rfl⟩ := m_rt hf
    exact v_ret 2 (fun _ => rfl) ⟨rfl, rfl⟩
  · have hf := a_be hb hf
    refine v_ie hb ?_
    obtain ⟨r1, A1, hc, hf⟩ := m_bd_ok hf
    refine v_call 7 (k' := 133) (i' := 17) (E := [some (.ref 22), some (.int x5), some (.int x1), some (.int x2), some (.int x3), none, none, none, none, none, none, none, none, none]) (L' := [some (.ref 22), some (.int x1), some (.int x2), some (.int x3), some (.int x4), some (.int x5)]) (rest := [(.int x4)]) (h1 := (hM c A R)) (fun _ => rfl) ?_
    refine v_post (gt_133 hfz N c R d (by omega) x5 x1 x2 x3 A _ _ hc) ?_
    rintro rv h' ⟨rfl, rfl⟩
    refine v_blk 4 (i' := 4) (L' := [some (.ref 22), some (.int x1), some (.int x2), some (.int x3), some (.int (x4 + r1)), some (.int (x5 + (1 : Int32)))]) (st' := []) (h' := (hM c A1 R)) (fun _ => rfl) ?_
    exact hrc4 x1 x2 x3 (x4 + r1) (x5 + (1 : Int32)) A1 _ _ hf
theorem gt_135_4 {fz : Value} {sc : Nat × (Nat → Int32)} (hfz : fz = .null ∨ fz = .retAddr 60) (N : Nat) (c : Nat → aC) (R : List aC) (d : Nat) (hd : 2 ≤ d) : ∀ (n : Nat) (x1 : Int32) (x2 : Int32) (x3 : Int32) (x4 : Int32) (x5 : Int32) (A : mS) (r : Int32) (A' : mS) (hf : g_135_4 N n x1 x2 x3 x4 x5 A = some (r, A')), v_V fz sc d 135 4 [some (.ref 22), some (.int x1), some (.int x2), some (.int x3), some (.int x4), some (.int x5)] [] (hM c A R) (fun rv h' => rv = some (.int r) ∧ h' = hM c A' R) := by
  intro n
  induction n with
  | zero => intro x1 x2 x3 x4 x5 A r A' hf; cases hf
  | succ n ih =>
    intro x1 x2 x3 x4 x5 A r A' hf
    exact gt_135_4b hfz N c R d hd (g_135_4 N n) ih x1 x2 x3 x4 x5 A r A' hf
set_option maxRecDepth 100000 in
set_option maxHeartbeats 4000000 in
theorem gt_135 {fz : Value} {sc : Nat × (Nat → Int32)} (hfz : fz = .null ∨ fz = .retAddr 60) (N : Nat) (c : Nat → aC) (R : List aC) (d : Nat) (hd : 2 ≤ d) (x1 : Int32) (x2 : Int32) (x3 : Int32) (A : mS) (r : Int32) (A' : mS) (hf : g_135 N x1 x2 x3 A = some (r, A')) : v_V fz sc d 135 0 [some (.ref 22), some (.int x1), some (.int x2), some (.int x3), none, none] [] (hM c A R) (fun rv h' => rv = some (.int r) ∧ h' = hM c A' R) := by
  unfold g_135 at hf
  obtain ⟨d, rfl⟩ : ∃ z, d = z + 1 := ⟨d - 1, by omega⟩
  refine v_blk 4 (i' := 4) (L' := [some (.ref 22), some (.int x1), some (.int x2), some (.int x3), some (.int (0 : Int32)), some (.int (0 : Int32))]) (st' := []) (h' := (hM c A R)) (fun _ => rfl) ?_
  exact gt_135_4 hfz N c R (d + 1) hd N x1 x2 x3 (0 : Int32) (0 : Int32) A _ _ hf
end
