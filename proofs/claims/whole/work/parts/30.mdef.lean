/-! 30.mdef: the model's methods as pure functions (by program) -/
abbrev mS : Type := Nat → Nat → Int32
def m_bd {α β : Type} (o : Option (α × mS)) (f : α → mS → Option β) : Option β := match o with
  | some (r, A) => f r A
  | none => none
def m_st {β : Type} (A : mS) (f : mS → β) : β := f A
def m_li {β : Type} (x : Int32) (f : Int32 → β) : β := f x
def m_bs {β : Type} (o : Option Int32) (f : Int32 → Option β) : Option β := match o with
  | some r => f r
  | none => none
/-- a text's length, its char at j -/
def t_len (w : Nat) : Option Int32 := if w < 8 then some (Int32.ofNat (a_tx.getD w []).length) else none
def t_chr (w : Nat) (j : Int32) : Option Int32 := if w < 8 then (bif a_in j (a_tx.getD w []).length then some ((a_tx.getD w []).getD j.toNatClampNeg 0) else none) else none
/-- the heap: what lies ahead of the model's cells (c), the model's cells (arrays A 0 .. 9, fields A 99), what is made later (R) -/
def hM (c : Nat → aC) (A : mS) (R : List aC) : List aC :=
  c 0 :: c 1 :: c 2 :: c 3 :: c 4 :: c 5 :: c 6 :: c 7 :: c 8 :: c 9 :: c 10 :: c 11 :: c 12 :: c 13 :: c 14 :: c 15 :: c 16 :: c 17 :: c 18 :: c 19 :: c 20 :: c 21 ::
  .inr (12, [.int (A 99 0), .ref 23, .ref 24, .ref 25, .int (A 99 4), .int (A 99 5), .int (A 99 6), .int (A 99 7), .int (A 99 8), .int (A 99 9), .ref 26, .ref 27, .ref 28, .ref 29, .int (A 99 14), .int (A 99 15), .int (A 99 16), .int (A 99 17), .ref 30, .ref 31, .ref 32, .int (A 99 21), .int (A 99 22), .int (A 99 23), .int (A 99 24)]) ::
  .inl (0, 947, .inl (A 0)) :: .inl (0, 947, .inl (A 1)) :: .inl (0, 11, .inl (A 2)) :: .inl (0, 5, .inl (A 3)) :: .inl (1, 64, .inl (A 4)) :: .inl (0, 32, .inl (A 5)) :: .inl (0, 4, .inl (A 6)) :: .inl (0, 36, .inl (A 7)) :: .inl (0, 8, .inl (A 8)) :: .inl (0, 20, .inl (A 9)) :: R

/-- in -/
def g_112 (N : Nat) (x0 : Int32) (x1 : Int32) (x2 : Int32) (A : mS) : Option (Int32 × mS) :=
  bif (a_ic .lt x0 x1) then
    some ((0 : Int32), A)
  else
    bif (a_ic .gt x0 x2) then
      some ((0 : Int32), A)
    else
      some ((1 : Int32), A)
/-- isWeather -/
def g_113 (N : Nat) (x0 : Int32) (A : mS) : Option (Int32 × mS) :=
  m_bd (g_112 N x0 (0 : Int32) (3 : Int32) A) fun r1 A1 =>
  bif (decide (r1 = 0) || decide (r1 = 1)) then some (r1, A1) else none
/-- isPerson -/
def g_114 (N : Nat) (x1 : Int32) (A : mS) : Option (Int32 × mS) :=
  m_bd (g_112 N x1 (0 : Int32) (((A 0) 11) - (1 : Int32)) A) fun r1 A1 =>
  bif (decide (r1 = 0) || decide (r1 = 1)) then some (r1, A1) else none
def g_115_2b (N : Nat) (rc2 : Int32 → mS → Option (Int32 × mS)) (x1 : Int32) (A : mS) : Option (Int32 × mS) :=
  bif (a_ic .ge x1 (11 : Int32)) then
    some (0, A)
  else
    bif (a_in x1 947) then
    m_li ((A 0) (x1).toNatClampNeg) fun y1 =>
    bif (a_in x1 11) then
    m_st (va_up A 2 (upd (A 2) (x1).toNatClampNeg y1)) fun A2 =>
    rc2 (x1 + (1 : Int32)) A2
    else none
    else none
def g_115_2 (N : Nat) : Nat → Int32 → mS → Option (Int32 × mS)
  | 0 => fun _ _ => none
  | n + 1 => g_115_2b N (g_115_2 N n)
/-- keeps -/
def g_115 (N : Nat) (A : mS) : Option (Int32 × mS) :=
  g_115_2 N  N (0 : Int32) A
def g_116_2b (N : Nat) (rc2 : Int32 → mS → Option (Int32 × mS)) (x1 : Int32) (A : mS) : Option (Int32 × mS) :=
  bif (a_ic .ge x1 (11 : Int32)) then
    some (0, A)
  else
    bif (a_in x1 11) then
    m_li ((A 2) (x1).toNatClampNeg) fun y1 =>
    bif (a_in x1 947) then
    m_st (va_up A 0 (upd (A 0) (x1).toNatClampNeg y1)) fun A2 =>
    rc2 (x1 + (1 : Int32)) A2
    else none
    else none
def g_116_2 (N : Nat) : Nat → Int32 → mS → Option (Int32 × mS)
  | 0 => fun _ _ => none
  | n + 1 => g_116_2b N (g_116_2 N n)
/-- goesBack -/
def g_116 (N : Nat) (A : mS) : Option (Int32 × mS) :=
  g_116_2 N  N (0 : Int32) A
/-- feed -/
def g_117 (N : Nat) (x1 : Int32) (A : mS) : Option (Int32 × mS) :=
  m_bd (g_112 N x1 (0 : Int32) (127 : Int32) A) fun r1 A1 =>
  bif (a_ic .ne r1 (0 : Int32)) then
    bif (a_ic .ne ((A1 0) 16) (120 : Int32)) then
      bif (a_in ((20 : Int32) + ((A1 0) 16)) 947) then
      m_st (va_up A1 0 (upd (A1 0) (((20 : Int32) + ((A1 0) 16))).toNatClampNeg x1)) fun A2 =>
      some (((upd (A2 0) 16 (((A2 0) 16) + (1 : Int32))) 16), (va_up A2 0 (upd (A2 0) 16 (((A2 0) 16) + (1 : Int32)))))
      else none
    else
      some ((-4 : Int32), A1)
  else
    some ((-2 : Int32), A1)
/-- here -/
def g_118 (N : Nat) (A : mS) : Option (Int32 × mS) :=
  bif (a_ic .ge (A 99 6) (A 99 7)) then
    some ((-1 : Int32), A)
  else
    bif (a_in ((20 : Int32) + (A 99 6)) 947) then
    m_li ((A 0) (((20 : Int32) + (A 99 6))).toNatClampNeg) fun y1 =>
    some (y1, A)
    else none
def g_119_11 (N : Nat) (t1 : Int32) (A : mS) : Option (Int32 × mS) :=
  bif (decide (t1 = 0) || decide (t1 = 1)) then
  m_st (va_up A 99 (upd (A 99) 8 t1)) fun A2 =>
  bif (a_ic .eq (A2 99 8) (0 : Int32)) then
    some (0, (va_up A2 99 (upd (A2 99) 6 ((A2 99 6) + (1 : Int32)))))
  else
    some (0, (va_up A2 99 (upd (A2 99) 6 ((A2 99 6) + (0 : Int32)))))
  else none
def g_119_8 (N : Nat) (A : mS) : Option (Int32 × mS) :=
  g_119_11 N  (1 : Int32) A
/-- must -/
def g_119 (N : Nat) (x1 : Int32) (A : mS) : Option (Int32 × mS) :=
  bif (a_ic .ne (A 99 8) (0 : Int32)) then
    g_119_8 N   A
  else
    m_bd (g_118 N  A) fun r1 A1 =>
    bif (a_ic .eq r1 x1) then
      g_119_11 N  (0 : Int32) A1
    else
      g_119_8 N   A1
def g_120_2b (N : Nat) (rc2 : Nat → Int32 → mS → Option (Int32 × mS)) (x1 : Nat) (x2 : Int32) (A : mS) : Option (Int32 × mS) :=
  m_bs (t_len x1) fun r1 =>
  bif (a_ic .ge x2 r1) then
    some (0, A)
  else
    m_bs (t_chr x1 x2) fun r2 =>
    m_bd (g_119 N r2 A) fun r3 A3 =>
    rc2 x1 (x2 + (1 : Int32)) A3
def g_120_2 (N : Nat) : Nat → Nat → Int32 → mS → Option (Int32 × mS)
  | 0 => fun _ _ _ => none
  | n + 1 => g_120_2b N (g_120_2 N n)
/-- spells -/
def g_120 (N : Nat) (x1 : Nat) (A : mS) : Option (Int32 × mS) :=
  g_120_2 N  N x1 (0 : Int32) A
def g_121_34 (N : Nat) (rc18 : Int32 → Int32 → mS → Option (Int32 × mS)) (x1 : Int32) (x2 : Int32) (A : mS) : Option (Int32 × mS) :=
  m_bd (g_118 N  A) fun r5 A5 =>
  rc18 ((((10 : Int32) * x1) + r5) - (48 : Int32)) (x2 + (1 : Int32)) (va_up A5 99 (upd (A5 99) 6 ((A5 99 6) + (1 : Int32))))
def g_121_18b (N : Nat) (rc18 : Int32 → Int32 → mS → Option (Int32 × mS)) (x1 : Int32) (x2 : Int32) (A : mS) : Option (Int32 × mS) :=
  bif (a_ic .ge x2 (2 : Int32)) then
    some (x1, A)
  else
    bif (a_ic .ne (A 99 8) (0 : Int32)) then
      some (x1, A)
    else
      m_bd (g_118 N  A) fun r3 A3 =>
      m_bd (g_112 N r3 (48 : Int32) (57 : Int32) A3) fun r4 A4 =>
      bif (a_ic .eq r4 (0 : Int32)) then
        some (x1, A4)
      else
        bif (a_ic .eq x2 (0 : Int32)) then
          g_121_34 N rc18 x1 x2 A4
        else
          bif (a_ic .le x1 (0 : Int32)) then
            some (x1, A4)
          else
            g_121_34 N rc18 x1 x2 A4
def g_121_18 (N : Nat) : Nat → Int32 → Int32 → mS → Option (Int32 × mS)
  | 0 => fun _ _ _ => none
  | n + 1 => g_121_18b N (g_121_18 N n)
def g_121_10 (N : Nat) (A : mS) : Option (Int32 × mS) :=
  g_121_18 N  N (0 : Int32) (0 : Int32) (va_up A 99 (upd (A 99) 8 (1 : Int32)))
/-- figures -/
def g_121 (N : Nat) (A : mS) : Option (Int32 × mS) :=
  bif (a_ic .ne (A 99 8) (0 : Int32)) then
    g_121_10 N   A
  else
    m_bd (g_118 N  A) fun r1 A1 =>
    m_bd (g_112 N r1 (48 : Int32) (57 : Int32) A1) fun r2 A2 =>
    bif (a_ic .ne r2 (0 : Int32)) then
      g_121_18 N  N (0 : Int32) (0 : Int32) (va_up A2 99 (upd (A2 99) 8 (0 : Int32)))
    else
      g_121_10 N   A2
def g_122_2b (N : Nat) (rc2 : Nat → Int32 → mS → Option (Int32 × mS)) (x1 : Nat) (x2 : Int32) (A : mS) : Option (Int32 × mS) :=
  m_bs (t_len x1) fun r1 =>
  bif (a_ic .ge x2 r1) then
    some ((-1 : Int32), A)
  else
    m_bd (g_118 N  A) fun r2 A2 =>
    m_bs (t_chr x1 x2) fun r3 =>
    bif (a_ic .ne r2 r3) then
      rc2 x1 (x2 + (1 : Int32)) A2
    else
      some (x2, (va_up A2 99 (upd (A2 99) 6 ((A2 99 6) + (1 : Int32)))))
def g_122_2 (N : Nat) : Nat → Nat → Int32 → mS → Option (Int32 × mS)
  | 0 => fun _ _ _ => none
  | n + 1 => g_122_2b N (g_122_2 N n)
/-- among -/
def g_122 (N : Nat) (x1 : Nat) (A : mS) : Option (Int32 × mS) :=
  g_122_2 N  N x1 (0 : Int32) A
/-- emits -/
def g_123 (N : Nat) (x1 : Int32) (A : mS) : Option (Int32 × mS) :=
  bif (a_ic .ne (A 99 8) (0 : Int32)) then
    some (0, A)
  else
    bif (a_in ((242 : Int32) + (A 99 5)) 947) then
    m_li ((A 0) (((242 : Int32) + (A 99 5))).toNatClampNeg) fun y1 =>
    bif (a_in (((247 : Int32) + ((140 : Int32) * (A 99 5))) + y1) 947) then
    m_st (va_up A 0 (upd (A 0) ((((247 : Int32) + ((140 : Int32) * (A 99 5))) + y1)).toNatClampNeg x1)) fun A2 =>
    bif (a_in ((242 : Int32) + (A2 99 5)) 947) then
    m_li ((A2 0) (((242 : Int32) + (A2 99 5))).toNatClampNeg) fun y3 =>
    bif (a_in ((242 : Int32) + (A2 99 5)) 947) then
    m_st (va_up A2 0 (upd (A2 0) (((242 : Int32) + (A2 99 5))).toNatClampNeg (y3 + (1 : Int32)))) fun A4 =>
    some (0, A4)
    else none
    else none
    else none
    else none
def g_125_2b (N : Nat) (rf : mS → Option (Int32 × mS)) (rc2 : mS → Option (Int32 × mS)) (A : mS) : Option (Int32 × mS) :=
  bif (a_ic .ne (A 99 8) (0 : Int32)) then
    some (0, A)
  else
    m_bd (g_118 N  A) fun r2 A2 =>
    bif (a_ic .ne r2 (38 : Int32)) then
      some (0, A2)
    else
      m_bd (rf (va_up A2 99 (upd (A2 99) 6 ((A2 99 6) + (1 : Int32))))) fun r3 A3 =>
      m_bd (g_123 N (-2 : Int32) A3) fun r4 A4 =>
      rc2  A4
def g_125_2 (N : Nat) (rf : mS → Option (Int32 × mS)) : Nat → mS → Option (Int32 × mS)
  | 0 => fun  _ => none
  | n + 1 => g_125_2b N rf (g_125_2 N rf n)
/-- every -/
def g_125 (N : Nat) (rf : mS → Option (Int32 × mS)) (A : mS) : Option (Int32 × mS) :=
  m_bd (rf A) fun r1 A1 =>
  g_125_2 N rf  N  A1
def g_126_2b (N : Nat) (rf : mS → Option (Int32 × mS)) (rc2 : mS → Option (Int32 × mS)) (A : mS) : Option (Int32 × mS) :=
  bif (a_ic .ne (A 99 8) (0 : Int32)) then
    some (0, A)
  else
    m_bd (g_118 N  A) fun r2 A2 =>
    bif (a_ic .ne r2 (124 : Int32)) then
      some (0, A2)
    else
      m_bd (g_125 N rf (va_up A2 99 (upd (A2 99) 6 ((A2 99 6) + (1 : Int32))))) fun r3 A3 =>
      m_bd (g_123 N (-3 : Int32) A3) fun r4 A4 =>
      rc2  A4
def g_126_2 (N : Nat) (rf : mS → Option (Int32 × mS)) : Nat → mS → Option (Int32 × mS)
  | 0 => fun  _ => none
  | n + 1 => g_126_2b N rf (g_126_2 N rf n)
/-- some -/
def g_126 (N : Nat) (rf : mS → Option (Int32 × mS)) (A : mS) : Option (Int32 × mS) :=
  m_bd (g_125 N rf A) fun r1 A1 =>
  g_126_2 N rf  N  A1
def g_124_91 (N : Nat) (rf : mS → Option (Int32 × mS)) (x2 : Int32) (x3 : Int32) (t1 : Int32) (A : mS) : Option (Int32 × mS) :=
  bif (decide (t1 = 0) || decide (t1 = 1)) then
  m_st (va_up A 99 (upd (A 99) 8 t1)) fun A14 =>
  m_bd (g_121 N  A14) fun r15 A15 =>
  m_bd (g_123 N ((x2 + ((8 : Int32) * x3)) + ((32 : Int32) * r15)) A15) fun r16 A16 =>
  some (0, A16)
  else none
def g_124_88 (N : Nat) (rf : mS → Option (Int32 × mS)) (x2 : Int32) (x3 : Int32) (A : mS) : Option (Int32 × mS) :=
  g_124_91 N rf  x2 x3 (1 : Int32) A
def g_124_80 (N : Nat) (rf : mS → Option (Int32 × mS)) (x2 : Int32) (t0 : Int32) (A : mS) : Option (Int32 × mS) :=
  bif (a_ic .ne (A 99 8) (0 : Int32)) then
    g_124_88 N rf  x2 t0 A
  else
    bif (a_ic .ne t0 (-1 : Int32)) then
      g_124_91 N rf  x2 t0 (0 : Int32) A
    else
      g_124_88 N rf  x2 t0 A
def g_124_71 (N : Nat) (rf : mS → Option (Int32 × mS)) (x2 : Int32) (t1 : Int32) (A : mS) : Option (Int32 × mS) :=
  bif (decide (t1 = 0) || decide (t1 = 1)) then
  m_st (va_up A 99 (upd (A 99) 8 t1)) fun A3 =>
  bif (a_ic .eq (A3 99 8) (0 : Int32)) then
    m_bd (g_122 N 7 A3) fun r4 A4 =>
    g_124_80 N rf  x2 r4 A4
  else
    g_124_80 N rf  x2 (0 : Int32) A3
  else none
def g_124_37 (N : Nat) (rf : mS → Option (Int32 × mS)) (x1 : Int32) (t1 : Int32) (t2 : Int32) (A : mS) : Option (Int32 × mS) :=
  bif (a_ic .ne x1 (33 : Int32)) then
    m_st (va_up A 99 (upd (A 99) 6 (t1 + t2))) fun A8 =>
    m_bd (g_126 N rf A8) fun r9 A9 =>
    m_bd (g_119 N (41 : Int32) A9) fun r10 A10 =>
    some (0, (va_up A10 99 (upd (A10 99) 9 ((A10 99 9) - (1 : Int32)))))
  else
    m_st (va_up A 99 (upd (A 99) 6 (t1 + t2))) fun A11 =>
    m_bd (rf A11) fun r12 A12 =>
    m_bd (g_123 N (-1 : Int32) A12) fun r13 A13 =>
    some (0, (va_up A13 99 (upd (A13 99) 9 ((A13 99 9) - (1 : Int32)))))
def g_124_21 (N : Nat) (rf : mS → Option (Int32 × mS)) (x1 : Int32) (t1 : Int32) (A : mS) : Option (Int32 × mS) :=
  bif (decide (t1 = 0) || decide (t1 = 1)) then
  m_st (va_up A 99 (upd (A 99) 8 t1)) fun A5 =>
  bif (a_ic .eq (A5 99 8) (0 : Int32)) then
    m_st (va_up A5 99 (upd (A5 99) 9 ((A5 99 9) + (1 : Int32)))) fun A6 =>
    g_124_37 N rf  x1 (A5 99 6) (1 : Int32) A6
  else
    m_st (va_up A5 99 (upd (A5 99) 9 ((A5 99 9) + (1 : Int32)))) fun A7 =>
    g_124_37 N rf  x1 (A5 99 6) (0 : Int32) A7
  else none
def g_124_13 (N : Nat) (rf : mS → Option (Int32 × mS)) (x1 : Int32) (A : mS) : Option (Int32 × mS) :=
  bif (a_ic .ne (A 99 9) (5 : Int32)) then
    g_124_21 N rf  x1 (0 : Int32) A
  else
    g_124_21 N rf  x1 (1 : Int32) A
/-- factor -/
def g_124 (N : Nat) (rf : mS → Option (Int32 × mS)) (A : mS) : Option (Int32 × mS) :=
  bif (a_ic .eq (A 99 8) (0 : Int32)) then
    m_bd (g_118 N  A) fun r1 A1 =>
    bif (a_ic .eq r1 (33 : Int32)) then
      g_124_13 N rf  r1 A1
    else
      bif (a_ic .ne r1 (40 : Int32)) then
        m_bd (g_122 N 6 A1) fun r2 A2 =>
        bif (a_ic .ne r2 (-1 : Int32)) then
          g_124_71 N rf  r2 (0 : Int32) A2
        else
          g_124_71 N rf  r2 (1 : Int32) A2
      else
        g_124_13 N rf  r1 A1
  else
    some (0, A)
/-- factor, q deep -/
def g_fac (N : Nat) : Nat → mS → Option (Int32 × mS)
  | 0 => fun _ => none
  | q + 1 => g_124 N (g_fac N q)
/-- much -/
def g_127 (N : Nat) (x1 : Int32) (x2 : Nat) (A : mS) : Option (Int32 × mS) :=
  m_bd (g_120 N x2 A) fun r1 A1 =>
  m_bd (g_121 N  A1) fun r2 A2 =>
  m_bd (g_119 N (32 : Int32) A2) fun r3 A3 =>
  m_bd (g_126 N (g_fac N 8) A3) fun r4 A4 =>
  m_bd (g_123 N (x1 - r2) A4) fun r5 A5 =>
  some (0, A5)
def g_128_16 (N : Nat) (t1 : Int32) (A : mS) : Option (Int32 × mS) :=
  bif (decide (t1 = 0) || decide (t1 = 1)) then
  m_st (va_up A 99 (upd (A 99) 8 t1)) fun A4 =>
  bif (a_ic .ne (A4 99 8) (0 : Int32)) then
    some (0, A4)
  else
    m_bd (g_118 N  A4) fun r5 A5 =>
    bif (a_in ((232 : Int32) + (A4 99 5)) 947) then
    m_st (va_up A5 0 (upd (A5 0) (((232 : Int32) + (A4 99 5))).toNatClampNeg (r5 - (48 : Int32)))) fun A6 =>
    some (0, (va_up A6 99 (upd (A6 99) 6 ((A6 99 6) + (1 : Int32)))))
    else none
  else none
def g_128_13 (N : Nat) (A : mS) : Option (Int32 × mS) :=
  g_128_16 N  (1 : Int32) A
/-- ruleHere -/
def g_128 (N : Nat) (A : mS) : Option (Int32 × mS) :=
  m_bd (g_120 N 1 A) fun r1 A1 =>
  bif (a_ic .ne (A1 99 8) (0 : Int32)) then
    g_128_13 N   A1
  else
    m_bd (g_118 N  A1) fun r2 A2 =>
    m_bd (g_112 N r2 (48 : Int32) (50 : Int32) A2) fun r3 A3 =>
    bif (a_ic .ne r3 (0 : Int32)) then
      g_128_16 N  (0 : Int32) A3
    else
      g_128_13 N   A3
/-- giftHere -/
def g_129 (N : Nat) (A : mS) : Option (Int32 × mS) :=
  m_bd (g_120 N 2 A) fun r1 A1 =>
  m_bd (g_121 N  A1) fun r2 A2 =>
  bif (a_ic .ne (A2 99 8) (0 : Int32)) then
    some (0, A2)
  else
    bif (a_in ((237 : Int32) + (A2 99 5)) 947) then
    m_st (va_up A2 0 (upd (A2 0) (((237 : Int32) + (A2 99 5))).toNatClampNeg r2)) fun A3 =>
    some (0, A3)
    else none
/-- clauseHere -/
def g_130 (N : Nat) (A : mS) : Option (Int32 × mS) :=
  m_bd (g_118 N  A) fun r1 A1 =>
  if (a_lsw 19 [(103, 74), (104, 55), (114, 67), (119, 44)] [16, 8, 13, 3] r1) = 16 then
    m_bd (g_129 N  A1) fun r2 A2 =>
    some (0, A2)
  else if (a_lsw 19 [(103, 74), (104, 55), (114, 67), (119, 44)] [16, 8, 13, 3] r1) = 8 then
    m_bd (g_127 N (-200 : Int32) 0 A1) fun r3 A3 =>
    some (0, A3)
  else if (a_lsw 19 [(103, 74), (104, 55), (114, 67), (119, 44)] [16, 8, 13, 3] r1) = 13 then
    m_bd (g_128 N  A1) fun r4 A4 =>
    some (0, A4)
  else if (a_lsw 19 [(103, 74), (104, 55), (114, 67), (119, 44)] [16, 8, 13, 3] r1) = 3 then
    m_bd (g_127 N (-10 : Int32) 3 A1) fun r5 A5 =>
    some (0, A5)
  else if (a_lsw 19 [(103, 74), (104, 55), (114, 67), (119, 44)] [16, 8, 13, 3] r1) = 19 then
    some (0, (va_up A1 99 (upd (A1 99) 8 (1 : Int32))))
  else none
def g_131_82 (N : Nat) (A : mS) : Option (Int32 × mS) :=
  bif (a_ic .ne (A 99 8) (0 : Int32)) then
    m_li ((-10 : Int32) - (A 99 6)) fun y7 =>
    some (y7, A)
  else
    bif (a_ic .eq (A 99 6) (A 99 7)) then
      some ((A 99 5), (va_up A 0 (upd (upd (A 0) 12 (((A 0) 12) + (1 : Int32))) 17 (A 99 5))))
    else
      m_li ((-10 : Int32) - (A 99 6)) fun y8 =>
      some (y8, A)
def g_131_62b (N : Nat) (rc62 : Int32 → mS → Option (Int32 × mS)) (x1 : Int32) (A : mS) : Option (Int32 × mS) :=
  bif (a_ic .ne (A 99 8) (0 : Int32)) then
    g_131_82 N   A
  else
    bif (a_ic .ge x1 (10 : Int32)) then
      g_131_82 N   A
    else
      m_bd (g_118 N  A) fun r5 A5 =>
      bif (a_ic .ne r5 (59 : Int32)) then
        g_131_82 N   A5
      else
        m_bd (g_130 N  (va_up A5 99 (upd (A5 99) 6 ((A5 99 6) + (1 : Int32))))) fun r6 A6 =>
        rc62 (x1 + (1 : Int32)) A6
def g_131_62 (N : Nat) : Nat → Int32 → mS → Option (Int32 × mS)
  | 0 => fun _ _ => none
  | n + 1 => g_131_62b N (g_131_62 N n)
/-- valley -/
def g_131 (N : Nat) (A : mS) : Option (Int32 × mS) :=
  bif (a_ic .ne ((A 0) 12) (5 : Int32)) then
    bif (a_in ((232 : Int32) + ((A 0) 12)) 947) then
    m_st (va_up (va_up A 0 (upd (upd (A 0) 16 (0 : Int32)) (((232 : Int32) + ((A 0) 12))).toNatClampNeg (0 : Int32))) 99 (upd (upd (A 99) 5 ((A 0) 12)) 7 ((A 0) 16))) fun A1 =>
    bif (a_in ((237 : Int32) + (A1 99 5)) 947) then
    m_st (va_up A1 0 (upd (A1 0) (((237 : Int32) + (A1 99 5))).toNatClampNeg (0 : Int32))) fun A2 =>
    bif (a_in ((242 : Int32) + (A2 99 5)) 947) then
    m_st (va_up A2 0 (upd (A2 0) (((242 : Int32) + (A2 99 5))).toNatClampNeg (0 : Int32))) fun A3 =>
    m_bd (g_130 N  (va_up A3 99 (upd (upd (upd (A3 99) 6 (0 : Int32)) 8 (0 : Int32)) 9 (0 : Int32)))) fun r4 A4 =>
    g_131_62 N  N (1 : Int32) A4
    else none
    else none
    else none
  else
    some ((-4 : Int32), A)
/-- tellsOf -/
def g_132 (N : Nat) (x1 : Int32) (A : mS) : Option (Int32 × mS) :=
  bif (a_ic .ne ((A 0) 17) (-1 : Int32)) then
    bif (a_in (x1 + ((A 0) 17)) 947) then
    m_li ((A 0) ((x1 + ((A 0) 17))).toNatClampNeg) fun y1 =>
    some (y1, A)
    else none
  else
    some ((0 : Int32), A)
def g_133_188 (N : Nat) (rc51 : Int32 → Int32 → Int32 → Int32 → Int32 → mS → Option (Int32 × mS)) (x5 : Int32) (x6 : Int32) (x7 : Int32) (x8 : Int32) (x9 : Int32) (t0 : Int32) (A : mS) : Option (Int32 × mS) :=
  bif (a_ic .eq ((A 4) 0) (0 : Int32)) then
    rc51 (x5 + (0 : Int32)) x6 x7 x8 (x9 + (1 : Int32)) A
  else
    rc51 (x5 + t0) x6 x7 x8 (x9 + (1 : Int32)) A
def g_133_51b (N : Nat) (rc51 : Int32 → Int32 → Int32 → Int32 → Int32 → mS → Option (Int32 × mS)) (x5 : Int32) (x6 : Int32) (x7 : Int32) (x8 : Int32) (x9 : Int32) (A : mS) : Option (Int32 × mS) :=
  bif (a_ic .ge x9 (x7 + x6)) then
    some (x5, A)
  else
    bif (a_in x9 947) then
    m_li ((A 0) (x9).toNatClampNeg) fun y4 =>
    bif (a_ic .lt y4 (0 : Int32)) then
      bif (a_ic .ne y4 (-1 : Int32)) then
        bif (a_ic .le y4 (-10 : Int32)) then
          bif (a_ic .le y4 (-200 : Int32)) then
            m_li (y4 - (-200 : Int32)) fun y5 =>
            g_133_188 N rc51 x5 x6 x7 (0 : Int32) x9 y5 A
          else
            m_li ((-10 : Int32) - y4) fun y6 =>
            g_133_188 N rc51 x5 x6 x7 (0 : Int32) x9 y6 A
        else
          m_li (x8 + (-1 : Int32)) fun y7 =>
          bif (a_ic .ne y4 (-2 : Int32)) then
            bif (a_in (y7 - (1 : Int32)) 64) then
            m_li ((A 4) ((y7 - (1 : Int32))).toNatClampNeg) fun y8 =>
            bif (a_ic .ne y8 (0 : Int32)) then
              bif (a_in (y7 - (1 : Int32)) 64 && (decide ((1 : Int32) = 0) || decide ((1 : Int32) = 1))) then
              m_st (va_up A 4 (upd (A 4) ((y7 - (1 : Int32))).toNatClampNeg (1 : Int32))) fun A9 =>
              rc51 x5 x6 x7 y7 (x9 + (1 : Int32)) A9
              else none
            else
              bif (a_in y7 64) then
              m_li ((A 4) (y7).toNatClampNeg) fun y10 =>
              bif (a_ic .eq y10 (0 : Int32)) then
                bif (a_in (y7 - (1 : Int32)) 64 && (decide ((0 : Int32) = 0) || decide ((0 : Int32) = 1))) then
                m_st (va_up A 4 (upd (A 4) ((y7 - (1 : Int32))).toNatClampNeg (0 : Int32))) fun A11 =>
                rc51 x5 x6 x7 y7 (x9 + (1 : Int32)) A11
                else none
              else
                bif (a_in (y7 - (1 : Int32)) 64 && (decide ((1 : Int32) = 0) || decide ((1 : Int32) = 1))) then
                m_st (va_up A 4 (upd (A 4) ((y7 - (1 : Int32))).toNatClampNeg (1 : Int32))) fun A12 =>
                rc51 x5 x6 x7 y7 (x9 + (1 : Int32)) A12
                else none
              else none
            else none
          else
            bif (a_in (y7 - (1 : Int32)) 64) then
            m_li ((A 4) ((y7 - (1 : Int32))).toNatClampNeg) fun y13 =>
            bif (a_ic .eq y13 (0 : Int32)) then
              bif (a_in (y7 - (1 : Int32)) 64 && (decide ((0 : Int32) = 0) || decide ((0 : Int32) = 1))) then
              m_st (va_up A 4 (upd (A 4) ((y7 - (1 : Int32))).toNatClampNeg (0 : Int32))) fun A14 =>
              rc51 x5 x6 x7 y7 (x9 + (1 : Int32)) A14
              else none
            else
              bif (a_in y7 64) then
              m_li ((A 4) (y7).toNatClampNeg) fun y15 =>
              bif (a_ic .eq y15 (0 : Int32)) then
                bif (a_in (y7 - (1 : Int32)) 64 && (decide ((0 : Int32) = 0) || decide ((0 : Int32) = 1))) then
                m_st (va_up A 4 (upd (A 4) ((y7 - (1 : Int32))).toNatClampNeg (0 : Int32))) fun A16 =>
                rc51 x5 x6 x7 y7 (x9 + (1 : Int32)) A16
                else none
              else
                bif (a_in (y7 - (1 : Int32)) 64 && (decide ((1 : Int32) = 0) || decide ((1 : Int32) = 1))) then
                m_st (va_up A 4 (upd (A 4) ((y7 - (1 : Int32))).toNatClampNeg (1 : Int32))) fun A17 =>
                rc51 x5 x6 x7 y7 (x9 + (1 : Int32)) A17
                else none
              else none
            else none
      else
        bif (a_in (x8 - (1 : Int32)) 64) then
        m_li ((A 4) ((x8 - (1 : Int32))).toNatClampNeg) fun y18 =>
        bif (a_ic .ne y18 (0 : Int32)) then
          bif (a_in (x8 - (1 : Int32)) 64 && (decide ((0 : Int32) = 0) || decide ((0 : Int32) = 1))) then
          m_st (va_up A 4 (upd (A 4) ((x8 - (1 : Int32))).toNatClampNeg (0 : Int32))) fun A19 =>
          rc51 x5 x6 x7 x8 (x9 + (1 : Int32)) A19
          else none
        else
          bif (a_in (x8 - (1 : Int32)) 64 && (decide ((1 : Int32) = 0) || decide ((1 : Int32) = 1))) then
          m_st (va_up A 4 (upd (A 4) ((x8 - (1 : Int32))).toNatClampNeg (1 : Int32))) fun A20 =>
          rc51 x5 x6 x7 x8 (x9 + (1 : Int32)) A20
          else none
        else none
    else
      m_li (y4 - y4 / (8 : Int32) * (8 : Int32)) fun y21 =>
      bif (a_in y21 5) then
      m_li ((A 3) (y21).toNatClampNeg) fun y22 =>
      m_li (y4 / (8 : Int32)) fun y23 =>
      m_li (y23 - y23 / (4 : Int32) * (4 : Int32)) fun y24 =>
      m_li (y4 / (32 : Int32)) fun y25 =>
      bif (a_ic .ne y24 (0 : Int32)) then
        bif (a_ic .ne y24 (1 : Int32)) then
          bif (a_ic .le y22 y25) then
            bif (a_in x8 64 && (decide ((0 : Int32) = 0) || decide ((0 : Int32) = 1))) then
            m_st (va_up A 4 (upd (A 4) (x8).toNatClampNeg (0 : Int32))) fun A26 =>
            rc51 x5 x6 x7 (x8 + (1 : Int32)) (x9 + (1 : Int32)) A26
            else none
          else
            bif (a_in x8 64 && (decide ((1 : Int32) = 0) || decide ((1 : Int32) = 1))) then
            m_st (va_up A 4 (upd (A 4) (x8).toNatClampNeg (1 : Int32))) fun A27 =>
            rc51 x5 x6 x7 (x8 + (1 : Int32)) (x9 + (1 : Int32)) A27
            else none
        else
          bif (a_ic .ne y22 y25) then
            bif (a_in x8 64 && (decide ((0 : Int32) = 0) || decide ((0 : Int32) = 1))) then
            m_st (va_up A 4 (upd (A 4) (x8).toNatClampNeg (0 : Int32))) fun A28 =>
            rc51 x5 x6 x7 (x8 + (1 : Int32)) (x9 + (1 : Int32)) A28
            else none
          else
            bif (a_in x8 64 && (decide ((1 : Int32) = 0) || decide ((1 : Int32) = 1))) then
            m_st (va_up A 4 (upd (A 4) (x8).toNatClampNeg (1 : Int32))) fun A29 =>
            rc51 x5 x6 x7 (x8 + (1 : Int32)) (x9 + (1 : Int32)) A29
            else none
      else
        bif (a_ic .ge y22 y25) then
          bif (a_in x8 64 && (decide ((0 : Int32) = 0) || decide ((0 : Int32) = 1))) then
          m_st (va_up A 4 (upd (A 4) (x8).toNatClampNeg (0 : Int32))) fun A30 =>
          rc51 x5 x6 x7 (x8 + (1 : Int32)) (x9 + (1 : Int32)) A30
          else none
        else
          bif (a_in x8 64 && (decide ((1 : Int32) = 0) || decide ((1 : Int32) = 1))) then
          m_st (va_up A 4 (upd (A 4) (x8).toNatClampNeg (1 : Int32))) fun A31 =>
          rc51 x5 x6 x7 (x8 + (1 : Int32)) (x9 + (1 : Int32)) A31
          else none
      else none
    else none
def g_133_51 (N : Nat) : Nat → Int32 → Int32 → Int32 → Int32 → Int32 → mS → Option (Int32 × mS)
  | 0 => fun _ _ _ _ _ _ => none
  | n + 1 => g_133_51b N (g_133_51 N n)
/-- worthOf -/
def g_133 (N : Nat) (x1 : Int32) (x2 : Int32) (x3 : Int32) (x4 : Int32) (A : mS) : Option (Int32 × mS) :=
  m_li (x4 - x4 / (7 : Int32) * (7 : Int32)) fun y1 =>
  bif (a_in ((140 : Int32) + x1) 947) then
  m_st (va_up A 3 (upd (upd (upd (upd (A 3) 0 x2) 1 x3) 2 y1) 3 x1)) fun A2 =>
  m_bd (g_132 N (242 : Int32) (va_up A2 3 (upd (A2 3) 4 ((A 0) (((140 : Int32) + x1)).toNatClampNeg)))) fun r3 A3 =>
  g_133_51 N  N (0 : Int32) r3 ((247 : Int32) + ((140 : Int32) * ((A3 0) 17))) (0 : Int32) ((247 : Int32) + ((140 : Int32) * ((A3 0) 17))) A3
  else none
/-- worthNow -/
def g_134 (N : Nat) (x1 : Int32) (x2 : Int32) (A : mS) : Option (Int32 × mS) :=
  m_bd (g_133 N x1 x2 ((A 0) 1) ((A 0) 0) A) fun r1 A1 =>
  some (r1, A1)
def g_135_4b (N : Nat) (rc4 : Int32 → Int32 → Int32 → Int32 → Int32 → mS → Option (Int32 × mS)) (x1 : Int32) (x2 : Int32) (x3 : Int32) (x4 : Int32) (x5 : Int32) (A : mS) : Option (Int32 × mS) :=
  bif (a_ic .ge x5 ((A 0) 11)) then
    some (x4, A)
  else
    m_bd (g_133 N x5 x1 x2 x3 A) fun r1 A1 =>
    rc4 x1 x2 x3 (x4 + r1) (x5 + (1 : Int32)) A1
def g_135_4 (N : Nat) : Nat → Int32 → Int32 → Int32 → Int32 → Int32 → mS → Option (Int32 × mS)
  | 0 => fun _ _ _ _ _ _ => none
  | n + 1 => g_135_4b N (g_135_4 N n)
/-- worthToAll -/
def g_135 (N : Nat) (x1 : Int32) (x2 : Int32) (x3 : Int32) (A : mS) : Option (Int32 × mS) :=
  g_135_4 N  N x1 x2 x3 (0 : Int32) (0 : Int32) A
/-- fortuneNext -/
def g_136 (N : Nat) (A : mS) : Option (Int32 × mS) :=
  bif (a_ic .ne ((A 0) 13) (0 : Int32)) then
    bif (decide (¬ ((A 0) 13) = 0)) then
    m_li (((A 0) 2) - ((A 0) 2) / ((A 0) 13) * ((A 0) 13)) fun y1 =>
    bif (a_in ((188 : Int32) + y1) 947) then
    m_li ((A 0) (((188 : Int32) + y1)).toNatClampNeg) fun y2 =>
    some (y2, A)
    else none
    else none
  else
    some ((0 : Int32), A)
/-- told -/
def g_137 (N : Nat) (x1 : Int32) (A : mS) : Option (Int32 × mS) :=
  if (a_tsw 0 4 23 [2, 6, 10, 15, 20] x1) = 2 then
    m_bd (g_132 N (232 : Int32) A) fun r1 A1 =>
    some (r1, A1)
  else if (a_tsw 0 4 23 [2, 6, 10, 15, 20] x1) = 6 then
    m_bd (g_132 N (237 : Int32) A) fun r2 A2 =>
    some (r2, A2)
  else if (a_tsw 0 4 23 [2, 6, 10, 15, 20] x1) = 10 then
    some (((A 0) 0), A)
  else if (a_tsw 0 4 23 [2, 6, 10, 15, 20] x1) = 15 then
    some (((A 0) 1), A)
  else if (a_tsw 0 4 23 [2, 6, 10, 15, 20] x1) = 20 then
    m_bd (g_136 N  A) fun r3 A3 =>
    some (r3, A3)
  else if (a_tsw 0 4 23 [2, 6, 10, 15, 20] x1) = 23 then
    some ((-1 : Int32), A)
  else none
/-- fortune -/
def g_138 (N : Nat) (x1 : Int32) (A : mS) : Option (Int32 × mS) :=
  bif (a_ic .ne x1 (-1 : Int32)) then
    m_bd (g_113 N x1 A) fun r1 A1 =>
    bif (a_ic .ne r1 (0 : Int32)) then
      bif (a_ic .ne ((A1 0) 13) (12 : Int32)) then
        bif (a_in ((188 : Int32) + ((A1 0) 13)) 947) then
        m_st (va_up A1 0 (upd (A1 0) (((188 : Int32) + ((A1 0) 13))).toNatClampNeg x1)) fun A2 =>
        some (((upd (upd (A2 0) 13 (((A2 0) 13) + (1 : Int32))) 2 (0 : Int32)) 13), (va_up A2 0 (upd (upd (A2 0) 13 (((A2 0) 13) + (1 : Int32))) 2 (0 : Int32))))
        else none
      else
        some ((-4 : Int32), A1)
    else
      some ((-1 : Int32), A1)
  else
    some ((0 : Int32), (va_up A 0 (upd (upd (A 0) 13 (0 : Int32)) 2 (0 : Int32))))
def g_139_55b (N : Nat) (rc55 : Int32 → Int32 → mS → Option (Int32 × mS)) (x4 : Int32) (x5 : Int32) (A : mS) : Option (Int32 × mS) :=
  bif (a_ic .ge x5 (4 : Int32)) then
    some (x4, (va_up A 0 (upd (A 0) 11 (((A 0) 11) + (1 : Int32)))))
  else
    bif (a_in (((156 : Int32) + ((4 : Int32) * x4)) + x5) 947) then
    m_st (va_up A 0 (upd (A 0) ((((156 : Int32) + ((4 : Int32) * x4)) + x5)).toNatClampNeg (0 : Int32))) fun A7 =>
    rc55 x4 (x5 + (1 : Int32)) A7
    else none
def g_139_55 (N : Nat) : Nat → Int32 → Int32 → mS → Option (Int32 × mS)
  | 0 => fun _ _ _ => none
  | n + 1 => g_139_55b N (g_139_55 N n)
/-- person -/
def g_139 (N : Nat) (x1 : Int32) (x2 : Int32) (x3 : Int32) (A : mS) : Option (Int32 × mS) :=
  m_bd (g_112 N x1 (0 : Int32) (6 : Int32) A) fun r1 A1 =>
  bif (a_ic .ne r1 (0 : Int32)) then
    m_bd (g_112 N x2 (0 : Int32) (9 : Int32) A1) fun r2 A2 =>
    bif (a_ic .eq r2 (0 : Int32)) then
      some ((-2 : Int32), A2)
    else
      m_bd (g_112 N x3 (0 : Int32) (999 : Int32) A2) fun r3 A3 =>
      bif (a_ic .ne r3 (0 : Int32)) then
        bif (a_ic .ne ((A3 0) 11) (8 : Int32)) then
          bif (a_in ((140 : Int32) + ((A3 0) 11)) 947) then
          m_st (va_up A3 0 (upd (A3 0) (((140 : Int32) + ((A3 0) 11))).toNatClampNeg x1)) fun A4 =>
          bif (a_in ((148 : Int32) + ((A3 0) 11)) 947) then
          m_st (va_up A4 0 (upd (A4 0) (((148 : Int32) + ((A3 0) 11))).toNatClampNeg x2)) fun A5 =>
          bif (a_in ((3 : Int32) + ((A3 0) 11)) 947) then
          m_st (va_up A5 0 (upd (A5 0) (((3 : Int32) + ((A3 0) 11))).toNatClampNeg x3)) fun A6 =>
          g_139_55 N  N ((A3 0) 11) (0 : Int32) A6
          else none
          else none
          else none
        else
          some ((-4 : Int32), A3)
      else
        some ((-2 : Int32), A3)
  else
    some ((-1 : Int32), A1)
/-- row -/
def g_140 (N : Nat) (x1 : Int32) (x2 : Int32) (x3 : Int32) (A : mS) : Option (Int32 × mS) :=
  m_bd (g_114 N x1 A) fun r1 A1 =>
  bif (a_ic .eq r1 (0 : Int32)) then
    some ((-1 : Int32), A1)
  else
    m_bd (g_113 N x2 A1) fun r2 A2 =>
    bif (a_ic .ne r2 (0 : Int32)) then
      m_bd (g_112 N x3 (0 : Int32) (99 : Int32) A2) fun r3 A3 =>
      bif (a_ic .ne r3 (0 : Int32)) then
        bif (a_in ((140 : Int32) + x1) 947) then
        m_li ((A3 0) (((140 : Int32) + x1)).toNatClampNeg) fun y4 =>
        bif (a_ic .eq y4 (6 : Int32)) then
          bif (a_in (((156 : Int32) + ((4 : Int32) * x1)) + x2) 947) then
          m_li ((A3 0) ((((156 : Int32) + ((4 : Int32) * x1)) + x2)).toNatClampNeg) fun y5 =>
          bif (a_in (((156 : Int32) + ((4 : Int32) * x1)) + x2) 947) then
          m_st (va_up A3 0 (upd (A3 0) ((((156 : Int32) + ((4 : Int32) * x1)) + x2)).toNatClampNeg x3)) fun A6 =>
          some (y5, A6)
          else none
          else none
        else
          some ((-3 : Int32), A3)
        else none
      else
        some ((-2 : Int32), A3)
    else
      some ((-1 : Int32), A2)
/-- kept -/
def g_141 (N : Nat) (x1 : Int32) (x2 : Int32) (A : mS) : Option (Int32 × mS) :=
  bif (a_ic .ge x2 (0 : Int32)) then
    bif (a_in ((3 : Int32) + x1) 947) then
    m_li ((A 0) (((3 : Int32) + x1)).toNatClampNeg) fun y1 =>
    bif (a_ic .le x2 y1) then
      some (x2, A)
    else
      bif (a_in ((3 : Int32) + x1) 947) then
      m_li ((A 0) (((3 : Int32) + x1)).toNatClampNeg) fun y2 =>
      some (y2, A)
      else none
    else none
  else
    some ((0 : Int32), A)
def g_142_33 (N : Nat) (x1 : Int32) (x2 : Int32) (x3 : Int32) (t0 : Int32) (A : mS) : Option (Int32 × mS) :=
  bif (a_ic .eq t0 (0 : Int32)) then
    m_bd (g_134 N x1 x2 A) fun r5 A5 =>
    some (r5, A5)
  else
    m_bd (g_134 N x1 x2 A) fun r6 A6 =>
    m_bd (g_134 N x3 x2 A6) fun r7 A7 =>
    m_li ((r6 + r7) / (2 : Int32)) fun y8 =>
    some (y8, A7)
def g_142_32 (N : Nat) (x1 : Int32) (x2 : Int32) (x3 : Int32) (A : mS) : Option (Int32 × mS) :=
  g_142_33 N  x1 x2 x3 (0 : Int32) A
def g_142_30 (N : Nat) (x1 : Int32) (x2 : Int32) (x3 : Int32) (A : mS) : Option (Int32 × mS) :=
  g_142_33 N  x1 x2 x3 (1 : Int32) A
/-- league -/
def g_142 (N : Nat) (x1 : Int32) (x2 : Int32) (A : mS) : Option (Int32 × mS) :=
  bif (a_in ((148 : Int32) + x1) 947) then
  m_li ((A 0) (((148 : Int32) + x1)).toNatClampNeg) fun y1 =>
  m_bd (g_114 N y1 A) fun r2 A2 =>
  bif (a_ic .eq r2 (0 : Int32)) then
    g_142_32 N  x1 x2 y1 A2
  else
    bif (a_ic .eq y1 x1) then
      g_142_32 N  x1 x2 y1 A2
    else
      bif (a_in ((140 : Int32) + y1) 947) then
      m_li ((A2 0) (((140 : Int32) + y1)).toNatClampNeg) fun y3 =>
      bif (a_ic .eq y3 (2 : Int32)) then
        g_142_30 N  x1 x2 y1 A2
      else
        bif (a_in ((140 : Int32) + y1) 947) then
        m_li ((A2 0) (((140 : Int32) + y1)).toNatClampNeg) fun y4 =>
        bif (a_ic .lt y4 (5 : Int32)) then
          g_142_32 N  x1 x2 y1 A2
        else
          g_142_30 N  x1 x2 y1 A2
        else none
      else none
  else none
def g_143_14b (N : Nat) (rc14 : Int32 → Int32 → Int32 → Int32 → mS → Option (Int32 × mS)) (x1 : Int32) (x2 : Int32) (x3 : Int32) (x4 : Int32) (A : mS) : Option (Int32 × mS) :=
  bif (a_ic .ge x4 (4 : Int32)) then
    m_bd (g_134 N x1 x2 A) fun r2 A2 =>
    bif (a_in ((148 : Int32) + x1) 947) then
    m_li ((A2 0) (((148 : Int32) + x1)).toNatClampNeg) fun y3 =>
    m_li ((y3 * x3) / (10 : Int32)) fun y4 =>
    some ((r2 + y4), A2)
    else none
  else
    m_bd (g_133 N x1 x4 x2 (((A 0) 0) + (1 : Int32)) A) fun r5 A5 =>
    bif (a_ic .le r5 x3) then
      rc14 x1 x2 x3 (x4 + (1 : Int32)) A5
    else
      rc14 x1 x2 r5 (x4 + (1 : Int32)) A5
def g_143_14 (N : Nat) : Nat → Int32 → Int32 → Int32 → Int32 → mS → Option (Int32 × mS)
  | 0 => fun _ _ _ _ _ => none
  | n + 1 => g_143_14b N (g_143_14 N n)
/-- ahead -/
def g_143 (N : Nat) (x1 : Int32) (x2 : Int32) (A : mS) : Option (Int32 × mS) :=
  m_bd (g_133 N x1 (0 : Int32) x2 (((A 0) 0) + (1 : Int32)) A) fun r1 A1 =>
  g_143_14 N  N x1 x2 r1 (1 : Int32) A1
def g_144_4b (N : Nat) (rc4 : Int32 → Int32 → Int32 → Int32 → mS → Option (Int32 × mS)) (x1 : Int32) (x2 : Int32) (x3 : Int32) (x4 : Int32) (A : mS) : Option (Int32 × mS) :=
  bif (a_ic .ge x4 (4 : Int32)) then
    bif (a_ic .ne x3 x2) then
      some ((0 : Int32), A)
    else
      m_bd (g_142 N x1 x2 A) fun r1 A1 =>
      some (r1, A1)
  else
    m_bd (g_142 N x1 x4 A) fun r2 A2 =>
    m_bd (g_142 N x1 x3 A2) fun r3 A3 =>
    bif (a_ic .le r2 r3) then
      rc4 x1 x2 x3 (x4 + (1 : Int32)) A3
    else
      rc4 x1 x2 x4 (x4 + (1 : Int32)) A3
def g_144_4 (N : Nat) : Nat → Int32 → Int32 → Int32 → Int32 → mS → Option (Int32 × mS)
  | 0 => fun _ _ _ _ _ => none
  | n + 1 => g_144_4b N (g_144_4 N n)
/-- sharing -/
def g_144 (N : Nat) (x1 : Int32) (x2 : Int32) (A : mS) : Option (Int32 × mS) :=
  g_144_4 N  N x1 x2 (0 : Int32) (1 : Int32) A
/-- bidOf -/
def g_145 (N : Nat) (x1 : Int32) (x2 : Int32) (A : mS) : Option (Int32 × mS) :=
  m_bd (g_134 N x1 x2 A) fun r1 A1 =>
  bif (a_in ((148 : Int32) + x1) 947) then
  m_li ((A1 0) (((148 : Int32) + x1)).toNatClampNeg) fun y2 =>
  bif (decide (¬ (y2 + (1 : Int32)) = 0)) then
  m_li (r1 / (y2 + (1 : Int32))) fun y3 =>
  bif (a_in ((140 : Int32) + x1) 947) then
  m_li ((A1 0) (((140 : Int32) + x1)).toNatClampNeg) fun y4 =>
  if (a_tsw 1 6 86 [21, 26, 34, 42, 64, 72] y4) = 21 then
    m_bd (g_141 N x1 y3 A1) fun r5 A5 =>
    some (r5, A5)
  else if (a_tsw 1 6 86 [21, 26, 34, 42, 64, 72] y4) = 26 then
    m_bd (g_142 N x1 x2 A1) fun r6 A6 =>
    m_bd (g_141 N x1 r6 A6) fun r7 A7 =>
    some (r7, A7)
  else if (a_tsw 1 6 86 [21, 26, 34, 42, 64, 72] y4) = 34 then
    m_bd (g_143 N x1 x2 A1) fun r8 A8 =>
    m_bd (g_141 N x1 r8 A8) fun r9 A9 =>
    some (r9, A9)
  else if (a_tsw 1 6 86 [21, 26, 34, 42, 64, 72] y4) = 42 then
    bif (a_in ((3 : Int32) + x1) 947) then
    m_li ((A1 0) (((3 : Int32) + x1)).toNatClampNeg) fun y10 =>
    bif (a_in ((148 : Int32) + x1) 947) then
    m_li ((A1 0) (((148 : Int32) + x1)).toNatClampNeg) fun y11 =>
    bif (a_ic .ge y10 ((10 : Int32) * y11)) then
      m_bd (g_141 N x1 y3 A1) fun r12 A12 =>
      some (r12, A12)
    else
      some ((0 : Int32), A1)
    else none
    else none
  else if (a_tsw 1 6 86 [21, 26, 34, 42, 64, 72] y4) = 64 then
    m_bd (g_144 N x1 x2 A1) fun r13 A13 =>
    m_bd (g_141 N x1 r13 A13) fun r14 A14 =>
    some (r14, A14)
  else if (a_tsw 1 6 86 [21, 26, 34, 42, 64, 72] y4) = 72 then
    bif (a_in (((156 : Int32) + ((4 : Int32) * x1)) + x2) 947) then
    m_li ((A1 0) ((((156 : Int32) + ((4 : Int32) * x1)) + x2)).toNatClampNeg) fun y15 =>
    m_bd (g_141 N x1 y15 A1) fun r16 A16 =>
    some (r16, A16)
    else none
  else if (a_tsw 1 6 86 [21, 26, 34, 42, 64, 72] y4) = 86 then
    m_bd (g_134 N x1 x2 A1) fun r17 A17 =>
    m_bd (g_141 N x1 r17 A17) fun r18 A18 =>
    some (r18, A18)
  else none
  else none
  else none
  else none
/-- of -/
def g_146 (N : Nat) (x1 : Int32) (x2 : Int32) (A : mS) : Option (Int32 × mS) :=
  m_bd (g_114 N x1 A) fun r1 A1 =>
  bif (a_ic .ne r1 (0 : Int32)) then
    m_bd (g_112 N x2 (10 : Int32) (13 : Int32) A1) fun r2 A2 =>
    bif (a_ic .eq r2 (0 : Int32)) then
      m_bd (g_112 N x2 (20 : Int32) (23 : Int32) A2) fun r3 A3 =>
      bif (a_ic .eq r3 (0 : Int32)) then
        bif (a_ic .ne x2 (0 : Int32)) then
          bif (a_ic .ne x2 (1 : Int32)) then
            bif (a_ic .ne x2 (2 : Int32)) then
              some ((-10001 : Int32), A3)
            else
              bif (a_in ((3 : Int32) + x1) 947) then
              m_li ((A3 0) (((3 : Int32) + x1)).toNatClampNeg) fun y4 =>
              some (y4, A3)
              else none
          else
            bif (a_in ((148 : Int32) + x1) 947) then
            m_li ((A3 0) (((148 : Int32) + x1)).toNatClampNeg) fun y5 =>
            some (y5, A3)
            else none
        else
          bif (a_in ((140 : Int32) + x1) 947) then
          m_li ((A3 0) (((140 : Int32) + x1)).toNatClampNeg) fun y6 =>
          some (y6, A3)
          else none
      else
        m_bd (g_134 N x1 (x2 - (20 : Int32)) A3) fun r7 A7 =>
        some (r7, A7)
    else
      m_bd (g_145 N x1 (x2 - (10 : Int32)) A2) fun r8 A8 =>
      some (r8, A8)
  else
    some ((-10001 : Int32), A1)
def g_147_10b (N : Nat) (rc2 : Int32 → mS → Option (Int32 × mS)) (rc10 : Int32 → Int32 → mS → Option (Int32 × mS)) (x1 : Int32) (x2 : Int32) (A : mS) : Option (Int32 × mS) :=
  bif (a_ic .ge x2 (4 : Int32)) then
    rc2 (x1 + (1 : Int32)) A
  else
    m_bd (g_145 N x1 x2 A) fun r1 A1 =>
    bif (a_in (((4 : Int32) * x1) + x2) 32) then
    m_st (va_up A1 5 (upd (A1 5) ((((4 : Int32) * x1) + x2)).toNatClampNeg r1)) fun A2 =>
    rc10 x1 (x2 + (1 : Int32)) A2
    else none
def g_147_10 (N : Nat) (rc2 : Int32 → mS → Option (Int32 × mS)) : Nat → Int32 → Int32 → mS → Option (Int32 × mS)
  | 0 => fun _ _ _ => none
  | n + 1 => g_147_10b N rc2 (g_147_10 N rc2 n)
def g_147_2b (N : Nat) (rc2 : Int32 → mS → Option (Int32 × mS)) (x1 : Int32) (A : mS) : Option (Int32 × mS) :=
  bif (a_ic .ge x1 ((A 0) 11)) then
    some (0, A)
  else
    g_147_10 N rc2 N x1 (0 : Int32) A
def g_147_2 (N : Nat) : Nat → Int32 → mS → Option (Int32 × mS)
  | 0 => fun _ _ => none
  | n + 1 => g_147_2b N (g_147_2 N n)
/-- takesBids -/
def g_147 (N : Nat) (A : mS) : Option (Int32 × mS) :=
  g_147_2 N  N (0 : Int32) A
def g_148_73 (N : Nat) (t1 : Int32) (A : mS) : Option (Int32 × mS) :=
  bif (decide (t1 = 0) || decide (t1 = 1)) then
  m_st (va_up A 99 (upd (A 99) 15 t1)) fun A8 =>
  bif (a_ic .eq (A8 99 15) (0 : Int32)) then
    some (0, (va_up A8 99 (upd (A8 99) 14 (A8 99 14))))
  else
    m_bd (g_136 N  A8) fun r9 A9 =>
    some (0, (va_up A9 99 (upd (A9 99) 14 r9)))
  else none
def g_148_42b (N : Nat) (rc42 : Int32 → mS → Option (Int32 × mS)) (x1 : Int32) (A : mS) : Option (Int32 × mS) :=
  bif (a_ic .ge x1 (4 : Int32)) then
    bif (a_in (A 99 14) 4) then
    m_li ((A 6) ((A 99 14)).toNatClampNeg) fun y2 =>
    bif (a_ic .ne y2 (0 : Int32)) then
      g_148_73 N  (0 : Int32) A
    else
      g_148_73 N  (1 : Int32) A
    else none
  else
    bif (a_in x1 4) then
    m_li ((A 6) (x1).toNatClampNeg) fun y3 =>
    bif (a_in (A 99 14) 4) then
    m_li ((A 6) ((A 99 14)).toNatClampNeg) fun y4 =>
    bif (a_ic .le y3 y4) then
      rc42 (x1 + (1 : Int32)) (va_up A 99 (upd (A 99) 14 (A 99 14)))
    else
      rc42 (x1 + (1 : Int32)) (va_up A 99 (upd (A 99) 14 x1))
    else none
    else none
def g_148_42 (N : Nat) : Nat → Int32 → mS → Option (Int32 × mS)
  | 0 => fun _ _ => none
  | n + 1 => g_148_42b N (g_148_42 N n)
def g_148_12b (N : Nat) (rc2 : Int32 → mS → Option (Int32 × mS)) (rc12 : Int32 → Int32 → mS → Option (Int32 × mS)) (x1 : Int32) (x2 : Int32) (A : mS) : Option (Int32 × mS) :=
  bif (a_ic .ge x2 ((A 0) 11)) then
    rc2 (x1 + (1 : Int32)) A
  else
    bif (a_in x1 4) then
    m_li ((A 6) (x1).toNatClampNeg) fun y5 =>
    bif (a_in (((4 : Int32) * x2) + x1) 32) then
    m_li ((A 5) ((((4 : Int32) * x2) + x1)).toNatClampNeg) fun y6 =>
    bif (a_in x1 4) then
    m_st (va_up A 6 (upd (A 6) (x1).toNatClampNeg (y5 + y6))) fun A7 =>
    rc12 x1 (x2 + (1 : Int32)) A7
    else none
    else none
    else none
def g_148_12 (N : Nat) (rc2 : Int32 → mS → Option (Int32 × mS)) : Nat → Int32 → Int32 → mS → Option (Int32 × mS)
  | 0 => fun _ _ _ => none
  | n + 1 => g_148_12b N rc2 (g_148_12 N rc2 n)
def g_148_2b (N : Nat) (rc2 : Int32 → mS → Option (Int32 × mS)) (x1 : Int32) (A : mS) : Option (Int32 × mS) :=
  bif (a_ic .ge x1 (4 : Int32)) then
    g_148_42 N  N (1 : Int32) (va_up A 99 (upd (A 99) 14 (0 : Int32)))
  else
    bif (a_in x1 4) then
    m_st (va_up A 6 (upd (A 6) (x1).toNatClampNeg (0 : Int32))) fun A1 =>
    g_148_12 N rc2 N x1 (0 : Int32) A1
    else none
def g_148_2 (N : Nat) : Nat → Int32 → mS → Option (Int32 × mS)
  | 0 => fun _ _ => none
  | n + 1 => g_148_2b N (g_148_2 N n)
/-- sells -/
def g_148 (N : Nat) (A : mS) : Option (Int32 × mS) :=
  g_148_2 N  N (0 : Int32) A
def g_149_4b (N : Nat) (rc4 : Int32 → Int32 → Int32 → mS → Option (Int32 × mS)) (x1 : Int32) (x2 : Int32) (x3 : Int32) (A : mS) : Option (Int32 × mS) :=
  bif (a_ic .ge x3 (4 : Int32)) then
    bif (a_ic .eq (A 99 15) (0 : Int32)) then
      bif (a_in (A 99 14) 4) then
      m_li ((A 6) ((A 99 14)).toNatClampNeg) fun y1 =>
      bif (a_in (((4 : Int32) * x1) + (A 99 14)) 32) then
      m_li ((A 5) ((((4 : Int32) * x1) + (A 99 14))).toNatClampNeg) fun y2 =>
      some ((x2 - (y1 - y2)), A)
      else none
      else none
    else
      some ((0 : Int32), A)
  else
    bif (a_in x3 4) then
    m_li ((A 6) (x3).toNatClampNeg) fun y3 =>
    bif (a_in (((4 : Int32) * x1) + x3) 32) then
    m_li ((A 5) ((((4 : Int32) * x1) + x3)).toNatClampNeg) fun y4 =>
    bif (a_ic .le (y3 - y4) x2) then
      rc4 x1 x2 (x3 + (1 : Int32)) A
    else
      rc4 x1 (y3 - y4) (x3 + (1 : Int32)) A
    else none
    else none
def g_149_4 (N : Nat) : Nat → Int32 → Int32 → Int32 → mS → Option (Int32 × mS)
  | 0 => fun _ _ _ _ => none
  | n + 1 => g_149_4b N (g_149_4 N n)
/-- harmOf -/
def g_149 (N : Nat) (x1 : Int32) (A : mS) : Option (Int32 × mS) :=
  g_149_4 N  N x1 (0 : Int32) (0 : Int32) A
def g_150_63b (N : Nat) (rc63 : Int32 → Int32 → Int32 → Int32 → mS → Option (Int32 × mS)) (x2 : Int32) (x3 : Int32) (x4 : Int32) (x5 : Int32) (A : mS) : Option (Int32 × mS) :=
  bif (a_ic .ge x5 ((A 0) 11)) then
    bif (a_in (A 99 14) 4) then
    m_li ((A 6) ((A 99 14)).toNatClampNeg) fun y7 =>
    bif (decide (¬ x4 = 0)) then
    m_li ((y7 - x3) / x4) fun y8 =>
    bif (a_ic .ge (x2 - y8) (0 : Int32)) then
      some ((x2 - y8), A)
    else
      some ((0 : Int32), A)
    else none
    else none
  else
    bif (a_in (((4 : Int32) * x5) + (A 99 14)) 32) then
    m_li ((A 5) ((((4 : Int32) * x5) + (A 99 14))).toNatClampNeg) fun y9 =>
    bif (a_ic .le y9 (0 : Int32)) then
      rc63 x2 x3 (x4 + (0 : Int32)) (x5 + (1 : Int32)) A
    else
      rc63 x2 x3 (x4 + (1 : Int32)) (x5 + (1 : Int32)) A
    else none
def g_150_63 (N : Nat) : Nat → Int32 → Int32 → Int32 → Int32 → mS → Option (Int32 × mS)
  | 0 => fun _ _ _ _ _ => none
  | n + 1 => g_150_63b N (g_150_63 N n)
def g_150_37b (N : Nat) (rc37 : Int32 → Int32 → Int32 → mS → Option (Int32 × mS)) (x2 : Int32) (x3 : Int32) (x4 : Int32) (A : mS) : Option (Int32 × mS) :=
  bif (a_ic .ge x4 (4 : Int32)) then
    g_150_63 N  N x2 x3 (0 : Int32) (0 : Int32) A
  else
    bif (a_ic .eq x4 (A 99 14)) then
      rc37 x2 x3 (x4 + (1 : Int32)) A
    else
      bif (a_in x4 4) then
      m_li ((A 6) (x4).toNatClampNeg) fun y5 =>
      bif (a_ic .le y5 x3) then
        rc37 x2 x3 (x4 + (1 : Int32)) A
      else
        bif (a_in x4 4) then
        m_li ((A 6) (x4).toNatClampNeg) fun y6 =>
        rc37 x2 y6 (x4 + (1 : Int32)) A
        else none
      else none
def g_150_37 (N : Nat) : Nat → Int32 → Int32 → Int32 → mS → Option (Int32 × mS)
  | 0 => fun _ _ _ _ => none
  | n + 1 => g_150_37b N (g_150_37 N n)
def g_150_17 (N : Nat) (x2 : Int32) (A : mS) : Option (Int32 × mS) :=
  bif (a_ic .eq (A 99 15) (0 : Int32)) then
    some (x2, A)
  else
    some ((0 : Int32), A)
/-- paysOf -/
def g_150 (N : Nat) (x1 : Int32) (A : mS) : Option (Int32 × mS) :=
  bif (a_in (((4 : Int32) * x1) + (A 99 14)) 32) then
  m_li ((A 5) ((((4 : Int32) * x1) + (A 99 14))).toNatClampNeg) fun y1 =>
  bif (a_ic .ne (A 99 15) (0 : Int32)) then
    g_150_17 N  y1 A
  else
    m_bd (g_132 N (232 : Int32) A) fun r2 A2 =>
    bif (a_ic .ne r2 (0 : Int32)) then
      m_bd (g_132 N (232 : Int32) A2) fun r3 A3 =>
      bif (a_ic .ne r3 (1 : Int32)) then
        g_150_37 N  N y1 (0 : Int32) (0 : Int32) A3
      else
        m_bd (g_149 N x1 A3) fun r4 A4 =>
        some (r4, A4)
    else
      g_150_17 N  y1 A2
  else none
/-- gainOf -/
def g_151 (N : Nat) (x1 : Int32) (A : mS) : Option (Int32 × mS) :=
  m_bd (g_134 N x1 (A 99 14) A) fun r1 A1 =>
  m_bd (g_150 N x1 A1) fun r2 A2 =>
  some ((r1 - r2), A2)
def g_152_104 (N : Nat) (t1 : Int32) (t2 : Int32) (A : mS) : Option (Int32 × mS) :=
  bif (a_in t1 947) then
  m_st (va_up A 0 (upd (A 0) (t1).toNatClampNeg t2)) fun A11 =>
  some (0, (va_up A11 0 (upd (upd (A11 0) 0 (((A11 0) 0) + (1 : Int32))) 1 (A11 99 14))))
  else none
def g_152_83 (N : Nat) (t1 : Int32) (t2 : Int32) (t3 : Int32) (A : mS) : Option (Int32 × mS) :=
  bif (a_in t1 947) then
  m_st (va_up A 0 (upd (A 0) (t1).toNatClampNeg (t2 + t3))) fun A6 =>
  bif (a_ic .ne ((A6 0) 13) (0 : Int32)) then
    bif (decide (¬ ((A6 0) 13) = 0)) then
    m_li (((A6 0) 2) - ((A6 0) 2) / ((A6 0) 13) * ((A6 0) 13)) fun y7 =>
    g_152_104 N  (2 : Int32) y7 A6
    else none
  else
    g_152_104 N  (2 : Int32) (0 : Int32) A6
  else none
def g_152_53 (N : Nat) (rc23 : Int32 → mS → Option (Int32 × mS)) (x1 : Int32) (t0 : Int32) (A : mS) : Option (Int32 × mS) :=
  m_bd (g_132 N (237 : Int32) A) fun r8 A8 =>
  bif (a_ic .le (t0 + r8) (999 : Int32)) then
    bif (a_in ((3 : Int32) + x1) 947) then
    m_st (va_up A8 0 (upd (A8 0) (((3 : Int32) + x1)).toNatClampNeg (t0 + r8))) fun A9 =>
    rc23 (x1 + (1 : Int32)) A9
    else none
  else
    bif (a_in ((3 : Int32) + x1) 947) then
    m_st (va_up A8 0 (upd (A8 0) (((3 : Int32) + x1)).toNatClampNeg (999 : Int32))) fun A10 =>
    rc23 (x1 + (1 : Int32)) A10
    else none
def g_152_23b (N : Nat) (rc23 : Int32 → mS → Option (Int32 × mS)) (x1 : Int32) (A : mS) : Option (Int32 × mS) :=
  bif (a_ic .ge x1 ((A 0) 11)) then
    bif (a_ic .eq (A 99 15) (0 : Int32)) then
      g_152_83 N  (2 : Int32) ((A 0) 2) (0 : Int32) A
    else
      g_152_83 N  (2 : Int32) ((A 0) 2) (1 : Int32) A
  else
    m_bd (g_150 N x1 A) fun r4 A4 =>
    bif (a_in ((3 : Int32) + x1) 947) then
    m_st (va_up A4 99 (upd (A4 99) 17 ((A4 99 17) + r4))) fun A5 =>
    bif (a_ic .ge (((A4 0) (((3 : Int32) + x1)).toNatClampNeg) - r4) (0 : Int32)) then
      g_152_53 N rc23 x1 (((A4 0) (((3 : Int32) + x1)).toNatClampNeg) - r4) A5
    else
      g_152_53 N rc23 x1 (0 : Int32) A5
    else none
def g_152_23 (N : Nat) : Nat → Int32 → mS → Option (Int32 × mS)
  | 0 => fun _ _ => none
  | n + 1 => g_152_23b N (g_152_23 N n)
/-- evening -/
def g_152 (N : Nat) (A : mS) : Option (Int32 × mS) :=
  m_bd (g_147 N  A) fun r1 A1 =>
  m_bd (g_148 N  A1) fun r2 A2 =>
  m_bd (g_135 N (A2 99 14) ((A2 0) 1) ((A2 0) 0) A2) fun r3 A3 =>
  g_152_23 N  N (0 : Int32) (va_up A3 99 (upd (A3 99) 16 ((A2 99 16) + r3)))
/-- go -/
def g_153 (N : Nat) (A : mS) : Option (Int32 × mS) :=
  bif (a_ic .ne ((A 0) 0) (99 : Int32)) then
    m_bd (g_152 N  A) fun r1 A1 =>
    some ((A1 99 14), A1)
  else
    some ((-3 : Int32), A)
def g_154_16 (N : Nat) (x1 : Int32) (A : mS) : Option (Int32 × mS) :=
  m_bd (g_147 N  A) fun r3 A3 =>
  m_bd (g_148 N  A3) fun r4 A4 =>
  bif (a_ic .ne x1 (0 : Int32)) then
    bif (a_ic .ne x1 (1 : Int32)) then
      m_bd (g_150 N (x1 - (10 : Int32)) A4) fun r5 A5 =>
      some (r5, A5)
    else
      bif (a_ic .eq (A4 99 15) (0 : Int32)) then
        bif (a_in (A4 99 14) 4) then
        m_li ((A4 6) ((A4 99 14)).toNatClampNeg) fun y6 =>
        some (y6, A4)
        else none
      else
        some ((0 : Int32), A4)
  else
    some ((A4 99 14), A4)
/-- sold -/
def g_154 (N : Nat) (x1 : Int32) (A : mS) : Option (Int32 × mS) :=
  m_bd (g_112 N x1 (0 : Int32) (1 : Int32) A) fun r1 A1 =>
  bif (a_ic .ne r1 (0 : Int32)) then
    g_154_16 N  x1 A1
  else
    bif (a_ic .lt x1 (10 : Int32)) then
      some ((-10001 : Int32), A1)
    else
      m_bd (g_114 N (x1 - (10 : Int32)) A1) fun r2 A2 =>
      bif (a_ic .ne r2 (0 : Int32)) then
        g_154_16 N  x1 A2
      else
        some ((-10001 : Int32), A2)
def g_155_69 (N : Nat) (t0 : Int32) (A : mS) : Option (Int32 × mS) :=
  m_bd (g_116 N  A) fun r7 A7 =>
  some (t0, A7)
def g_155_33b (N : Nat) (rc33 : Int32 → Int32 → Int32 → mS → Option (Int32 × mS)) (x1 : Int32) (x2 : Int32) (x3 : Int32) (A : mS) : Option (Int32 × mS) :=
  bif (a_ic .ge x3 x1) then
    bif (a_ic .ne x2 (0 : Int32)) then
      bif (a_ic .ne x2 (1 : Int32)) then
        bif (a_ic .ne x2 (2 : Int32)) then
          bif (a_in (((3 : Int32) + x2) - (10 : Int32)) 947) then
          m_li ((A 0) ((((3 : Int32) + x2) - (10 : Int32))).toNatClampNeg) fun y5 =>
          g_155_69 N  y5 A
          else none
        else
          g_155_69 N  (A 99 17) A
      else
        g_155_69 N  (A 99 16) A
    else
      bif (a_ic .ne x1 (0 : Int32)) then
        g_155_69 N  (A 99 14) A
      else
        g_155_69 N  (-5 : Int32) A
  else
    m_bd (g_152 N  A) fun r6 A6 =>
    rc33 x1 x2 (x3 + (1 : Int32)) A6
def g_155_33 (N : Nat) : Nat → Int32 → Int32 → Int32 → mS → Option (Int32 × mS)
  | 0 => fun _ _ _ _ => none
  | n + 1 => g_155_33b N (g_155_33 N n)
def g_155_16 (N : Nat) (x1 : Int32) (x2 : Int32) (A : mS) : Option (Int32 × mS) :=
  m_bd (g_112 N x1 (0 : Int32) (40 : Int32) A) fun r3 A3 =>
  bif (a_ic .ne r3 (0 : Int32)) then
    m_bd (g_115 N  A3) fun r4 A4 =>
    g_155_33 N  N x1 x2 (0 : Int32) (va_up A4 99 (upd (upd (A4 99) 16 (0 : Int32)) 17 (0 : Int32)))
  else
    some ((-10002 : Int32), A3)
/-- run -/
def g_155 (N : Nat) (x1 : Int32) (x2 : Int32) (A : mS) : Option (Int32 × mS) :=
  m_bd (g_112 N x2 (0 : Int32) (2 : Int32) A) fun r1 A1 =>
  bif (a_ic .ne r1 (0 : Int32)) then
    g_155_16 N  x1 x2 A1
  else
    bif (a_ic .lt x2 (10 : Int32)) then
      some ((-10001 : Int32), A1)
    else
      m_bd (g_114 N (x2 - (10 : Int32)) A1) fun r2 A2 =>
      bif (a_ic .ne r2 (0 : Int32)) then
        g_155_16 N  x1 x2 A2
      else
        some ((-10001 : Int32), A2)
/-- withNext -/
def g_156 (N : Nat) (x1 : Int32) (x2 : Int32) (x3 : Int32) (A : mS) : Option (Int32 × mS) :=
  m_bd (g_135 N x3 x2 (((A 0) 0) + x1) A) fun r1 A1 =>
  bif (a_in (((4 : Int32) * (x1 + (1 : Int32))) + x3) 36) then
  m_li ((A1 7) ((((4 : Int32) * (x1 + (1 : Int32))) + x3)).toNatClampNeg) fun y2 =>
  some ((r1 + y2), A1)
  else none
def g_157_94b (N : Nat) (rc89 : Int32 → Int32 → Int32 → mS → Option (Int32 × mS)) (rc94 : Int32 → Int32 → Int32 → Int32 → mS → Option (Int32 × mS)) (x2 : Int32) (x3 : Int32) (x4 : Int32) (x5 : Int32) (A : mS) : Option (Int32 × mS) :=
  m_bd (g_156 N x4 x3 x5 A) fun r7 A7 =>
  bif (a_in (((4 : Int32) * x4) + x3) 36) then
  m_li ((A7 7) ((((4 : Int32) * x4) + x3)).toNatClampNeg) fun y8 =>
  bif (a_ic .eq r7 y8) then
    rc89 x2 x5 (x4 + (1 : Int32)) A7
  else
    rc94 x2 x3 x4 (x5 + (1 : Int32)) A7
  else none
def g_157_94 (N : Nat) (rc89 : Int32 → Int32 → Int32 → mS → Option (Int32 × mS)) : Nat → Int32 → Int32 → Int32 → Int32 → mS → Option (Int32 × mS)
  | 0 => fun _ _ _ _ _ => none
  | n + 1 => g_157_94b N rc89 (g_157_94 N rc89 n)
def g_157_89b (N : Nat) (rc89 : Int32 → Int32 → Int32 → mS → Option (Int32 × mS)) (x2 : Int32) (x3 : Int32) (x4 : Int32) (A : mS) : Option (Int32 × mS) :=
  bif (a_ic .gt x4 x2) then
    bif (a_ic .ne x2 (-1 : Int32)) then
      some (x3, A)
    else
      bif (a_in ((A 0) 1) 36) then
      m_li ((A 7) (((A 0) 1)).toNatClampNeg) fun y4 =>
      some (y4, A)
      else none
  else
    g_157_94 N rc89 N x2 x3 x4 (0 : Int32) A
def g_157_89 (N : Nat) : Nat → Int32 → Int32 → Int32 → mS → Option (Int32 × mS)
  | 0 => fun _ _ _ _ => none
  | n + 1 => g_157_89b N (g_157_89 N n)
def g_157_51b (N : Nat) (rc36 : Int32 → Int32 → mS → Option (Int32 × mS)) (rc40 : Int32 → Int32 → Int32 → mS → Option (Int32 × mS)) (rc51 : Int32 → Int32 → Int32 → Int32 → Int32 → mS → Option (Int32 × mS)) (x2 : Int32) (x3 : Int32) (x4 : Int32) (x5 : Int32) (x6 : Int32) (A : mS) : Option (Int32 × mS) :=
  bif (a_ic .ge x6 (4 : Int32)) then
    bif (a_in (((4 : Int32) * x3) + x4) 36) then
    m_st (va_up A 7 (upd (A 7) ((((4 : Int32) * x3) + x4)).toNatClampNeg x5)) fun A9 =>
    rc40 x2 x3 (x4 + (1 : Int32)) A9
    else none
  else
    m_bd (g_156 N x3 x4 x6 A) fun r10 A10 =>
    bif (a_ic .le r10 x5) then
      rc51 x2 x3 x4 x5 (x6 + (1 : Int32)) A10
    else
      rc51 x2 x3 x4 r10 (x6 + (1 : Int32)) A10
def g_157_51 (N : Nat) (rc36 : Int32 → Int32 → mS → Option (Int32 × mS)) (rc40 : Int32 → Int32 → Int32 → mS → Option (Int32 × mS)) : Nat → Int32 → Int32 → Int32 → Int32 → Int32 → mS → Option (Int32 × mS)
  | 0 => fun _ _ _ _ _ _ => none
  | n + 1 => g_157_51b N rc36 rc40 (g_157_51 N rc36 rc40 n)
def g_157_40b (N : Nat) (rc36 : Int32 → Int32 → mS → Option (Int32 × mS)) (rc40 : Int32 → Int32 → Int32 → mS → Option (Int32 × mS)) (x2 : Int32) (x3 : Int32) (x4 : Int32) (A : mS) : Option (Int32 × mS) :=
  bif (a_ic .ge x4 (4 : Int32)) then
    m_li (x3 + (-1 : Int32)) fun y5 =>
    rc36 x2 y5 A
  else
    m_bd (g_156 N x3 x4 (0 : Int32) A) fun r6 A6 =>
    g_157_51 N rc36 rc40 N x2 x3 x4 r6 (1 : Int32) A6
def g_157_40 (N : Nat) (rc36 : Int32 → Int32 → mS → Option (Int32 × mS)) : Nat → Int32 → Int32 → Int32 → mS → Option (Int32 × mS)
  | 0 => fun _ _ _ _ => none
  | n + 1 => g_157_40b N rc36 (g_157_40 N rc36 n)
def g_157_36b (N : Nat) (rc36 : Int32 → Int32 → mS → Option (Int32 × mS)) (x2 : Int32) (x3 : Int32) (A : mS) : Option (Int32 × mS) :=
  bif (a_ic .lt x3 (0 : Int32)) then
    g_157_89 N  N x2 ((A 0) 1) (0 : Int32) A
  else
    g_157_40 N rc36 N x2 x3 (0 : Int32) A
def g_157_36 (N : Nat) : Nat → Int32 → Int32 → mS → Option (Int32 × mS)
  | 0 => fun _ _ _ => none
  | n + 1 => g_157_36b N (g_157_36 N n)
def g_157_18b (N : Nat) (rc18 : Int32 → Int32 → Int32 → mS → Option (Int32 × mS)) (x1 : Int32) (x2 : Int32) (x3 : Int32) (A : mS) : Option (Int32 × mS) :=
  bif (a_ic .ge x3 (4 : Int32)) then
    g_157_36 N  N x2 (x1 - (1 : Int32)) A
  else
    bif (a_in (((4 : Int32) * x1) + x3) 36) then
    m_st (va_up A 7 (upd (A 7) ((((4 : Int32) * x1) + x3)).toNatClampNeg (0 : Int32))) fun A3 =>
    rc18 x1 x2 (x3 + (1 : Int32)) A3
    else none
def g_157_18 (N : Nat) : Nat → Int32 → Int32 → Int32 → mS → Option (Int32 × mS)
  | 0 => fun _ _ _ _ => none
  | n + 1 => g_157_18b N (g_157_18 N n)
/-- best -/
def g_157 (N : Nat) (x1 : Int32) (x2 : Int32) (A : mS) : Option (Int32 × mS) :=
  m_bd (g_112 N x1 (1 : Int32) (8 : Int32) A) fun r1 A1 =>
  bif (a_ic .ne r1 (0 : Int32)) then
    m_bd (g_112 N x2 (-1 : Int32) (x1 - (1 : Int32)) A1) fun r2 A2 =>
    bif (a_ic .ne r2 (0 : Int32)) then
      g_157_18 N  N x1 x2 (0 : Int32) A2
    else
      some ((-10001 : Int32), A2)
  else
    some ((-10002 : Int32), A1)
def g_158_92 (N : Nat) (rc27 : Int32 → Int32 → Int32 → Int32 → Int32 → Int32 → Int32 → mS → Option (Int32 × mS)) (x1 : Int32) (x2 : Int32) (x3 : Int32) (x4 : Int32) (x5 : Int32) (x6 : Int32) (x7 : Int32) (x8 : Int32) (A : mS) : Option (Int32 × mS) :=
  bif (a_in (((4 : Int32) * x1) + x7) 32) then
  m_st (va_up A 5 (upd (A 5) ((((4 : Int32) * x1) + x7)).toNatClampNeg x8)) fun A11 =>
  rc27 x1 x2 x3 x4 x5 x6 (x7 + (1 : Int32)) A11
  else none
def g_158_82 (N : Nat) (rc27 : Int32 → Int32 → Int32 → Int32 → Int32 → Int32 → Int32 → mS → Option (Int32 × mS)) (rc41 : Int32 → Int32 → Int32 → Int32 → Int32 → Int32 → Int32 → Int32 → Int32 → mS → Option (Int32 × mS)) (x1 : Int32) (x2 : Int32) (x3 : Int32) (x4 : Int32) (x5 : Int32) (x7 : Int32) (x8 : Int32) (x9 : Int32) (x10 : Int32) (t0 : Int32) (A : mS) : Option (Int32 × mS) :=
  bif (a_ic .le x10 x4) then
    rc41 x1 x2 x3 x4 x5 t0 x7 x8 (x9 + (1 : Int32)) A
  else
    rc41 x1 x2 x3 x10 x5 t0 x7 x8 (x9 + (1 : Int32)) A
def g_158_75 (N : Nat) (rc27 : Int32 → Int32 → Int32 → Int32 → Int32 → Int32 → Int32 → mS → Option (Int32 × mS)) (rc41 : Int32 → Int32 → Int32 → Int32 → Int32 → Int32 → Int32 → Int32 → Int32 → mS → Option (Int32 × mS)) (x1 : Int32) (x2 : Int32) (x3 : Int32) (x4 : Int32) (x6 : Int32) (x7 : Int32) (x8 : Int32) (x9 : Int32) (x10 : Int32) (t0 : Int32) (A : mS) : Option (Int32 × mS) :=
  bif (a_ic .le x10 x4) then
    g_158_82 N rc27 rc41 x1 x2 x3 x4 t0 x7 x8 x9 x10 x6 A
  else
    g_158_82 N rc27 rc41 x1 x2 x3 x4 t0 x7 x8 x9 x10 x9 A
def g_158_41b (N : Nat) (rc27 : Int32 → Int32 → Int32 → Int32 → Int32 → Int32 → Int32 → mS → Option (Int32 × mS)) (rc41 : Int32 → Int32 → Int32 → Int32 → Int32 → Int32 → Int32 → Int32 → Int32 → mS → Option (Int32 × mS)) (x1 : Int32) (x2 : Int32) (x3 : Int32) (x4 : Int32) (x5 : Int32) (x6 : Int32) (x7 : Int32) (x8 : Int32) (x9 : Int32) (A : mS) : Option (Int32 × mS) :=
  bif (a_ic .gt x9 (40 : Int32)) then
    g_158_92 N rc27 x1 x2 x3 x4 x5 x6 x7 x8 A
  else
    bif (a_in ((3 : Int32) + x1) 947) then
    m_li ((A 0) (((3 : Int32) + x1)).toNatClampNeg) fun y7 =>
    bif (a_ic .gt x9 y7) then
      g_158_92 N rc27 x1 x2 x3 x4 x5 x6 x7 x8 A
    else
      bif (a_in (((4 : Int32) * x1) + x7) 32) then
      m_st (va_up A 5 (upd (A 5) ((((4 : Int32) * x1) + x7)).toNatClampNeg x9)) fun A8 =>
      m_bd (g_148 N  A8) fun r9 A9 =>
      m_bd (g_151 N x1 A9) fun r10 A10 =>
      bif (a_ic .le (r10 - x3) x4) then
        g_158_75 N rc27 rc41 x1 x2 x3 x4 x6 x7 x8 x9 (r10 - x3) x5 A10
      else
        g_158_75 N rc27 rc41 x1 x2 x3 x4 x6 x7 x8 x9 (r10 - x3) x7 A10
      else none
    else none
def g_158_41 (N : Nat) (rc27 : Int32 → Int32 → Int32 → Int32 → Int32 → Int32 → Int32 → mS → Option (Int32 × mS)) : Nat → Int32 → Int32 → Int32 → Int32 → Int32 → Int32 → Int32 → Int32 → Int32 → mS → Option (Int32 × mS)
  | 0 => fun _ _ _ _ _ _ _ _ _ _ => none
  | n + 1 => g_158_41b N rc27 (g_158_41 N rc27 n)
def g_158_27b (N : Nat) (rc27 : Int32 → Int32 → Int32 → Int32 → Int32 → Int32 → Int32 → mS → Option (Int32 × mS)) (x1 : Int32) (x2 : Int32) (x3 : Int32) (x4 : Int32) (x5 : Int32) (x6 : Int32) (x7 : Int32) (A : mS) : Option (Int32 × mS) :=
  bif (a_ic .ge x7 (4 : Int32)) then
    bif (a_ic .ne x2 (0 : Int32)) then
      bif (a_ic .ne x2 (1 : Int32)) then
        some (x6, A)
      else
        some (x5, A)
    else
      some (x4, A)
  else
    bif (a_in (((4 : Int32) * x1) + x7) 32) then
    m_li ((A 5) ((((4 : Int32) * x1) + x7)).toNatClampNeg) fun y6 =>
    g_158_41 N rc27 N x1 x2 x3 x4 x5 x6 x7 y6 (0 : Int32) A
    else none
def g_158_27 (N : Nat) : Nat → Int32 → Int32 → Int32 → Int32 → Int32 → Int32 → Int32 → mS → Option (Int32 × mS)
  | 0 => fun _ _ _ _ _ _ _ _ => none
  | n + 1 => g_158_27b N (g_158_27 N n)
/-- truly -/
def g_158 (N : Nat) (x1 : Int32) (x2 : Int32) (A : mS) : Option (Int32 × mS) :=
  m_bd (g_114 N x1 A) fun r1 A1 =>
  bif (a_ic .eq r1 (0 : Int32)) then
    some ((-1 : Int32), A1)
  else
    m_bd (g_112 N x2 (0 : Int32) (2 : Int32) A1) fun r2 A2 =>
    bif (a_ic .ne r2 (0 : Int32)) then
      m_bd (g_147 N  A2) fun r3 A3 =>
      m_bd (g_148 N  A3) fun r4 A4 =>
      m_bd (g_151 N x1 A4) fun r5 A5 =>
      g_158_27 N  N x1 x2 r5 (0 : Int32) (-5 : Int32) (-5 : Int32) (0 : Int32) A5
    else
      some ((-1 : Int32), A2)
/-- harm -/
def g_159 (N : Nat) (x1 : Int32) (A : mS) : Option (Int32 × mS) :=
  m_bd (g_114 N x1 A) fun r1 A1 =>
  bif (a_ic .ne r1 (0 : Int32)) then
    m_bd (g_147 N  A1) fun r2 A2 =>
    m_bd (g_148 N  A2) fun r3 A3 =>
    m_bd (g_149 N x1 A3) fun r4 A4 =>
    some (r4, A4)
  else
    some ((-1 : Int32), A1)
def g_160_105 (N : Nat) (rc13 : Int32 → Int32 → Int32 → Int32 → mS → Option (Int32 × mS)) (rc23 : Int32 → Int32 → Int32 → Int32 → Int32 → mS → Option (Int32 × mS)) (x1 : Int32) (x3 : Int32) (x4 : Int32) (x5 : Int32) (x7 : Int32) (t0 : Int32) (t1 : Int32) (A : mS) : Option (Int32 × mS) :=
  bif (a_ic .eq x7 (0 : Int32)) then
    rc23 x1 (t0 + t1) x3 x4 (x5 + (1 : Int32)) A
  else
    bif (a_ic .ne x3 (-5 : Int32)) then
      rc23 x1 (t0 + t1) x3 x4 (x5 + (1 : Int32)) A
    else
      rc23 x1 (t0 + t1) (((10 : Int32) * x4) + x5) x4 (x5 + (1 : Int32)) A
def g_160_98 (N : Nat) (rc13 : Int32 → Int32 → Int32 → Int32 → mS → Option (Int32 × mS)) (rc23 : Int32 → Int32 → Int32 → Int32 → Int32 → mS → Option (Int32 × mS)) (x1 : Int32) (x2 : Int32) (x3 : Int32) (x4 : Int32) (x5 : Int32) (t0 : Int32) (A : mS) : Option (Int32 × mS) :=
  bif (a_ic .eq t0 (0 : Int32)) then
    g_160_105 N rc13 rc23 x1 x3 x4 x5 t0 x2 (0 : Int32) A
  else
    g_160_105 N rc13 rc23 x1 x3 x4 x5 t0 x2 (1 : Int32) A
def g_160_43b (N : Nat) (rc13 : Int32 → Int32 → Int32 → Int32 → mS → Option (Int32 × mS)) (rc23 : Int32 → Int32 → Int32 → Int32 → Int32 → mS → Option (Int32 × mS)) (rc43 : Int32 → Int32 → Int32 → Int32 → Int32 → Int32 → Int32 → mS → Option (Int32 × mS)) (x1 : Int32) (x2 : Int32) (x3 : Int32) (x4 : Int32) (x5 : Int32) (x6 : Int32) (x7 : Int32) (A : mS) : Option (Int32 × mS) :=
  bif (a_ic .ge x7 (4 : Int32)) then
    m_bd (g_148 N  A) fun r6 A6 =>
    m_bd (g_151 N x4 A6) fun r7 A7 =>
    m_bd (g_151 N x5 A7) fun r8 A8 =>
    bif (a_ic .le (r7 + r8) x6) then
      g_160_98 N rc13 rc23 x1 x2 x3 x4 x5 (0 : Int32) A8
    else
      g_160_98 N rc13 rc23 x1 x2 x3 x4 x5 (1 : Int32) A8
  else
    m_bd (g_134 N x4 x7 A) fun r9 A9 =>
    m_bd (g_134 N x5 x7 A9) fun r10 A10 =>
    m_li ((r9 + r10) / (2 : Int32)) fun y11 =>
    m_bd (g_141 N x4 y11 A10) fun r12 A12 =>
    bif (a_in (((4 : Int32) * x4) + x7) 32) then
    m_st (va_up A12 5 (upd (A12 5) ((((4 : Int32) * x4) + x7)).toNatClampNeg r12)) fun A13 =>
    m_bd (g_141 N x5 y11 A13) fun r14 A14 =>
    bif (a_in (((4 : Int32) * x5) + x7) 32) then
    m_st (va_up A14 5 (upd (A14 5) ((((4 : Int32) * x5) + x7)).toNatClampNeg r14)) fun A15 =>
    rc43 x1 x2 x3 x4 x5 x6 (x7 + (1 : Int32)) A15
    else none
    else none
def g_160_43 (N : Nat) (rc13 : Int32 → Int32 → Int32 → Int32 → mS → Option (Int32 × mS)) (rc23 : Int32 → Int32 → Int32 → Int32 → Int32 → mS → Option (Int32 × mS)) : Nat → Int32 → Int32 → Int32 → Int32 → Int32 → Int32 → Int32 → mS → Option (Int32 × mS)
  | 0 => fun _ _ _ _ _ _ _ _ => none
  | n + 1 => g_160_43b N rc13 rc23 (g_160_43 N rc13 rc23 n)
def g_160_23b (N : Nat) (rc13 : Int32 → Int32 → Int32 → Int32 → mS → Option (Int32 × mS)) (rc23 : Int32 → Int32 → Int32 → Int32 → Int32 → mS → Option (Int32 × mS)) (x1 : Int32) (x2 : Int32) (x3 : Int32) (x4 : Int32) (x5 : Int32) (A : mS) : Option (Int32 × mS) :=
  bif (a_ic .ge x5 ((A 0) 11)) then
    rc13 x1 x2 x3 (x4 + (1 : Int32)) A
  else
    m_bd (g_147 N  A) fun r2 A2 =>
    m_bd (g_148 N  A2) fun r3 A3 =>
    m_bd (g_151 N x4 A3) fun r4 A4 =>
    m_bd (g_151 N x5 A4) fun r5 A5 =>
    g_160_43 N rc13 rc23 N x1 x2 x3 x4 x5 (r4 + r5) (0 : Int32) A5
def g_160_23 (N : Nat) (rc13 : Int32 → Int32 → Int32 → Int32 → mS → Option (Int32 × mS)) : Nat → Int32 → Int32 → Int32 → Int32 → Int32 → mS → Option (Int32 × mS)
  | 0 => fun _ _ _ _ _ _ => none
  | n + 1 => g_160_23b N rc13 (g_160_23 N rc13 n)
def g_160_13b (N : Nat) (rc13 : Int32 → Int32 → Int32 → Int32 → mS → Option (Int32 × mS)) (x1 : Int32) (x2 : Int32) (x3 : Int32) (x4 : Int32) (A : mS) : Option (Int32 × mS) :=
  bif (a_ic .ge x4 ((A 0) 11)) then
    bif (a_ic .ne x1 (0 : Int32)) then
      some (x3, A)
    else
      some (x2, A)
  else
    g_160_23 N rc13 N x1 x2 x3 x4 (x4 + (1 : Int32)) A
def g_160_13 (N : Nat) : Nat → Int32 → Int32 → Int32 → Int32 → mS → Option (Int32 × mS)
  | 0 => fun _ _ _ _ _ => none
  | n + 1 => g_160_13b N (g_160_13 N n)
/-- leagues -/
def g_160 (N : Nat) (x1 : Int32) (A : mS) : Option (Int32 × mS) :=
  m_bd (g_112 N x1 (0 : Int32) (1 : Int32) A) fun r1 A1 =>
  bif (a_ic .ne r1 (0 : Int32)) then
    g_160_13 N  N x1 (0 : Int32) (-5 : Int32) (0 : Int32) A1
  else
    some ((-1 : Int32), A1)
/-- beside -/
def g_161 (N : Nat) (x1 : Int32) (A : mS) : Option (Int32 × mS) :=
  bif (a_ic .ne x1 (-1 : Int32)) then
    m_bd (g_113 N x1 A) fun r1 A1 =>
    bif (a_ic .ne r1 (0 : Int32)) then
      bif (a_ic .ne ((A1 0) 14) (20 : Int32)) then
        bif (a_in ((200 : Int32) + ((A1 0) 14)) 947) then
        m_st (va_up A1 0 (upd (A1 0) (((200 : Int32) + ((A1 0) 14))).toNatClampNeg x1)) fun A2 =>
        some (((upd (A2 0) 14 (((A2 0) 14) + (1 : Int32))) 14), (va_up A2 0 (upd (A2 0) 14 (((A2 0) 14) + (1 : Int32)))))
        else none
      else
        some ((-4 : Int32), A1)
    else
      some ((-1 : Int32), A1)
  else
    some ((0 : Int32), (va_up A 0 (upd (A 0) 14 (0 : Int32))))
def g_162_21b (N : Nat) (rc21 : Int32 → Int32 → Int32 → Int32 → mS → Option (Int32 × mS)) (x1 : Int32) (x2 : Int32) (x3 : Int32) (x4 : Int32) (A : mS) : Option (Int32 × mS) :=
  bif (a_ic .ge x4 x1) then
    m_bd (g_116 N  A) fun r4 A4 =>
    some (((A4 99 16) + x3), A4)
  else
    m_bd (g_152 N  A) fun r5 A5 =>
    bif (a_ic .ge x4 ((A5 0) 14)) then
      rc21 x1 x2 (x3 + (0 : Int32)) (x4 + (1 : Int32)) A5
    else
      bif (a_in ((200 : Int32) + x4) 947) then
      m_li ((A5 0) (((200 : Int32) + x4)).toNatClampNeg) fun y6 =>
      bif (a_ic .ne y6 (A5 99 14)) then
        rc21 x1 x2 (x3 + (0 : Int32)) (x4 + (1 : Int32)) A5
      else
        rc21 x1 x2 (x3 + (x2 * ((A5 0) 11))) (x4 + (1 : Int32)) A5
      else none
def g_162_21 (N : Nat) : Nat → Int32 → Int32 → Int32 → Int32 → mS → Option (Int32 × mS)
  | 0 => fun _ _ _ _ _ => none
  | n + 1 => g_162_21b N (g_162_21 N n)
/-- spill -/
def g_162 (N : Nat) (x1 : Int32) (x2 : Int32) (A : mS) : Option (Int32 × mS) :=
  m_bd (g_112 N x1 (1 : Int32) (40 : Int32) A) fun r1 A1 =>
  bif (a_ic .eq r1 (0 : Int32)) then
    some ((-10002 : Int32), A1)
  else
    m_bd (g_112 N x2 (0 : Int32) (99 : Int32) A1) fun r2 A2 =>
    bif (a_ic .ne r2 (0 : Int32)) then
      m_bd (g_115 N  A2) fun r3 A3 =>
      g_162_21 N  N x1 x2 (0 : Int32) (0 : Int32) (va_up A3 99 (upd (A3 99) 16 (0 : Int32)))
    else
      some ((-10002 : Int32), A2)
def g_163_117 (N : Nat) (rc99 : Int32 → Int32 → Int32 → Int32 → Int32 → mS → Option (Int32 × mS)) (x2 : Int32) (x3 : Int32) (x5 : Int32) (x6 : Int32) (t0 : Int32) (A : mS) : Option (Int32 × mS) :=
  bif (a_in x6 8) then
  m_li ((A 8) (x6).toNatClampNeg) fun y13 =>
  bif (a_ic .ge y13 x5) then
    rc99 x2 x3 t0 x5 (x6 + (1 : Int32)) A
  else
    bif (a_in x6 8) then
    m_li ((A 8) (x6).toNatClampNeg) fun y14 =>
    rc99 x2 x3 t0 y14 (x6 + (1 : Int32)) A
    else none
  else none
def g_163_99b (N : Nat) (rc99 : Int32 → Int32 → Int32 → Int32 → Int32 → mS → Option (Int32 × mS)) (x2 : Int32) (x3 : Int32) (x4 : Int32) (x5 : Int32) (x6 : Int32) (A : mS) : Option (Int32 × mS) :=
  bif (a_ic .ge x6 ((A 0) 11)) then
    bif (a_ic .ne x2 (0 : Int32)) then
      some ((x4 - x5), A)
    else
      m_li (x3 ^^^ (-1 : Int32)) fun y7 =>
      some (((((1 : Int32) <<< (((A 0) 11) &&& 31)) - (1 : Int32)) &&& y7), A)
  else
    bif (a_in x6 8) then
    m_li ((A 8) (x6).toNatClampNeg) fun y8 =>
    bif (a_ic .le y8 x4) then
      g_163_117 N rc99 x2 x3 x5 x6 x4 A
    else
      bif (a_in x6 8) then
      m_li ((A 8) (x6).toNatClampNeg) fun y9 =>
      g_163_117 N rc99 x2 x3 x5 x6 y9 A
      else none
    else none
def g_163_99 (N : Nat) : Nat → Int32 → Int32 → Int32 → Int32 → Int32 → mS → Option (Int32 × mS)
  | 0 => fun _ _ _ _ _ _ => none
  | n + 1 => g_163_99b N (g_163_99 N n)
def g_163_49b (N : Nat) (rc32 : Int32 → Int32 → Int32 → Int32 → mS → Option (Int32 × mS)) (rc49 : Int32 → Int32 → Int32 → Int32 → Int32 → Int32 → Int32 → mS → Option (Int32 × mS)) (x1 : Int32) (x2 : Int32) (x3 : Int32) (x4 : Int32) (x5 : Int32) (x6 : Int32) (x7 : Int32) (A : mS) : Option (Int32 × mS) :=
  bif (a_ic .ge x7 ((A 0) 11)) then
    rc32 x1 x2 x3 (x4 + (1 : Int32)) A
  else
    m_bd (g_133 N x7 (A 99 14) x5 x6 A) fun r10 A10 =>
    bif (a_in x7 8) then
    m_li ((A10 8) (x7).toNatClampNeg) fun y11 =>
    bif (a_in x7 8) then
    m_st (va_up A10 8 (upd (A10 8) (x7).toNatClampNeg (y11 + r10))) fun A12 =>
    bif (a_ic .le r10 (0 : Int32)) then
      rc49 x1 x2 (x3 ||| (0 : Int32)) x4 x5 x6 (x7 + (1 : Int32)) A12
    else
      rc49 x1 x2 (x3 ||| ((1 : Int32) <<< (x7 &&& 31))) x4 x5 x6 (x7 + (1 : Int32)) A12
    else none
    else none
def g_163_49 (N : Nat) (rc32 : Int32 → Int32 → Int32 → Int32 → mS → Option (Int32 × mS)) : Nat → Int32 → Int32 → Int32 → Int32 → Int32 → Int32 → Int32 → mS → Option (Int32 × mS)
  | 0 => fun _ _ _ _ _ _ _ _ => none
  | n + 1 => g_163_49b N rc32 (g_163_49 N rc32 n)
def g_163_32b (N : Nat) (rc32 : Int32 → Int32 → Int32 → Int32 → mS → Option (Int32 × mS)) (x1 : Int32) (x2 : Int32) (x3 : Int32) (x4 : Int32) (A : mS) : Option (Int32 × mS) :=
  bif (a_ic .ge x4 x1) then
    m_bd (g_116 N  A) fun r5 A5 =>
    g_163_99 N  N x2 x3 ((A5 8) 0) ((A5 8) 0) (1 : Int32) A5
  else
    m_bd (g_152 N  A) fun r6 A6 =>
    g_163_49 N rc32 N x1 x2 x3 x4 ((A 0) 1) ((A 0) 0) (0 : Int32) A6
def g_163_32 (N : Nat) : Nat → Int32 → Int32 → Int32 → Int32 → mS → Option (Int32 × mS)
  | 0 => fun _ _ _ _ _ => none
  | n + 1 => g_163_32b N (g_163_32 N n)
def g_163_16b (N : Nat) (rc16 : Int32 → Int32 → Int32 → mS → Option (Int32 × mS)) (x1 : Int32) (x2 : Int32) (x3 : Int32) (A : mS) : Option (Int32 × mS) :=
  bif (a_ic .ge x3 (8 : Int32)) then
    m_bd (g_115 N  A) fun r3 A3 =>
    g_163_32 N  N x1 x2 (0 : Int32) (0 : Int32) A3
  else
    bif (a_in x3 8) then
    m_st (va_up A 8 (upd (A 8) (x3).toNatClampNeg (0 : Int32))) fun A4 =>
    rc16 x1 x2 (x3 + (1 : Int32)) A4
    else none
def g_163_16 (N : Nat) : Nat → Int32 → Int32 → Int32 → mS → Option (Int32 × mS)
  | 0 => fun _ _ _ _ => none
  | n + 1 => g_163_16b N (g_163_16 N n)
/-- poor -/
def g_163 (N : Nat) (x1 : Int32) (x2 : Int32) (A : mS) : Option (Int32 × mS) :=
  m_bd (g_112 N x2 (0 : Int32) (1 : Int32) A) fun r1 A1 =>
  bif (a_ic .ne r1 (0 : Int32)) then
    m_bd (g_112 N x1 (1 : Int32) (40 : Int32) A1) fun r2 A2 =>
    bif (a_ic .ne r2 (0 : Int32)) then
      g_163_16 N  N x1 x2 (0 : Int32) A2
    else
      some ((-2 : Int32), A2)
  else
    some ((-1 : Int32), A1)
def g_164_13b (N : Nat) (rc13 : Int32 → Int64 → Int32 → mS → Option (Int64 × mS)) (x1 : Int32) (x2 : Int64) (x4 : Int32) (A : mS) : Option (Int64 × mS) :=
  bif (a_ic .ge x4 x1) then
    m_bd (g_116 N  A) fun r3 A3 =>
    some (x2, A3)
  else
    m_bd (g_136 N  A) fun r4 A4 =>
    m_bd (g_152 N  A4) fun r5 A5 =>
    m_bd (g_135 N (A5 99 14) ((A 0) 1) ((A 0) 0) A5) fun r6 A6 =>
    m_bd (g_135 N r4 ((A 0) 1) ((A 0) 0) A6) fun r7 A7 =>
    bif (a_ic .ge r6 r7) then
      rc13 x1 (x2 ||| (0 : Int64)) (x4 + (1 : Int32)) A7
    else
      rc13 x1 (x2 ||| ((1 : Int64) <<< (Int32.toInt64 x4 &&& 63))) (x4 + (1 : Int32)) A7
def g_164_13 (N : Nat) : Nat → Int32 → Int64 → Int32 → mS → Option (Int64 × mS)
  | 0 => fun _ _ _ _ => none
  | n + 1 => g_164_13b N (g_164_13 N n)
/-- worse -/
def g_164 (N : Nat) (x1 : Int32) (A : mS) : Option (Int64 × mS) :=
  m_bd (g_112 N x1 (1 : Int32) (40 : Int32) A) fun r1 A1 =>
  bif (a_ic .ne r1 (0 : Int32)) then
    m_bd (g_115 N  A1) fun r2 A2 =>
    g_164_13 N  N x1 (0 : Int64) (0 : Int32) A2
  else
    some ((-2 : Int32).toInt64, A1)
/-- book -/
def g_165 (N : Nat) (x1 : Int32) (A : mS) : Option (Int32 × mS) :=
  bif (a_ic .ne x1 (-1 : Int32)) then
    m_bd (g_113 N x1 A) fun r1 A1 =>
    bif (a_ic .ne r1 (0 : Int32)) then
      bif (a_ic .ne ((A1 0) 15) (12 : Int32)) then
        bif (a_in ((220 : Int32) + ((A1 0) 15)) 947) then
        m_st (va_up A1 0 (upd (A1 0) (((220 : Int32) + ((A1 0) 15))).toNatClampNeg x1)) fun A2 =>
        some (((upd (A2 0) 15 (((A2 0) 15) + (1 : Int32))) 15), (va_up A2 0 (upd (A2 0) 15 (((A2 0) 15) + (1 : Int32)))))
        else none
      else
        some ((-4 : Int32), A1)
    else
      some ((-1 : Int32), A1)
  else
    some ((0 : Int32), (va_up A 0 (upd (A 0) 15 (0 : Int32))))
def g_166_32 (N : Nat) (x1 : Int32) (A : mS) : Option (Int32 × mS) :=
  m_bd (g_116 N  A) fun r4 A4 =>
  some (x1, A4)
def g_166_6b (N : Nat) (rc6 : Int32 → Int32 → mS → Option (Int32 × mS)) (x1 : Int32) (x2 : Int32) (A : mS) : Option (Int32 × mS) :=
  bif (a_ic .ge x2 ((A 0) 15)) then
    g_166_32 N  x1 A
  else
    bif (a_ic .ne x1 (-5 : Int32)) then
      g_166_32 N  x1 A
    else
      m_bd (g_152 N  A) fun r2 A2 =>
      bif (a_in ((220 : Int32) + x2) 947) then
      m_li ((A2 0) (((220 : Int32) + x2)).toNatClampNeg) fun y3 =>
      bif (a_ic .eq (A2 99 14) y3) then
        rc6 x1 (x2 + (1 : Int32)) A2
      else
        rc6 x2 (x2 + (1 : Int32)) A2
      else none
def g_166_6 (N : Nat) : Nat → Int32 → Int32 → mS → Option (Int32 × mS)
  | 0 => fun _ _ _ => none
  | n + 1 => g_166_6b N (g_166_6 N n)
/-- looked -/
def g_166 (N : Nat) (A : mS) : Option (Int32 × mS) :=
  m_bd (g_115 N  A) fun r1 A1 =>
  g_166_6 N  N (-5 : Int32) (0 : Int32) A1
/-- ranBody -/
def g_167 (N : Nat) (x1 : Int32) (A : mS) : Option (Int32 × mS) :=
  bif (a_ic .ge (A 99 21) (20 : Int32)) then
    some (0, (va_up A 99 (upd (A 99) 21 ((A 99 21) + (1 : Int32)))))
  else
    bif (a_in (A 99 21) 20) then
    m_st (va_up A 9 (upd (A 9) ((A 99 21)).toNatClampNeg x1)) fun A1 =>
    some (0, (va_up A1 99 (upd (A1 99) 21 ((A1 99 21) + (1 : Int32)))))
    else none
def g_168_11 (N : Nat) (x0 : Int32) (x1 : Int32) (A : mS) : Option (Int32 × mS) :=
  bif (a_ic .ne x1 (2 : Int32)) then
    some ((0 : Int32), A)
  else
    bif (a_ic .eq x0 (5 : Int32)) then
      some ((1 : Int32), A)
    else
      bif (a_ic .ne x0 (6 : Int32)) then
        some ((0 : Int32), A)
      else
        some ((1 : Int32), A)
/-- isUnder -/
def g_168 (N : Nat) (x0 : Int32) (x1 : Int32) (A : mS) : Option (Int32 × mS) :=
  bif (a_ic .eq x1 (0 : Int32)) then
    some ((1 : Int32), A)
  else
    bif (a_ic .eq x1 x0) then
      some ((1 : Int32), A)
    else
      bif (a_ic .ne x1 (1 : Int32)) then
        g_168_11 N  x0 x1 A
      else
        bif (a_ic .eq x0 (4 : Int32)) then
          some ((1 : Int32), A)
        else
          g_168_11 N  x0 x1 A
/-- plainBids -/
def g_169 (N : Nat) (x1 : Int32) (A : mS) : Option (Int32 × mS) :=
  m_bd (g_167 N (1 : Int32) A) fun r1 A1 =>
  some ((x1 + (A1 99 23)), A1)
/-- bidsActs -/
def g_170 (N : Nat) (x1 : Int32) (A : mS) : Option (Int32 × mS) :=
  m_bd (g_168 N (A 99 22) (1 : Int32) A) fun r1 A1 =>
  bif (a_ic .eq r1 (0 : Int32)) then
    bif (a_ic .ne (A1 99 22) (5 : Int32)) then
      m_bd (g_169 N x1 A1) fun r2 A2 =>
      some (r2, A2)
    else
      m_bd (g_167 N (51 : Int32) A1) fun r3 A3 =>
      m_bd (g_169 N x1 A3) fun r4 A4 =>
      some ((r4 ^^^ (A4 99 23)), A4)
  else
    m_bd (g_167 N (11 : Int32) A1) fun r5 A5 =>
    m_bd (g_169 N (x1 * (3 : Int32)) A5) fun r6 A6 =>
    some (r6, A6)
/-- plainPays -/
def g_171 (N : Nat) (x1 : Int32) (A : mS) : Option (Int32 × mS) :=
  m_bd (g_167 N (2 : Int32) A) fun r1 A1 =>
  m_bd (g_170 N x1 A1) fun r2 A2 =>
  some ((r2 - (A2 99 24)), A2)
/-- leaguePays -/
def g_172 (N : Nat) (x1 : Int32) (A : mS) : Option (Int32 × mS) :=
  m_bd (g_167 N (21 : Int32) A) fun r1 A1 =>
  m_bd (g_171 N x1 A1) fun r2 A2 =>
  some ((-r2), A2)
/-- paysActs -/
def g_173 (N : Nat) (x1 : Int32) (A : mS) : Option (Int32 × mS) :=
  bif (a_ic .ne (A 99 22) (6 : Int32)) then
    m_bd (g_168 N (A 99 22) (2 : Int32) A) fun r1 A1 =>
    bif (a_ic .eq r1 (0 : Int32)) then
      m_bd (g_171 N x1 A1) fun r2 A2 =>
      some (r2, A2)
    else
      m_bd (g_172 N x1 A1) fun r3 A3 =>
      some (r3, A3)
  else
    m_bd (g_167 N (61 : Int32) A) fun r4 A4 =>
    m_bd (g_172 N x1 A4) fun r5 A5 =>
    some ((r5 + (A5 99 24)), A5)
/-- plainTells -/
def g_174 (N : Nat) (x1 : Int32) (A : mS) : Option (Int32 × mS) :=
  m_bd (g_167 N (3 : Int32) A) fun r1 A1 =>
  m_bd (g_173 N x1 A1) fun r2 A2 =>
  some ((r2 * (2 : Int32)), A2)
/-- tellsActs -/
def g_175 (N : Nat) (x1 : Int32) (A : mS) : Option (Int32 × mS) :=
  bif (a_ic .ne (A 99 22) (3 : Int32)) then
    bif (a_ic .ne (A 99 22) (4 : Int32)) then
      m_bd (g_174 N x1 A) fun r1 A1 =>
      some (r1, A1)
    else
      m_bd (g_167 N (41 : Int32) A) fun r2 A2 =>
      m_bd (g_174 N (x1 - (1 : Int32)) A2) fun r3 A3 =>
      m_bd (g_170 N (2 : Int32) A3) fun r4 A4 =>
      some ((r3 + r4), A4)
  else
    m_bd (g_167 N (31 : Int32) A) fun r5 A5 =>
    m_bd (g_174 N x1 A5) fun r6 A6 =>
    some ((r6 ^^^ (7 : Int32)), A6)
/-- act -/
def g_176 (N : Nat) (x1 : Int32) (x2 : Int32) (x3 : Int32) (A : mS) : Option (Int32 × mS) :=
  m_bd (g_114 N x1 (va_up A 99 (upd (A 99) 21 (0 : Int32)))) fun r1 A1 =>
  bif (a_ic .eq r1 (0 : Int32)) then
    some ((0 : Int32), A1)
  else
    m_bd (g_112 N x2 (0 : Int32) (2 : Int32) A1) fun r2 A2 =>
    bif (a_ic .ne r2 (0 : Int32)) then
      bif (a_in ((140 : Int32) + x1) 947) then
      m_li ((A2 0) (((140 : Int32) + x1)).toNatClampNeg) fun y3 =>
      bif (a_in ((148 : Int32) + x1) 947) then
      m_st (va_up A2 99 (upd (upd (A2 99) 22 y3) 23 x1)) fun A4 =>
      bif (a_ic .ne x2 (0 : Int32)) then
        m_st (va_up A4 99 (upd (A4 99) 24 ((A2 0) (((148 : Int32) + x1)).toNatClampNeg))) fun A5 =>
        bif (a_ic .ne x2 (1 : Int32)) then
          m_bd (g_175 N x3 A5) fun r6 A6 =>
          some (r6, A6)
        else
          m_bd (g_173 N x3 A5) fun r7 A7 =>
          some (r7, A7)
      else
        m_st (va_up A4 99 (upd (A4 99) 24 ((A2 0) (((148 : Int32) + x1)).toNatClampNeg))) fun A8 =>
        m_bd (g_170 N x3 A8) fun r9 A9 =>
        some (r9, A9)
      else none
      else none
    else
      some ((0 : Int32), A2)
def g_177_10 (N : Nat) (x1 : Int32) (t0 : Int32) (t1 : Int32) (t2 : Int32) (A : mS) : Option (Int32 × mS) :=
  m_bd (g_112 N t0 t1 (t2 - (1 : Int32)) A) fun r1 A1 =>
  bif (a_ic .eq r1 (0 : Int32)) then
    some ((-1 : Int32), A1)
  else
    bif (a_in x1 20) then
    m_li ((A1 9) (x1).toNatClampNeg) fun y2 =>
    some (y2, A1)
    else none
/-- trace -/
def g_177 (N : Nat) (x1 : Int32) (A : mS) : Option (Int32 × mS) :=
  bif (a_ic .ge (A 99 21) (20 : Int32)) then
    g_177_10 N  x1 x1 (0 : Int32) (20 : Int32) A
  else
    g_177_10 N  x1 x1 (0 : Int32) (A 99 21) A
/-- as -/
def g_178 (N : Nat) (x1 : Int32) (x2 : Int32) (A : mS) : Option (Int32 × mS) :=
  m_bd (g_114 N x1 A) fun r1 A1 =>
  bif (a_ic .eq r1 (0 : Int32)) then
    some ((-1 : Int32), A1)
  else
    m_bd (g_112 N x2 (0 : Int32) (6 : Int32) A1) fun r2 A2 =>
    bif (a_ic .ne r2 (0 : Int32)) then
      bif (a_in ((140 : Int32) + x1) 947) then
      m_li ((A2 0) (((140 : Int32) + x1)).toNatClampNeg) fun y3 =>
      m_bd (g_168 N y3 x2 A2) fun r4 A4 =>
      bif (a_ic .eq r4 (0 : Int32)) then
        some ((-6 : Int32), A4)
      else
        bif (a_in ((148 : Int32) + x1) 947) then
        m_li ((A4 0) (((148 : Int32) + x1)).toNatClampNeg) fun y5 =>
        some (y5, A4)
        else none
      else none
    else
      some ((-1 : Int32), A2)
def g_179_2b (N : Nat) (rc2 : Int32 → mS → Option (Int32 × mS)) (x1 : Int32) (A : mS) : Option (Int32 × mS) :=
  bif (a_ic .ge x1 (947 : Int32)) then
    some (((A 0) 11), (va_up A 99 (upd (A 99) 4 (1 : Int32))))
  else
    bif (a_in x1 947) then
    m_li ((A 0) (x1).toNatClampNeg) fun y1 =>
    bif (a_in x1 947) then
    m_st (va_up A 1 (upd (A 1) (x1).toNatClampNeg y1)) fun A2 =>
    rc2 (x1 + (1 : Int32)) A2
    else none
    else none
def g_179_2 (N : Nat) : Nat → Int32 → mS → Option (Int32 × mS)
  | 0 => fun _ _ => none
  | n + 1 => g_179_2b N (g_179_2 N n)
/-- image -/
def g_179 (N : Nat) (A : mS) : Option (Int32 × mS) :=
  g_179_2 N  N (0 : Int32) A
def g_180_7b (N : Nat) (rc7 : Int32 → mS → Option (Int32 × mS)) (x1 : Int32) (A : mS) : Option (Int32 × mS) :=
  bif (a_ic .ge x1 (947 : Int32)) then
    some (((A 0) 11), A)
  else
    bif (a_in x1 947) then
    m_li ((A 1) (x1).toNatClampNeg) fun y1 =>
    bif (a_in x1 947) then
    m_st (va_up A 0 (upd (A 0) (x1).toNatClampNeg y1)) fun A2 =>
    rc7 (x1 + (1 : Int32)) A2
    else none
    else none
def g_180_7 (N : Nat) : Nat → Int32 → mS → Option (Int32 × mS)
  | 0 => fun _ _ => none
  | n + 1 => g_180_7b N (g_180_7 N n)
/-- undo -/
def g_180 (N : Nat) (A : mS) : Option (Int32 × mS) :=
  bif (a_ic .ne (A 99 4) (0 : Int32)) then
    g_180_7 N  N (0 : Int32) A
  else
    some ((-3 : Int32), A)
/-- count -/
def g_181 (N : Nat) (x1 : Int32) (A : mS) : Option (Int32 × mS) :=
  if (a_tsw 0 6 35 [2, 7, 12, 17, 22, 27, 32] x1) = 2 then
    some (((A 0) 11), A)
  else if (a_tsw 0 6 35 [2, 7, 12, 17, 22, 27, 32] x1) = 7 then
    some (((A 0) 12), A)
  else if (a_tsw 0 6 35 [2, 7, 12, 17, 22, 27, 32] x1) = 12 then
    some (((A 0) 13), A)
  else if (a_tsw 0 6 35 [2, 7, 12, 17, 22, 27, 32] x1) = 17 then
    some (((A 0) 14), A)
  else if (a_tsw 0 6 35 [2, 7, 12, 17, 22, 27, 32] x1) = 22 then
    some (((A 0) 15), A)
  else if (a_tsw 0 6 35 [2, 7, 12, 17, 22, 27, 32] x1) = 27 then
    some (((A 0) 16), A)
  else if (a_tsw 0 6 35 [2, 7, 12, 17, 22, 27, 32] x1) = 32 then
    some ((A 99 21), A)
  else if (a_tsw 0 6 35 [2, 7, 12, 17, 22, 27, 32] x1) = 35 then
    some ((-1 : Int32), A)
  else none
