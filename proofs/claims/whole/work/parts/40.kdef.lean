/-! 40.kdef: the class's methods as pure functions (by program); the heap that they work in -/
def m_op {β : Type} (o : Option Nat) (f : Option β) (g : Nat → Option β) : Option β := match o with
  | none => f
  | some a => g a
/-- one of the people, by its reference: class, kind, number, v -/
def bdr (R : List aC) (a : Nat) : Option (Nat × Int32 × Int32 × Int32) := if 33 ≤ a then (match R[a - 33]? with
  | some (.inr (ci, [.int k, .int n, .int v])) => some (ci, k, n, v)
  | _ => none) else none
/-- a valley by its reference: its three rows, rule, gift -/
def vly (R : List aC) (a : Nat) : Option (Nat × Nat × Nat × Int32 × Int32) := if 33 ≤ a then (match R[a - 33]? with
  | some (.inr (9, [.ref x, .ref y, .ref z, .int k, .int n])) => some (x, y, z, k, n)
  | _ => none) else none
/-- a row of numbers by its reference -/
def iar (R : List aC) (a : Nat) : Option (Nat × (Nat → Int32)) := if 33 ≤ a then (match R[a - 33]? with
  | some (.inl (0, n, .inl f)) => some (n, f)
  | _ => none) else none
def m_ob {β : Type} (o : Option (Nat × Int32 × Int32 × Int32)) (f : Nat → Int32 → Int32 → Int32 → Option β) : Option β := match o with
  | some (a, b, c, d) => f a b c d
  | none => none
def m_vo {β : Type} (o : Option (Nat × Nat × Nat × Int32 × Int32)) (f : Nat → Nat → Nat → Int32 → Int32 → Option β) : Option β := match o with
  | some (a, b, c, d, e) => f a b c d e
  | none => none
def m_ia {β : Type} (o : Option (Nat × (Nat → Int32))) (f : Nat → (Nat → Int32) → Option β) : Option β := match o with
  | some (a, b) => f a b
  | none => none
/-- the heap: the class's cells (rows and fields C, people P, the valley held, the image), the model's (Mo), what is made later (R) -/
def hX (C : mS) (P : Nat → Option Nat) (vl kp : Option Nat) (Mo : Nat → aC) (R : List aC) : List aC :=
  .inr (11, [.ref 1, .ref 9, .ref 13, .ref 18, .ref 19, .ref 20, .ref 21, va_rf kp]) ::
  .inr (10, [.ref 2, .int (C 90 1), .int (C 90 2), va_rf vl, .int (C 90 4), .int (C 90 5), .ref 3, .int (C 90 7), .int (C 90 8), .ref 4, .ref 5, .ref 6, .int (C 90 12), .ref 7, .int (C 90 14), .ref 8, .int (C 90 16)]) ::
  .inl (0, 120, .inl (C 0)) ::
  .inl (0, 12, .inl (C 1)) ::
  .inl (2, 8, .inr (.inr (.inr (.inr P)))) ::
  .inl (0, 8, .inl (C 2)) ::
  .inl (0, 32, .inl (C 3)) ::
  .inl (0, 20, .inl (C 4)) ::
  .inl (0, 12, .inl (C 5)) ::
  .inr (5, [.ref 10, .ref 11, .ref 12, .int (C 91 3), .int (C 91 4), .int (C 91 5), .int (C 91 6), .ref 2, .int (C 91 8), .int (C 91 9), .int (C 91 10)]) ::
  .inl (0, 120, .inl (C 6)) ::
  .inl (0, 10, .inl (C 7)) ::
  .inl (0, 10, .inl (C 8)) ::
  .inr (2, [.ref 1, .ref 14, .ref 15, .ref 16, .ref 17, .int (C 92 5), .int (C 92 6), .int (C 92 7), .int (C 92 8), .int (C 92 9)]) ::
  .inl (0, 8, .inl (C 9)) ::
  .inl (0, 32, .inl (C 10)) ::
  .inl (0, 4, .inl (C 11)) ::
  .inl (0, 5, .inl (C 12)) ::
  .inl (0, 21, .inl (C 13)) ::
  .inl (0, 8, .inl (C 14)) ::
  .inl (0, 32, .inl (C 15)) ::
  .inl (0, 36, .inl (C 16)) ::
  Mo 0 :: Mo 1 :: Mo 2 :: Mo 3 :: Mo 4 :: Mo 5 :: Mo 6 :: Mo 7 :: Mo 8 :: Mo 9 :: Mo 10 :: R

def k_66_35 (N : Nat) (P : Nat → Option Nat) (vl : Option Nat) (R : List aC) (rc4 : Nat → Int32 → Int32 → Int32 → mS → Option (Int32 × mS)) (x0 : Nat) (x2 : Int32) (x4 : Int32) (x5 : Int32) (x6 : Int32) (t0 : Int32) (C : mS) : Option (Int32 × mS) :=
  m_li (x6 / (100 : Int32)) fun y8 =>
  m_li (y8 - y8 / (3 : Int32) * (3 : Int32)) fun y9 =>
  bif (a_ic .ne y9 t0) then
    rc4 x0 x2 ((x4 <<< ((1 : Int32) &&& 31)) ||| (0 : Int32)) (x5 + (1 : Int32)) C
  else
    rc4 x0 x2 ((x4 <<< ((1 : Int32) &&& 31)) ||| (1 : Int32)) (x5 + (1 : Int32)) C
def k_66_4b (N : Nat) (P : Nat → Option Nat) (vl : Option Nat) (R : List aC) (rc4 : Nat → Int32 → Int32 → Int32 → mS → Option (Int32 × mS)) (x0 : Nat) (x2 : Int32) (x4 : Int32) (x5 : Int32) (C : mS) : Option (Int32 × mS) :=
  bif (a_ic .ge x5 x2) then
    bif (a_ic .ne (x4 &&& (1 : Int32)) (1 : Int32)) then
      some ((0 : Int32), C)
    else
      some ((1 : Int32), C)
  else
    m_vo (vly R x0) fun cr1 er1 ar1 ru1 gi1 =>
    m_ia (iar R cr1) fun n2 f2 =>
    bif (a_in x5 n2) then
    m_li (f2 (x5).toNatClampNeg) fun y3 =>
    bif (a_ic .lt y3 (0 : Int32)) then
      bif (a_ic .ne y3 (-1 : Int32)) then
        bif (a_ic .ne y3 (-2 : Int32)) then
          rc4 x0 x2 ((x4 >>> ((1 : Int32) &&& 31)) ||| (x4 &&& (1 : Int32))) (x5 + (1 : Int32)) C
        else
          m_li ((x4 &&& (1 : Int32)) ||| (-2 : Int32)) fun y4 =>
          rc4 x0 x2 ((x4 >>> ((1 : Int32) &&& 31)) &&& y4) (x5 + (1 : Int32)) C
      else
        rc4 x0 x2 (x4 ^^^ (1 : Int32)) (x5 + (1 : Int32)) C
    else
      m_li (y3 / (300 : Int32)) fun y5 =>
      bif (a_in y5 5) then
      m_li ((C 12) (y5).toNatClampNeg) fun y6 =>
      m_li (y3 - y3 / (100 : Int32) * (100 : Int32)) fun y7 =>
      bif (a_ic .ge y6 y7) then
        bif (a_ic .le y6 y7) then
          k_66_35 N P vl R rc4 x0 x2 x4 x5 y3 (1 : Int32) C
        else
          k_66_35 N P vl R rc4 x0 x2 x4 x5 y3 (2 : Int32) C
      else
        k_66_35 N P vl R rc4 x0 x2 x4 x5 y3 (0 : Int32) C
      else none
    else none
def k_66_4 (N : Nat) (P : Nat → Option Nat) (vl : Option Nat) (R : List aC) : Nat → Nat → Int32 → Int32 → Int32 → mS → Option (Int32 × mS)
  | 0 => fun _ _ _ _ _ => none
  | n + 1 => k_66_4b N P vl R (k_66_4 N P vl R n)
/-- SoldWeather$Valley.holds -/
def k_66 (N : Nat) (P : Nat → Option Nat) (vl : Option Nat) (R : List aC) (x0 : Nat) (x1 : Int32) (x2 : Int32) (C : mS) : Option (Int32 × mS) :=
  k_66_4 N P vl R  N x0 x2 (0 : Int32) x1 C
def k_65_6b (N : Nat) (P : Nat → Option Nat) (vl : Option Nat) (R : List aC) (rc6 : Nat → Int32 → Int32 → Int32 → mS → Option (Int32 × mS)) (x0 : Nat) (x2 : Int32) (x3 : Int32) (x4 : Int32) (C : mS) : Option (Int32 × mS) :=
  m_vo (vly R x0) fun cr1 er1 ar1 ru1 gi1 =>
  m_ia (iar R er1) fun n2 f2 =>
  bif (a_ic .ge x4 (Int32.ofNat n2)) then
    some (x2, C)
  else
    bif (a_in x4 n2) then
    m_li (f2 (x4).toNatClampNeg) fun y3 =>
    m_bd (k_66 N P vl R x0 x3 y3 C) fun r4 C4 =>
    bif (a_ic .eq r4 (0 : Int32)) then
      bif (a_in x4 n2) then
      m_li (f2 (x4).toNatClampNeg) fun y5 =>
      rc6 x0 x2 y5 (x4 + (1 : Int32)) C4
      else none
    else
      m_ia (iar R ar1) fun n6 f6 =>
      bif (a_in x4 n6) then
      m_li (f6 (x4).toNatClampNeg) fun y7 =>
      bif (a_in x4 n2) then
      m_li (f2 (x4).toNatClampNeg) fun y8 =>
      rc6 x0 (x2 + y7) y8 (x4 + (1 : Int32)) C4
      else none
      else none
    else none
def k_65_6 (N : Nat) (P : Nat → Option Nat) (vl : Option Nat) (R : List aC) : Nat → Nat → Int32 → Int32 → Int32 → mS → Option (Int32 × mS)
  | 0 => fun _ _ _ _ _ => none
  | n + 1 => k_65_6b N P vl R (k_65_6 N P vl R n)
/-- SoldWeather$Valley.worth -/
def k_65 (N : Nat) (P : Nat → Option Nat) (vl : Option Nat) (R : List aC) (x0 : Nat) (C : mS) : Option (Int32 × mS) :=
  k_65_6 N P vl R  N x0 (0 : Int32) (0 : Int32) (0 : Int32) C
/-- SoldWeather$Course.worth -/
def k_32 (N : Nat) (P : Nat → Option Nat) (vl : Option Nat) (R : List aC) (x1 : Option Nat) (x2 : Int32) (x3 : Int32) (x4 : Int32) (C : mS) : Option (Int32 × mS) :=
  m_op x1 (
    m_op vl (
      some ((0 : Int32), C)) fun a1 =>
    some ((0 : Int32), C)) fun a0 =>
  m_op vl (
    some ((0 : Int32), C)) fun a2 =>
  m_li (x3 - x3 / (7 : Int32) * (7 : Int32)) fun y3 =>
  m_ob (bdr R a0) fun ci4 ka4 nu4 va4 =>
  bif List.contains [0, 1, 3, 4, 6, 7, 8] ci4 then
  m_vo (vly R a2) fun cr6 er6 ar6 ru6 gi6 =>
  m_bd (k_65 N P vl R a2 (va_up C 12 (upd (upd (upd (upd (upd (C 12) 0 x2) 1 x4) 2 y3) 3 nu4) 4 ka4))) fun r5 C5 =>
  some (r5, C5)
  else none
def k_1_12b (N : Nat) (P : Nat → Option Nat) (vl : Option Nat) (R : List aC) (rc12 : Nat → Int32 → Int32 → Int32 → mS → Option (Int32 × mS)) (x0 : Nat) (x2 : Int32) (x3 : Int32) (x4 : Int32) (C : mS) : Option (Int32 × mS) :=
  bif (a_ic .ge x4 (4 : Int32)) then
    m_bd (k_32 N P vl R (some x0) x2 (C 92 7) (C 92 8) C) fun r2 C2 =>
    m_ob (bdr R x0) fun ci3 ka3 nu3 va3 =>
    bif List.contains [0, 1, 3, 4, 6, 7, 8] ci3 then
    m_li ((va3 * x3) / (10 : Int32)) fun y4 =>
    some ((r2 + y4), C2)
    else none
  else
    m_bd (k_32 N P vl R (some x0) x4 ((C 92 7) + (1 : Int32)) x2 C) fun r5 C5 =>
    m_li (if x3 < r5 then r5 else x3) fun y6 =>
    rc12 x0 x2 y6 (x4 + (1 : Int32)) C5
def k_1_12 (N : Nat) (P : Nat → Option Nat) (vl : Option Nat) (R : List aC) : Nat → Nat → Int32 → Int32 → Int32 → mS → Option (Int32 × mS)
  | 0 => fun _ _ _ _ _ => none
  | n + 1 => k_1_12b N P vl R (k_1_12 N P vl R n)
/-- SoldWeather$Ahead.wish -/
def k_1 (N : Nat) (P : Nat → Option Nat) (vl : Option Nat) (R : List aC) (x0 : Nat) (x2 : Int32) (C : mS) : Option (Int32 × mS) :=
  m_bd (k_32 N P vl R (some x0) (0 : Int32) ((C 92 7) + (1 : Int32)) x2 C) fun r1 C1 =>
  k_1_12 N P vl R  N x0 x2 r1 (1 : Int32) C1
/-- SoldWeather$Bidder.began -/
def k_8 (N : Nat) (P : Nat → Option Nat) (vl : Option Nat) (R : List aC) (x1 : Int32) (C : mS) : Option (Int32 × mS) :=
  bif (a_ic .le ((upd (C 13) 0 (((C 13) 0) + (1 : Int32))) 0) (0 : Int32)) then
    m_st (va_up C 13 (upd (C 13) 0 (((C 13) 0) + (1 : Int32)))) fun C1 =>
    some (0, C1)
  else
    m_st (va_up C 13 (upd (C 13) 0 (((C 13) 0) + (1 : Int32)))) fun C2 =>
    bif (a_ic .ge ((C2 13) 0) (21 : Int32)) then
      some (0, C2)
    else
      bif (a_in ((C2 13) 0) 21) then
      m_st (va_up C2 13 (upd (C2 13) (((C2 13) 0)).toNatClampNeg x1)) fun C3 =>
      some (0, C3)
      else none
/-- SoldWeather$Bidder.bids -/
def k_5 (N : Nat) (P : Nat → Option Nat) (vl : Option Nat) (R : List aC) (x0 : Nat) (x1 : Int32) (C : mS) : Option (Int32 × mS) :=
  m_bd (k_8 N P vl R (1 : Int32) C) fun r1 C1 =>
  m_ob (bdr R x0) fun ci2 ka2 nu2 va2 =>
  bif List.contains [0, 1, 3, 4, 6, 7, 8] ci2 then
  some ((x1 + nu2), C1)
  else none
/-- SoldWeather$Low.bids -/
def k_38 (N : Nat) (P : Nat → Option Nat) (vl : Option Nat) (R : List aC) (x0 : Nat) (x1 : Int32) (C : mS) : Option (Int32 × mS) :=
  m_bd (k_8 N P vl R (11 : Int32) C) fun r1 C1 =>
  m_ob (bdr R x0) fun ci3 ka3 nu3 va3 =>
  m_bd (k_5 N P vl R x0 (x1 * (3 : Int32)) C1) fun r2 C2 =>
  some (r2, C2)
/-- SoldWeather$Sharing.bids -/
def k_60 (N : Nat) (P : Nat → Option Nat) (vl : Option Nat) (R : List aC) (x0 : Nat) (x1 : Int32) (C : mS) : Option (Int32 × mS) :=
  m_bd (k_8 N P vl R (51 : Int32) C) fun r1 C1 =>
  m_ob (bdr R x0) fun ci3 ka3 nu3 va3 =>
  m_bd (k_5 N P vl R x0 x1 C1) fun r2 C2 =>
  bif List.contains [0, 1, 3, 4, 6, 7, 8] ci3 then
  some ((r2 ^^^ nu3), C2)
  else none
/-- SoldWeather$Bidder.pays -/
def k_6 (N : Nat) (P : Nat → Option Nat) (vl : Option Nat) (R : List aC) (x0 : Nat) (x1 : Int32) (C : mS) : Option (Int32 × mS) :=
  m_bd (k_8 N P vl R (2 : Int32) C) fun r1 C1 =>
  m_ob (bdr R x0) fun ci3 ka3 nu3 va3 =>
  m_bd (if ci3 = 0 then k_5 N P vl R x0 x1 C1 else if ci3 = 1 then k_5 N P vl R x0 x1 C1 else if ci3 = 3 then k_5 N P vl R x0 x1 C1 else if ci3 = 4 then k_38 N P vl R x0 x1 C1 else if ci3 = 6 then k_38 N P vl R x0 x1 C1 else if ci3 = 7 then k_60 N P vl R x0 x1 C1 else if ci3 = 8 then k_5 N P vl R x0 x1 C1 else none) fun r2 C2 =>
  bif List.contains [0, 1, 3, 4, 6, 7, 8] ci3 then
  some ((r2 - va3), C2)
  else none
/-- SoldWeather$League.pays -/
def k_35 (N : Nat) (P : Nat → Option Nat) (vl : Option Nat) (R : List aC) (x0 : Nat) (x1 : Int32) (C : mS) : Option (Int32 × mS) :=
  m_bd (k_8 N P vl R (21 : Int32) C) fun r1 C1 =>
  m_ob (bdr R x0) fun ci3 ka3 nu3 va3 =>
  m_bd (k_6 N P vl R x0 x1 C1) fun r2 C2 =>
  some ((-r2), C2)
/-- SoldWeather$Told.pays -/
def k_63 (N : Nat) (P : Nat → Option Nat) (vl : Option Nat) (R : List aC) (x0 : Nat) (x1 : Int32) (C : mS) : Option (Int32 × mS) :=
  m_bd (k_8 N P vl R (61 : Int32) C) fun r1 C1 =>
  m_ob (bdr R x0) fun ci3 ka3 nu3 va3 =>
  m_bd (k_35 N P vl R x0 x1 C1) fun r2 C2 =>
  bif List.contains [0, 1, 3, 4, 6, 7, 8] ci3 then
  some ((r2 + va3), C2)
  else none
/-- SoldWeather$Bidder.tells -/
def k_7 (N : Nat) (P : Nat → Option Nat) (vl : Option Nat) (R : List aC) (x0 : Nat) (x1 : Int32) (C : mS) : Option (Int32 × mS) :=
  m_bd (k_8 N P vl R (3 : Int32) C) fun r1 C1 =>
  m_ob (bdr R x0) fun ci3 ka3 nu3 va3 =>
  m_bd (if ci3 = 0 then k_6 N P vl R x0 x1 C1 else if ci3 = 1 then k_6 N P vl R x0 x1 C1 else if ci3 = 3 then k_35 N P vl R x0 x1 C1 else if ci3 = 4 then k_6 N P vl R x0 x1 C1 else if ci3 = 6 then k_6 N P vl R x0 x1 C1 else if ci3 = 7 then k_35 N P vl R x0 x1 C1 else if ci3 = 8 then k_63 N P vl R x0 x1 C1 else none) fun r2 C2 =>
  some ((r2 * (2 : Int32)), C2)
/-- SoldWeather$Ahead.tells -/
def k_2 (N : Nat) (P : Nat → Option Nat) (vl : Option Nat) (R : List aC) (x0 : Nat) (x1 : Int32) (C : mS) : Option (Int32 × mS) :=
  m_bd (k_8 N P vl R (31 : Int32) C) fun r1 C1 =>
  m_ob (bdr R x0) fun ci3 ka3 nu3 va3 =>
  m_bd (k_7 N P vl R x0 x1 C1) fun r2 C2 =>
  some ((r2 ^^^ (7 : Int32)), C2)
/-- SoldWeather$Bidder.wish -/
def k_4 (N : Nat) (P : Nat → Option Nat) (vl : Option Nat) (R : List aC) (x0 : Nat) (x2 : Int32) (C : mS) : Option (Int32 × mS) :=
  m_bd (k_32 N P vl R (some x0) x2 (C 92 7) (C 92 8) C) fun r1 C1 =>
  some (r1, C1)
/-- SoldWeather$Course.begin -/
def k_10 (N : Nat) (P : Nat → Option Nat) (vl : Option Nat) (R : List aC) (C : mS) : Option (Int32 × mS) :=
  some (0, (va_up (va_up C 9 (va_cpy (C 2) (C 9) 0 0 8)) 92 (upd (upd (upd (C 92) 6 (C 90 8)) 7 (C 90 4)) 8 (C 90 5))))
/-- SoldWeather$Course.keep -/
def k_11 (N : Nat) (P : Nat → Option Nat) (vl : Option Nat) (R : List aC) (C : mS) : Option (Int32 × mS) :=
  some (0, (va_up (va_up C 2 (va_cpy (C 9) (C 2) 0 0 8)) 90 (upd (upd (upd (C 90) 4 (C 92 7)) 5 (C 92 8)) 8 (C 92 6))))
/-- SoldWeather$Course.putBid -/
def k_14 (N : Nat) (P : Nat → Option Nat) (vl : Option Nat) (R : List aC) (x1 : Int32) (x2 : Int32) (x3 : Int32) (C : mS) : Option (Int32 × mS) :=
  bif (a_in x1 8) then
  m_li ((C 9) (x1).toNatClampNeg) fun y1 =>
  m_li (if x3 < y1 then x3 else y1) fun y2 =>
  m_li (if (0 : Int32) < y2 then y2 else (0 : Int32)) fun y3 =>
  bif (a_in ((x1 * (4 : Int32)) + x2) 32) then
  m_st (va_up C 10 (upd (C 10) (((x1 * (4 : Int32)) + x2)).toNatClampNeg y3)) fun C4 =>
  some (0, C4)
  else none
  else none
/-- SoldWeather$World.isOne -/
def k_69 (N : Nat) (P : Nat → Option Nat) (vl : Option Nat) (R : List aC) (x1 : Int32) (C : mS) : Option (Int32 × mS) :=
  bif (a_ic .lt x1 (0 : Int32)) then
    some ((0 : Int32), C)
  else
    bif (a_ic .ge x1 (C 90 12)) then
      some ((0 : Int32), C)
    else
      some ((1 : Int32), C)
/-- SoldWeather$World.one -/
def k_70 (N : Nat) (P : Nat → Option Nat) (vl : Option Nat) (R : List aC) (x1 : Int32) (C : mS) : Option ((Option Nat) × mS) :=
  m_bd (k_69 N P vl R x1 C) fun r1 C1 =>
  bif (a_ic .eq r1 (0 : Int32)) then
    some (none, C1)
  else
    bif (a_in x1 8) then
    m_op (P (x1).toNatClampNeg) (
      some (none, C1)) fun a2 =>
    some (some a2, C1)
    else none
/-- SoldWeather$Course.one -/
def k_28 (N : Nat) (P : Nat → Option Nat) (vl : Option Nat) (R : List aC) (x1 : Int32) (C : mS) : Option ((Option Nat) × mS) :=
  m_bd (k_70 N P vl R x1 C) fun r1 C1 =>
  m_op r1 (
    some (none, C1)) fun a2 =>
  some (some a2, C1)
/-- SoldWeather$League.wish -/
def k_34 (N : Nat) (P : Nat → Option Nat) (vl : Option Nat) (R : List aC) (x0 : Nat) (x2 : Int32) (C : mS) : Option (Int32 × mS) :=
  m_bd (k_32 N P vl R (some x0) x2 (C 92 7) (C 92 8) C) fun r1 C1 =>
  m_ob (bdr R x0) fun ci2 ka2 nu2 va2 =>
  bif List.contains [0, 1, 3, 4, 6, 7, 8] ci2 then
  m_bd (k_28 N P vl R va2 C1) fun r3 C3 =>
  m_op r3 (
    bif (a_ic .eq va2 nu2) then
      some (r1, C3)
    else
      some (r1, C3)) fun a4 =>
  bif (a_ic .eq va2 nu2) then
    some (r1, C3)
  else
    m_ob (bdr R a4) fun ci5 ka5 nu5 va5 =>
    bif (List.contains [3, 7, 8] ci5 || List.contains [0, 1, 4, 6] ci5) then
    m_li (bif List.contains [3, 7, 8] ci5 then 1 else 0) fun y6 =>
    bif (a_ic .ne y6 (0 : Int32)) then
      m_bd (k_32 N P vl R (some a4) x2 (C3 92 7) (C3 92 8) C3) fun r7 C7 =>
      m_li ((r1 + r7) / (2 : Int32)) fun y8 =>
      some (y8, C7)
    else
      some (r1, C3)
    else none
  else none
/-- SoldWeather$Low.wish -/
def k_37 (N : Nat) (P : Nat → Option Nat) (vl : Option Nat) (R : List aC) (x0 : Nat) (x2 : Int32) (C : mS) : Option (Int32 × mS) :=
  m_bd (k_32 N P vl R (some x0) x2 (C 92 7) (C 92 8) C) fun r1 C1 =>
  m_ob (bdr R x0) fun ci2 ka2 nu2 va2 =>
  bif List.contains [0, 1, 3, 4, 6, 7, 8] ci2 then
  bif (a_ic .ge va2 (0 : Int32)) then
    bif (decide (¬ (va2 + (1 : Int32)) = 0)) then
    m_li (r1 / (va2 + (1 : Int32))) fun y3 =>
    some (y3, C1)
    else none
  else
    some (r1, C1)
  else none
/-- SoldWeather$Course.purseOf -/
def k_21 (N : Nat) (P : Nat → Option Nat) (vl : Option Nat) (R : List aC) (x1 : Int32) (C : mS) : Option (Int32 × mS) :=
  bif (a_in x1 8) then
  m_li ((C 9) (x1).toNatClampNeg) fun y1 =>
  some (y1, C)
  else none
/-- SoldWeather$Saving.wish -/
def k_56 (N : Nat) (P : Nat → Option Nat) (vl : Option Nat) (R : List aC) (x0 : Nat) (x2 : Int32) (C : mS) : Option (Int32 × mS) :=
  m_ob (bdr R x0) fun ci1 ka1 nu1 va1 =>
  bif List.contains [0, 1, 3, 4, 6, 7, 8] ci1 then
  m_bd (k_21 N P vl R nu1 C) fun r2 C2 =>
  bif (a_ic .ge r2 ((10 : Int32) * va1)) then
    m_bd (k_37 N P vl R x0 x2 C2) fun r3 C3 =>
    some (r3, C3)
  else
    some ((0 : Int32), C2)
  else none
def k_59_7b (N : Nat) (P : Nat → Option Nat) (vl : Option Nat) (R : List aC) (rc7 : Nat → Int32 → Int32 → Int32 → mS → Option (Int32 × mS)) (x0 : Nat) (x2 : Int32) (x3 : Int32) (x4 : Int32) (C : mS) : Option (Int32 × mS) :=
  bif (a_ic .ge x4 (4 : Int32)) then
    some (x3, C)
  else
    m_ob (bdr R x0) fun ci4 ka4 nu4 va4 =>
    m_bd (k_34 N P vl R x0 x4 C) fun r3 C3 =>
    bif (a_ic .gt r3 x3) then
      some ((0 : Int32), C3)
    else
      bif (a_ic .ne r3 x3) then
        rc7 x0 x2 x3 (x4 + (1 : Int32)) C3
      else
        bif (a_ic .ge x4 x2) then
          rc7 x0 x2 x3 (x4 + (1 : Int32)) C3
        else
          some ((0 : Int32), C3)
def k_59_7 (N : Nat) (P : Nat → Option Nat) (vl : Option Nat) (R : List aC) : Nat → Nat → Int32 → Int32 → Int32 → mS → Option (Int32 × mS)
  | 0 => fun _ _ _ _ _ => none
  | n + 1 => k_59_7b N P vl R (k_59_7 N P vl R n)
/-- SoldWeather$Sharing.wish -/
def k_59 (N : Nat) (P : Nat → Option Nat) (vl : Option Nat) (R : List aC) (x0 : Nat) (x2 : Int32) (C : mS) : Option (Int32 × mS) :=
  m_ob (bdr R x0) fun ci2 ka2 nu2 va2 =>
  m_bd (k_34 N P vl R x0 x2 C) fun r1 C1 =>
  k_59_7 N P vl R  N x0 x2 r1 (0 : Int32) C1
/-- SoldWeather$Course.rowOf -/
def k_27 (N : Nat) (P : Nat → Option Nat) (vl : Option Nat) (R : List aC) (x1 : Int32) (x2 : Int32) (C : mS) : Option (Int32 × mS) :=
  bif (a_in ((x1 * (4 : Int32)) + x2) 32) then
  m_li ((C 3) (((x1 * (4 : Int32)) + x2)).toNatClampNeg) fun y1 =>
  some (y1, C)
  else none
/-- SoldWeather$Told.wish -/
def k_62 (N : Nat) (P : Nat → Option Nat) (vl : Option Nat) (R : List aC) (x0 : Nat) (x2 : Int32) (C : mS) : Option (Int32 × mS) :=
  m_ob (bdr R x0) fun ci1 ka1 nu1 va1 =>
  bif List.contains [0, 1, 3, 4, 6, 7, 8] ci1 then
  m_bd (k_27 N P vl R nu1 x2 C) fun r2 C2 =>
  some (r2, C2)
  else none
def k_13_10b (N : Nat) (P : Nat → Option Nat) (vl : Option Nat) (R : List aC) (rc10 : Int32 → Nat → Int32 → mS → Option (Int32 × mS)) (x1 : Int32) (x2 : Nat) (x3 : Int32) (C : mS) : Option (Int32 × mS) :=
  bif (a_ic .ge x3 (4 : Int32)) then
    some (0, C)
  else
    m_ob (bdr R x2) fun ci4 ka4 nu4 va4 =>
    m_bd (if ci4 = 0 then k_1 N P vl R x2 x3 C else if ci4 = 1 then k_4 N P vl R x2 x3 C else if ci4 = 3 then k_34 N P vl R x2 x3 C else if ci4 = 4 then k_37 N P vl R x2 x3 C else if ci4 = 6 then k_56 N P vl R x2 x3 C else if ci4 = 7 then k_59 N P vl R x2 x3 C else if ci4 = 8 then k_62 N P vl R x2 x3 C else none) fun r3 C3 =>
    m_bd (k_14 N P vl R x1 x3 r3 C3) fun r5 C5 =>
    rc10 x1 x2 (x3 + (1 : Int32)) C5
def k_13_10 (N : Nat) (P : Nat → Option Nat) (vl : Option Nat) (R : List aC) : Nat → Int32 → Nat → Int32 → mS → Option (Int32 × mS)
  | 0 => fun _ _ _ _ => none
  | n + 1 => k_13_10b N P vl R (k_13_10 N P vl R n)
/-- SoldWeather$Course.ask -/
def k_13 (N : Nat) (P : Nat → Option Nat) (vl : Option Nat) (R : List aC) (x1 : Int32) (C : mS) : Option (Int32 × mS) :=
  m_bd (k_70 N P vl R x1 C) fun r1 C1 =>
  m_op r1 (
    some (0, C1)) fun a2 =>
  k_13_10 N P vl R  N x1 a2 (0 : Int32) C1
/-- SoldWeather$World.fortuneAt -/
def k_73 (N : Nat) (P : Nat → Option Nat) (vl : Option Nat) (R : List aC) (x1 : Int32) (C : mS) : Option (Int32 × mS) :=
  bif (a_ic .lt x1 (0 : Int32)) then
    some ((0 : Int32), C)
  else
    bif (a_ic .ge x1 (C 90 7)) then
      some ((0 : Int32), C)
    else
      bif (a_in x1 12) then
      m_li ((C 1) (x1).toNatClampNeg) fun y1 =>
      some (y1, C)
      else none
/-- SoldWeather$Course.fortuneNext -/
def k_20 (N : Nat) (P : Nat → Option Nat) (vl : Option Nat) (R : List aC) (C : mS) : Option (Int32 × mS) :=
  m_bd (k_73 N P vl R (C 92 6) C) fun r1 C1 =>
  some (r1, C1)
def k_15_58 (N : Nat) (P : Nat → Option Nat) (vl : Option Nat) (R : List aC) (x1 : Int32) (t1 : Int32) (C : mS) : Option (Int32 × mS) :=
  bif (decide (t1 = 0) || decide (t1 = 1)) then
  m_st (va_up C 92 (upd (C 92) 5 t1)) fun C3 =>
  bif (a_ic .eq (C3 92 5) (0 : Int32)) then
    m_bd (k_20 N P vl R  C3) fun r4 C4 =>
    some (0, (va_up C4 92 (upd (C4 92) 9 r4)))
  else
    some (0, (va_up C3 92 (upd (C3 92) 9 x1)))
  else none
def k_15_14b (N : Nat) (P : Nat → Option Nat) (vl : Option Nat) (R : List aC) (rc4 : Int32 → Int32 → mS → Option (Int32 × mS)) (rc14 : Int32 → Int32 → Int32 → mS → Option (Int32 × mS)) (x1 : Int32) (x2 : Int32) (x3 : Int32) (C : mS) : Option (Int32 × mS) :=
  bif (a_ic .ge x3 (C 90 12)) then
    bif (a_in x2 4) then
    m_li ((C 11) (x2).toNatClampNeg) fun y5 =>
    bif (a_in x1 4) then
    m_li ((C 11) (x1).toNatClampNeg) fun y6 =>
    bif (a_ic .le y5 y6) then
      rc4 x1 (x2 + (1 : Int32)) C
    else
      rc4 x2 (x2 + (1 : Int32)) C
    else none
    else none
  else
    bif (a_in x2 4) then
    m_li ((C 11) (x2).toNatClampNeg) fun y7 =>
    bif (a_in ((x3 * (4 : Int32)) + x2) 32) then
    m_li ((C 10) (((x3 * (4 : Int32)) + x2)).toNatClampNeg) fun y8 =>
    bif (a_in x2 4) then
    m_st (va_up C 11 (upd (C 11) (x2).toNatClampNeg (y7 + y8))) fun C9 =>
    rc14 x1 x2 (x3 + (1 : Int32)) C9
    else none
    else none
    else none
def k_15_14 (N : Nat) (P : Nat → Option Nat) (vl : Option Nat) (R : List aC) (rc4 : Int32 → Int32 → mS → Option (Int32 × mS)) : Nat → Int32 → Int32 → Int32 → mS → Option (Int32 × mS)
  | 0 => fun _ _ _ _ => none
  | n + 1 => k_15_14b N P vl R rc4 (k_15_14 N P vl R rc4 n)
def k_15_4b (N : Nat) (P : Nat → Option Nat) (vl : Option Nat) (R : List aC) (rc4 : Int32 → Int32 → mS → Option (Int32 × mS)) (x1 : Int32) (x2 : Int32) (C : mS) : Option (Int32 × mS) :=
  bif (a_ic .ge x2 (4 : Int32)) then
    bif (a_in x1 4) then
    m_li ((C 11) (x1).toNatClampNeg) fun y1 =>
    bif (a_ic .le y1 (0 : Int32)) then
      k_15_58 N P vl R  x1 (0 : Int32) C
    else
      k_15_58 N P vl R  x1 (1 : Int32) C
    else none
  else
    bif (a_in x2 4) then
    m_st (va_up C 11 (upd (C 11) (x2).toNatClampNeg (0 : Int32))) fun C2 =>
    k_15_14 N P vl R rc4 N x1 x2 (0 : Int32) C2
    else none
def k_15_4 (N : Nat) (P : Nat → Option Nat) (vl : Option Nat) (R : List aC) : Nat → Int32 → Int32 → mS → Option (Int32 × mS)
  | 0 => fun _ _ _ => none
  | n + 1 => k_15_4b N P vl R (k_15_4 N P vl R n)
/-- SoldWeather$Course.settle -/
def k_15 (N : Nat) (P : Nat → Option Nat) (vl : Option Nat) (R : List aC) (C : mS) : Option (Int32 × mS) :=
  k_15_4 N P vl R  N (0 : Int32) (0 : Int32) C
def k_12_2b (N : Nat) (P : Nat → Option Nat) (vl : Option Nat) (R : List aC) (rc2 : Int32 → mS → Option (Int32 × mS)) (x1 : Int32) (C : mS) : Option (Int32 × mS) :=
  bif (a_ic .ge x1 (C 90 12)) then
    m_bd (k_15 N P vl R  C) fun r1 C1 =>
    some (0, C1)
  else
    m_bd (k_13 N P vl R x1 C) fun r2 C2 =>
    rc2 (x1 + (1 : Int32)) C2
def k_12_2 (N : Nat) (P : Nat → Option Nat) (vl : Option Nat) (R : List aC) : Nat → Int32 → mS → Option (Int32 × mS)
  | 0 => fun _ _ => none
  | n + 1 => k_12_2b N P vl R (k_12_2 N P vl R n)
/-- SoldWeather$Course.open -/
def k_12 (N : Nat) (P : Nat → Option Nat) (vl : Option Nat) (R : List aC) (C : mS) : Option (Int32 × mS) :=
  k_12_2 N P vl R  N (0 : Int32) C
/-- SoldWeather$Course.bidOf -/
def k_22 (N : Nat) (P : Nat → Option Nat) (vl : Option Nat) (R : List aC) (x1 : Int32) (x2 : Int32) (C : mS) : Option (Int32 × mS) :=
  bif (a_in ((x1 * (4 : Int32)) + x2) 32) then
  m_li ((C 10) (((x1 * (4 : Int32)) + x2)).toNatClampNeg) fun y1 =>
  some (y1, C)
  else none
def k_17_4b (N : Nat) (P : Nat → Option Nat) (vl : Option Nat) (R : List aC) (rc4 : Int32 → Int32 → Int32 → mS → Option (Int32 × mS)) (x1 : Int32) (x2 : Int32) (x3 : Int32) (C : mS) : Option (Int32 × mS) :=
  bif (a_ic .ge x3 (4 : Int32)) then
    bif (a_in (C 92 9) 4) then
    m_li ((C 11) ((C 92 9)).toNatClampNeg) fun y1 =>
    m_bd (k_22 N P vl R x1 (C 92 9) C) fun r2 C2 =>
    some ((x2 - (y1 - r2)), C2)
    else none
  else
    bif (a_in x3 4) then
    m_li ((C 11) (x3).toNatClampNeg) fun y3 =>
    m_bd (k_22 N P vl R x1 x3 C) fun r4 C4 =>
    m_li (if x2 < (y3 - r4) then (y3 - r4) else x2) fun y5 =>
    rc4 x1 y5 (x3 + (1 : Int32)) C4
    else none
def k_17_4 (N : Nat) (P : Nat → Option Nat) (vl : Option Nat) (R : List aC) : Nat → Int32 → Int32 → Int32 → mS → Option (Int32 × mS)
  | 0 => fun _ _ _ _ => none
  | n + 1 => k_17_4b N P vl R (k_17_4 N P vl R n)
/-- SoldWeather$Course.harmBy -/
def k_17 (N : Nat) (P : Nat → Option Nat) (vl : Option Nat) (R : List aC) (x1 : Int32) (C : mS) : Option (Int32 × mS) :=
  k_17_4 N P vl R  N x1 (0 : Int32) (0 : Int32) C
def k_18_22b (N : Nat) (P : Nat → Option Nat) (vl : Option Nat) (R : List aC) (rc22 : Int32 → Int32 → Int32 → mS → Option (Int32 × mS)) (x1 : Int32) (x2 : Int32) (x3 : Int32) (C : mS) : Option (Int32 × mS) :=
  bif (a_ic .ge x3 (4 : Int32)) then
    bif (a_ic .ne x1 (0 : Int32)) then
      bif (a_in (C 92 9) 4) then
      m_li ((C 11) ((C 92 9)).toNatClampNeg) fun y2 =>
      bif (decide (¬ x1 = 0)) then
      m_li ((y2 - x2) / x1) fun y3 =>
      some (y3, C)
      else none
      else none
    else
      some ((0 : Int32), C)
  else
    bif (a_ic .eq x3 (C 92 9)) then
      rc22 x1 x2 (x3 + (1 : Int32)) C
    else
      bif (a_in x3 4) then
      m_li ((C 11) (x3).toNatClampNeg) fun y4 =>
      m_li (if x2 < y4 then y4 else x2) fun y5 =>
      rc22 x1 y5 (x3 + (1 : Int32)) C
      else none
def k_18_22 (N : Nat) (P : Nat → Option Nat) (vl : Option Nat) (R : List aC) : Nat → Int32 → Int32 → Int32 → mS → Option (Int32 × mS)
  | 0 => fun _ _ _ _ => none
  | n + 1 => k_18_22b N P vl R (k_18_22 N P vl R n)
def k_18_4b (N : Nat) (P : Nat → Option Nat) (vl : Option Nat) (R : List aC) (rc4 : Int32 → Int32 → mS → Option (Int32 × mS)) (x1 : Int32) (x2 : Int32) (C : mS) : Option (Int32 × mS) :=
  bif (a_ic .ge x2 (C 90 12)) then
    k_18_22 N P vl R  N x1 (0 : Int32) (0 : Int32) C
  else
    m_bd (k_22 N P vl R x2 (C 92 9) C) fun r1 C1 =>
    bif (a_ic .le r1 (0 : Int32)) then
      rc4 x1 (x2 + (1 : Int32)) C1
    else
      rc4 (x1 + (1 : Int32)) (x2 + (1 : Int32)) C1
def k_18_4 (N : Nat) (P : Nat → Option Nat) (vl : Option Nat) (R : List aC) : Nat → Int32 → Int32 → mS → Option (Int32 × mS)
  | 0 => fun _ _ _ => none
  | n + 1 => k_18_4b N P vl R (k_18_4 N P vl R n)
/-- SoldWeather$Course.rebate -/
def k_18 (N : Nat) (P : Nat → Option Nat) (vl : Option Nat) (R : List aC) (C : mS) : Option (Int32 × mS) :=
  k_18_4 N P vl R  N (0 : Int32) (0 : Int32) C
/-- SoldWeather$World.payRule -/
def k_71 (N : Nat) (P : Nat → Option Nat) (vl : Option Nat) (R : List aC) (C : mS) : Option (Int32 × mS) :=
  m_op vl (
    some ((0 : Int32), C)) fun a1 =>
  m_vo (vly R a1) fun cr2 er2 ar2 ru2 gi2 =>
  some (ru2, C)
/-- SoldWeather$Course.due -/
def k_16 (N : Nat) (P : Nat → Option Nat) (vl : Option Nat) (R : List aC) (x1 : Int32) (C : mS) : Option (Int32 × mS) :=
  bif (a_ic .ne (C 92 5) (0 : Int32)) then
    m_bd (k_22 N P vl R x1 (C 92 9) C) fun r1 C1 =>
    m_bd (k_71 N P vl R  C1) fun r2 C2 =>
    if (a_lsw 26 [(1, 26), (2, 32)] [15, 19] r2) = 15 then
      m_bd (k_17 N P vl R x1 C2) fun r3 C3 =>
      some (r3, C3)
    else if (a_lsw 26 [(1, 26), (2, 32)] [15, 19] r2) = 19 then
      m_bd (k_18 N P vl R  C2) fun r4 C4 =>
      m_li (if (0 : Int32) < (r1 - r4) then (r1 - r4) else (0 : Int32)) fun y5 =>
      some (y5, C4)
    else if (a_lsw 26 [(1, 26), (2, 32)] [15, 19] r2) = 26 then
      some (r1, C2)
    else none
  else
    some ((0 : Int32), C)
/-- SoldWeather$World.giftEach -/
def k_72 (N : Nat) (P : Nat → Option Nat) (vl : Option Nat) (R : List aC) (C : mS) : Option (Int32 × mS) :=
  m_op vl (
    some ((0 : Int32), C)) fun a1 =>
  m_vo (vly R a1) fun cr2 er2 ar2 ru2 gi2 =>
  some (gi2, C)
/-- SoldWeather$World.turnBehind -/
def k_74 (N : Nat) (P : Nat → Option Nat) (vl : Option Nat) (R : List aC) (x1 : Int32) (C : mS) : Option (Int32 × mS) :=
  bif (a_ic .ge (x1 + (1 : Int32)) (C 90 7)) then
    some ((0 : Int32), C)
  else
    some ((x1 + (1 : Int32)), C)
def k_19_49 (N : Nat) (P : Nat → Option Nat) (vl : Option Nat) (R : List aC) (x1 : Int32) (C : mS) : Option (Int32 × mS) :=
  some (x1, (va_up C 92 (upd (upd (C 92) 7 ((C 92 7) + (1 : Int32))) 8 (C 92 9))))
def k_19_8b (N : Nat) (P : Nat → Option Nat) (vl : Option Nat) (R : List aC) (rc8 : Int32 → Int32 → Int32 → mS → Option (Int32 × mS)) (x1 : Int32) (x2 : Int32) (x3 : Int32) (C : mS) : Option (Int32 × mS) :=
  bif (a_ic .ge x3 (C 90 12)) then
    bif (a_ic .ne (C 92 5) (0 : Int32)) then
      k_19_49 N P vl R  x1 C
    else
      m_bd (k_74 N P vl R (C 92 6) C) fun r2 C2 =>
      k_19_49 N P vl R  x1 (va_up C2 92 (upd (C2 92) 6 r2))
  else
    m_bd (k_16 N P vl R x3 C) fun r3 C3 =>
    bif (a_in x3 8) then
    m_li ((C3 9) (x3).toNatClampNeg) fun y4 =>
    m_li (if (0 : Int32) < (y4 - r3) then (y4 - r3) else (0 : Int32)) fun y5 =>
    m_li (if (y5 + x2) < (999 : Int32) then (y5 + x2) else (999 : Int32)) fun y6 =>
    bif (a_in x3 8) then
    m_st (va_up C3 9 (upd (C3 9) (x3).toNatClampNeg y6)) fun C7 =>
    rc8 (x1 + r3) x2 (x3 + (1 : Int32)) C7
    else none
    else none
def k_19_8 (N : Nat) (P : Nat → Option Nat) (vl : Option Nat) (R : List aC) : Nat → Int32 → Int32 → Int32 → mS → Option (Int32 × mS)
  | 0 => fun _ _ _ _ => none
  | n + 1 => k_19_8b N P vl R (k_19_8 N P vl R n)
/-- SoldWeather$Course.close -/
def k_19 (N : Nat) (P : Nat → Option Nat) (vl : Option Nat) (R : List aC) (C : mS) : Option (Int32 × mS) :=
  m_bd (k_72 N P vl R  C) fun r1 C1 =>
  k_19_8 N P vl R  N (0 : Int32) r1 (0 : Int32) C1
/-- SoldWeather$Course.bidsFor -/
def k_23 (N : Nat) (P : Nat → Option Nat) (vl : Option Nat) (R : List aC) (x1 : Int32) (C : mS) : Option (Int32 × mS) :=
  bif (a_in x1 4) then
  m_li ((C 11) (x1).toNatClampNeg) fun y1 =>
  some (y1, C)
  else none
/-- SoldWeather$Course.worthTo -/
def k_29 (N : Nat) (P : Nat → Option Nat) (vl : Option Nat) (R : List aC) (x1 : Int32) (x2 : Int32) (C : mS) : Option (Int32 × mS) :=
  m_bd (k_70 N P vl R x1 C) fun r1 C1 =>
  m_op r1 (
    m_bd (k_32 N P vl R none x2 (C1 92 7) (C1 92 8) C1) fun r3 C3 =>
    some (r3, C3)) fun a2 =>
  m_bd (k_32 N P vl R (some a2) x2 (C1 92 7) (C1 92 8) C1) fun r4 C4 =>
  some (r4, C4)
/-- SoldWeather$Course.gain -/
def k_24 (N : Nat) (P : Nat → Option Nat) (vl : Option Nat) (R : List aC) (x1 : Int32) (C : mS) : Option (Int32 × mS) :=
  m_bd (k_29 N P vl R x1 (C 92 9) C) fun r1 C1 =>
  m_bd (k_16 N P vl R x1 C1) fun r2 C2 =>
  some ((r1 - r2), C2)
/-- SoldWeather$Course.gainByLie -/
def k_25 (N : Nat) (P : Nat → Option Nat) (vl : Option Nat) (R : List aC) (x1 : Int32) (x2 : Int32) (x3 : Int32) (C : mS) : Option (Int32 × mS) :=
  bif (a_in ((x1 * (4 : Int32)) + x2) 32) then
  m_li ((C 10) (((x1 * (4 : Int32)) + x2)).toNatClampNeg) fun y1 =>
  bif (a_in ((x1 * (4 : Int32)) + x2) 32) then
  m_st (va_up C 10 (upd (C 10) (((x1 * (4 : Int32)) + x2)).toNatClampNeg x3)) fun C2 =>
  m_bd (k_15 N P vl R  C2) fun r3 C3 =>
  m_bd (k_24 N P vl R x1 C3) fun r4 C4 =>
  bif (a_in ((x1 * (4 : Int32)) + x2) 32) then
  m_st (va_up C4 10 (upd (C4 10) (((x1 * (4 : Int32)) + x2)).toNatClampNeg y1)) fun C5 =>
  some (r4, C5)
  else none
  else none
  else none
def k_26_2b (N : Nat) (P : Nat → Option Nat) (vl : Option Nat) (R : List aC) (rc2 : Int32 → Int32 → Int32 → mS → Option (Int32 × mS)) (x1 : Int32) (x2 : Int32) (x3 : Int32) (C : mS) : Option (Int32 × mS) :=
  bif (a_ic .ge x3 (4 : Int32)) then
    m_bd (k_15 N P vl R  C) fun r1 C1 =>
    m_bd (k_24 N P vl R x1 C1) fun r2 C2 =>
    m_bd (k_24 N P vl R x2 C2) fun r3 C3 =>
    m_bd (k_13 N P vl R x1 C3) fun r4 C4 =>
    m_bd (k_13 N P vl R x2 C4) fun r5 C5 =>
    some ((r2 + r3), C5)
  else
    m_bd (k_29 N P vl R x1 x3 C) fun r6 C6 =>
    m_bd (k_29 N P vl R x2 x3 C6) fun r7 C7 =>
    m_li ((r6 + r7) / (2 : Int32)) fun y8 =>
    m_bd (k_14 N P vl R x1 x3 y8 C7) fun r9 C9 =>
    m_bd (k_14 N P vl R x2 x3 y8 C9) fun r10 C10 =>
    rc2 x1 x2 (x3 + (1 : Int32)) C10
def k_26_2 (N : Nat) (P : Nat → Option Nat) (vl : Option Nat) (R : List aC) : Nat → Int32 → Int32 → Int32 → mS → Option (Int32 × mS)
  | 0 => fun _ _ _ _ => none
  | n + 1 => k_26_2b N P vl R (k_26_2 N P vl R n)
/-- SoldWeather$Course.gainTogether -/
def k_26 (N : Nat) (P : Nat → Option Nat) (vl : Option Nat) (R : List aC) (x1 : Int32) (x2 : Int32) (C : mS) : Option (Int32 × mS) :=
  k_26_2 N P vl R  N x1 x2 (0 : Int32) C
def k_31_4b (N : Nat) (P : Nat → Option Nat) (vl : Option Nat) (R : List aC) (rc4 : Int32 → Int32 → Int32 → Int32 → Int32 → mS → Option (Int32 × mS)) (x1 : Int32) (x2 : Int32) (x3 : Int32) (x4 : Int32) (x5 : Int32) (C : mS) : Option (Int32 × mS) :=
  bif (a_ic .ge x5 (C 90 12)) then
    some (x4, C)
  else
    m_bd (k_70 N P vl R x5 C) fun r1 C1 =>
    m_op r1 (
      m_bd (k_32 N P vl R none x1 x2 x3 C1) fun r3 C3 =>
      rc4 x1 x2 x3 (x4 + r3) (x5 + (1 : Int32)) C3) fun a2 =>
    m_bd (k_32 N P vl R (some a2) x1 x2 x3 C1) fun r4 C4 =>
    rc4 x1 x2 x3 (x4 + r4) (x5 + (1 : Int32)) C4
def k_31_4 (N : Nat) (P : Nat → Option Nat) (vl : Option Nat) (R : List aC) : Nat → Int32 → Int32 → Int32 → Int32 → Int32 → mS → Option (Int32 × mS)
  | 0 => fun _ _ _ _ _ _ => none
  | n + 1 => k_31_4b N P vl R (k_31_4 N P vl R n)
/-- SoldWeather$Course.worthToAllOn -/
def k_31 (N : Nat) (P : Nat → Option Nat) (vl : Option Nat) (R : List aC) (x1 : Int32) (x2 : Int32) (x3 : Int32) (C : mS) : Option (Int32 × mS) :=
  k_31_4 N P vl R  N x1 x2 x3 (0 : Int32) (0 : Int32) C
/-- SoldWeather$Course.worthToAll -/
def k_30 (N : Nat) (P : Nat → Option Nat) (vl : Option Nat) (R : List aC) (x1 : Int32) (C : mS) : Option (Int32 × mS) :=
  m_bd (k_31 N P vl R x1 (C 92 7) (C 92 8) C) fun r1 C1 =>
  some (r1, C1)
/-- SoldWeather$Reader.step -/
def k_43 (N : Nat) (P : Nat → Option Nat) (vl : Option Nat) (R : List aC) (C : mS) : Option (Int32 × mS) :=
  bif (a_ic .ge ((C 91 9) + (1 : Int32)) (C 91 8)) then
    m_st (va_up C 91 (upd (C 91) 9 ((C 91 9) + (1 : Int32)))) fun C1 =>
    some (0, (va_up C1 91 (upd (C1 91) 10 (-1 : Int32))))
  else
    m_st (va_up C 91 (upd (C 91) 9 ((C 91 9) + (1 : Int32)))) fun C2 =>
    bif (a_in (C2 91 9) 120) then
    m_li ((C2 0) ((C2 91 9)).toNatClampNeg) fun y3 =>
    some (0, (va_up C2 91 (upd (C2 91) 10 y3)))
    else none
/-- SoldWeather$Reader.wordOf -/
def k_45 (N : Nat) (P : Nat → Option Nat) (vl : Option Nat) (R : List aC) (x0 : Int32) (C : mS) : Option (Nat × mS) :=
  if (a_lsw 8 [(103, 41), (104, 35), (114, 38)] [6, 2, 4] x0) = 6 then
    some (2, C)
  else if (a_lsw 8 [(103, 41), (104, 35), (114, 38)] [6, 2, 4] x0) = 2 then
    some (0, C)
  else if (a_lsw 8 [(103, 41), (104, 35), (114, 38)] [6, 2, 4] x0) = 4 then
    some (1, C)
  else if (a_lsw 8 [(103, 41), (104, 35), (114, 38)] [6, 2, 4] x0) = 8 then
    some (3, C)
  else none
def k_46_2b (N : Nat) (P : Nat → Option Nat) (vl : Option Nat) (R : List aC) (rc2 : Nat → Int32 → mS → Option (Int32 × mS)) (x1 : Nat) (x2 : Int32) (C : mS) : Option (Int32 × mS) :=
  m_bs (t_len x1) fun r1 =>
  bif (a_ic .ge x2 r1) then
    some ((1 : Int32), C)
  else
    m_bs (t_chr x1 x2) fun r2 =>
    bif (a_ic .eq (C 91 10) r2) then
      m_bd (k_43 N P vl R  C) fun r3 C3 =>
      rc2 x1 (x2 + (1 : Int32)) C3
    else
      some ((0 : Int32), C)
def k_46_2 (N : Nat) (P : Nat → Option Nat) (vl : Option Nat) (R : List aC) : Nat → Nat → Int32 → mS → Option (Int32 × mS)
  | 0 => fun _ _ _ => none
  | n + 1 => k_46_2b N P vl R (k_46_2 N P vl R n)
/-- SoldWeather$Reader.word -/
def k_46 (N : Nat) (P : Nat → Option Nat) (vl : Option Nat) (R : List aC) (x1 : Nat) (C : mS) : Option (Int32 × mS) :=
  k_46_2 N P vl R  N x1 (0 : Int32) C
/-- SoldWeather$Reader.ruleNumber -/
def k_47 (N : Nat) (P : Nat → Option Nat) (vl : Option Nat) (R : List aC) (C : mS) : Option (Int32 × mS) :=
  bif (a_ic .lt (C 91 10) (48 : Int32)) then
    some ((-1 : Int32), C)
  else
    bif (a_ic .le (C 91 10) (50 : Int32)) then
      m_bd (k_43 N P vl R  C) fun r1 C1 =>
      some (((C 91 10) - (48 : Int32)), C1)
    else
      some ((-1 : Int32), C)
/-- SoldWeather$Reader.number -/
def k_48 (N : Nat) (P : Nat → Option Nat) (vl : Option Nat) (R : List aC) (C : mS) : Option (Int32 × mS) :=
  bif (a_ic .lt (C 91 10) (48 : Int32)) then
    some ((-1 : Int32), C)
  else
    bif (a_ic .le (C 91 10) (57 : Int32)) then
      m_bd (k_43 N P vl R  C) fun r1 C1 =>
      bif (a_ic .eq ((C 91 10) - (48 : Int32)) (0 : Int32)) then
        some (((C 91 10) - (48 : Int32)), C1)
      else
        bif (a_ic .lt (C1 91 10) (48 : Int32)) then
          some (((C 91 10) - (48 : Int32)), C1)
        else
          bif (a_ic .le (C1 91 10) (57 : Int32)) then
            m_bd (k_43 N P vl R  C1) fun r2 C2 =>
            some ((((((C 91 10) - (48 : Int32)) * (10 : Int32)) + (C1 91 10)) - (48 : Int32)), C2)
          else
            some (((C 91 10) - (48 : Int32)), C1)
    else
      some ((-1 : Int32), C)
/-- SoldWeather$Reader.keepClause -/
def k_49 (N : Nat) (P : Nat → Option Nat) (vl : Option Nat) (R : List aC) (x1 : Int32) (C : mS) : Option (Int32 × mS) :=
  bif (a_ic .lt (C 91 4) (10 : Int32)) then
    bif (a_in (C 91 4) 10) then
    m_st (va_up C 8 (upd (C 8) ((C 91 4)).toNatClampNeg x1)) fun C1 =>
    bif (a_in (C1 91 4) 10) then
    m_st (va_up C1 7 (upd (C1 7) ((C1 91 4)).toNatClampNeg (C1 91 3))) fun C2 =>
    some ((1 : Int32), (va_up C2 91 (upd (C2 91) 4 ((C2 91 4) + (1 : Int32)))))
    else none
    else none
  else
    some ((0 : Int32), C)
/-- SoldWeather$Reader.put -/
def k_54 (N : Nat) (P : Nat → Option Nat) (vl : Option Nat) (R : List aC) (x1 : Int32) (C : mS) : Option (Int32 × mS) :=
  bif (a_ic .lt (C 91 3) (120 : Int32)) then
    bif (a_in (C 91 3) 120) then
    m_st (va_up C 6 (upd (C 6) ((C 91 3)).toNatClampNeg x1)) fun C1 =>
    some ((1 : Int32), (va_up C1 91 (upd (C1 91) 3 ((C1 91 3) + (1 : Int32)))))
    else none
  else
    some ((0 : Int32), C)
/-- SoldWeather$Reader.askedBy -/
def k_53 (N : Nat) (P : Nat → Option Nat) (vl : Option Nat) (R : List aC) (x0 : Int32) (C : mS) : Option (Int32 × mS) :=
  if (a_lsw 12 [(100, 55), (107, 59), (112, 57), (119, 51), (121, 53)] [6, 10, 8, 2, 4] x0) = 6 then
    some ((2 : Int32), C)
  else if (a_lsw 12 [(100, 55), (107, 59), (112, 57), (119, 51), (121, 53)] [6, 10, 8, 2, 4] x0) = 10 then
    some ((4 : Int32), C)
  else if (a_lsw 12 [(100, 55), (107, 59), (112, 57), (119, 51), (121, 53)] [6, 10, 8, 2, 4] x0) = 8 then
    some ((3 : Int32), C)
  else if (a_lsw 12 [(100, 55), (107, 59), (112, 57), (119, 51), (121, 53)] [6, 10, 8, 2, 4] x0) = 2 then
    some ((0 : Int32), C)
  else if (a_lsw 12 [(100, 55), (107, 59), (112, 57), (119, 51), (121, 53)] [6, 10, 8, 2, 4] x0) = 4 then
    some ((1 : Int32), C)
  else if (a_lsw 12 [(100, 55), (107, 59), (112, 57), (119, 51), (121, 53)] [6, 10, 8, 2, 4] x0) = 12 then
    some ((-1 : Int32), C)
  else none
/-- SoldWeather$Reader.test -/
def k_52 (N : Nat) (P : Nat → Option Nat) (vl : Option Nat) (R : List aC) (C : mS) : Option (Int32 × mS) :=
  m_bd (k_53 N P vl R (C 91 10) C) fun r1 C1 =>
  bif (a_ic .ge r1 (0 : Int32)) then
    m_bd (k_43 N P vl R  C1) fun r2 C2 =>
    bif (a_ic .lt (C2 91 10) (60 : Int32)) then
      some ((0 : Int32), C2)
    else
      bif (a_ic .le (C2 91 10) (62 : Int32)) then
        m_bd (k_43 N P vl R  C2) fun r3 C3 =>
        m_bd (k_48 N P vl R  C3) fun r4 C4 =>
        bif (a_ic .lt r4 (0 : Int32)) then
          some ((0 : Int32), C4)
        else
          m_bd (k_54 N P vl R ((((r1 * (3 : Int32)) + ((C2 91 10) - (60 : Int32))) * (100 : Int32)) + r4) C4) fun r5 C5 =>
          bif (a_ic .eq r5 (0 : Int32)) then
            some ((0 : Int32), C5)
          else
            some ((1 : Int32), C5)
      else
        some ((0 : Int32), C2)
  else
    some ((0 : Int32), C1)
def k_50_55 (N : Nat) (P : Nat → Option Nat) (vl : Option Nat) (R : List aC) (rf : Int32 → mS → Option (Int32 × mS)) (rc6 : Int32 → Int32 → Int32 → Int32 → mS → Option (Int32 × mS)) (x1 : Int32) (x2 : Int32) (x3 : Int32) (x4 : Int32) (C : mS) : Option (Int32 × mS) :=
  m_bd (k_43 N P vl R  C) fun r4 C4 =>
  rc6 x1 x2 x3 (x4 + (1 : Int32)) C4
def k_50_48 (N : Nat) (P : Nat → Option Nat) (vl : Option Nat) (R : List aC) (rf : Int32 → mS → Option (Int32 × mS)) (rc6 : Int32 → Int32 → Int32 → Int32 → mS → Option (Int32 × mS)) (x1 : Int32) (x2 : Int32) (x4 : Int32) (t0 : Int32) (C : mS) : Option (Int32 × mS) :=
  bif (a_ic .ne x2 (0 : Int32)) then
    k_50_55 N P vl R rf rc6 x1 x2 t0 x4 C
  else
    bif (a_ic .ne t0 (0 : Int32)) then
      k_50_55 N P vl R rf rc6 x1 x2 t0 x4 C
    else
      some ((1 : Int32), C)
def k_50_37 (N : Nat) (P : Nat → Option Nat) (vl : Option Nat) (R : List aC) (rf : Int32 → mS → Option (Int32 × mS)) (rc6 : Int32 → Int32 → Int32 → Int32 → mS → Option (Int32 × mS)) (x1 : Int32) (x2 : Int32) (x3 : Int32) (x4 : Int32) (C : mS) : Option (Int32 × mS) :=
  bif (a_ic .eq x2 (0 : Int32)) then
    bif (a_ic .ne (C 91 10) (124 : Int32)) then
      k_50_48 N P vl R rf rc6 x1 x2 x4 (0 : Int32) C
    else
      k_50_48 N P vl R rf rc6 x1 x2 x4 (1 : Int32) C
  else
    k_50_48 N P vl R rf rc6 x1 x2 x4 x3 C
def k_50_28 (N : Nat) (P : Nat → Option Nat) (vl : Option Nat) (R : List aC) (rf : Int32 → mS → Option (Int32 × mS)) (rc6 : Int32 → Int32 → Int32 → Int32 → mS → Option (Int32 × mS)) (x1 : Int32) (x3 : Int32) (x4 : Int32) (t0 : Int32) (C : mS) : Option (Int32 × mS) :=
  bif (a_ic .ne t0 (0 : Int32)) then
    k_50_37 N P vl R rf rc6 x1 t0 x3 x4 C
  else
    bif (a_ic .eq x3 (0 : Int32)) then
      k_50_37 N P vl R rf rc6 x1 t0 x3 x4 C
    else
      m_bd (k_54 N P vl R (-3 : Int32) C) fun r3 C3 =>
      k_50_37 N P vl R rf rc6 x1 t0 x3 x4 C3
def k_50_21 (N : Nat) (P : Nat → Option Nat) (vl : Option Nat) (R : List aC) (rf : Int32 → mS → Option (Int32 × mS)) (rc6 : Int32 → Int32 → Int32 → Int32 → mS → Option (Int32 × mS)) (x1 : Int32) (x3 : Int32) (x4 : Int32) (C : mS) : Option (Int32 × mS) :=
  bif (a_ic .ne (C 91 10) (38 : Int32)) then
    k_50_28 N P vl R rf rc6 x1 x3 x4 (0 : Int32) C
  else
    k_50_28 N P vl R rf rc6 x1 x3 x4 (1 : Int32) C
def k_50_6b (N : Nat) (P : Nat → Option Nat) (vl : Option Nat) (R : List aC) (rf : Int32 → mS → Option (Int32 × mS)) (rc6 : Int32 → Int32 → Int32 → Int32 → mS → Option (Int32 × mS)) (x1 : Int32) (x2 : Int32) (x3 : Int32) (x4 : Int32) (C : mS) : Option (Int32 × mS) :=
  bif (a_ic .ge x4 (120 : Int32)) then
    some ((0 : Int32), C)
  else
    m_bd (rf x1 C) fun r1 C1 =>
    bif (a_ic .ne r1 (0 : Int32)) then
      bif (a_ic .eq x2 (0 : Int32)) then
        k_50_21 N P vl R rf rc6 x1 x3 x4 C1
      else
        m_bd (k_54 N P vl R (-2 : Int32) C1) fun r2 C2 =>
        k_50_21 N P vl R rf rc6 x1 x3 x4 C2
    else
      some ((0 : Int32), C1)
def k_50_6 (N : Nat) (P : Nat → Option Nat) (vl : Option Nat) (R : List aC) (rf : Int32 → mS → Option (Int32 × mS)) : Nat → Int32 → Int32 → Int32 → Int32 → mS → Option (Int32 × mS)
  | 0 => fun _ _ _ _ _ => none
  | n + 1 => k_50_6b N P vl R rf (k_50_6 N P vl R rf n)
/-- SoldWeather$Reader.expression -/
def k_50 (N : Nat) (P : Nat → Option Nat) (vl : Option Nat) (R : List aC) (rf : Int32 → mS → Option (Int32 × mS)) (x1 : Int32) (C : mS) : Option (Int32 × mS) :=
  k_50_6 N P vl R rf  N x1 (0 : Int32) (0 : Int32) (0 : Int32) C
def k_51_23 (N : Nat) (P : Nat → Option Nat) (vl : Option Nat) (R : List aC) (rf : Int32 → mS → Option (Int32 × mS)) (x1 : Int32) (t0 : Int32) (C : mS) : Option (Int32 × mS) :=
  m_bd (k_43 N P vl R  C) fun r2 C2 =>
  bif (a_ic .eq t0 (0 : Int32)) then
    m_bd (k_50 N P vl R rf (x1 + (1 : Int32)) C2) fun r3 C3 =>
    bif (a_ic .eq r3 (0 : Int32)) then
      some ((0 : Int32), C3)
    else
      m_bd (k_46 N P vl R 5 C3) fun r4 C4 =>
      bif (a_ic .eq r4 (0 : Int32)) then
        some ((0 : Int32), C4)
      else
        some ((1 : Int32), C4)
  else
    m_bd (rf (x1 + (1 : Int32)) C2) fun r5 C5 =>
    bif (a_ic .eq r5 (0 : Int32)) then
      some ((0 : Int32), C5)
    else
      m_bd (k_54 N P vl R (-1 : Int32) C5) fun r6 C6 =>
      bif (a_ic .eq r6 (0 : Int32)) then
        some ((0 : Int32), C6)
      else
        some ((1 : Int32), C6)
def k_51_11 (N : Nat) (P : Nat → Option Nat) (vl : Option Nat) (R : List aC) (rf : Int32 → mS → Option (Int32 × mS)) (x1 : Int32) (C : mS) : Option (Int32 × mS) :=
  bif (a_ic .lt x1 (5 : Int32)) then
    bif (a_ic .ne (C 91 10) (33 : Int32)) then
      k_51_23 N P vl R rf  x1 (0 : Int32) C
    else
      k_51_23 N P vl R rf  x1 (1 : Int32) C
  else
    some ((0 : Int32), C)
/-- SoldWeather$Reader.factor -/
def k_51 (N : Nat) (P : Nat → Option Nat) (vl : Option Nat) (R : List aC) (rf : Int32 → mS → Option (Int32 × mS)) (x1 : Int32) (C : mS) : Option (Int32 × mS) :=
  bif (a_ic .eq (C 91 10) (33 : Int32)) then
    k_51_11 N P vl R rf  x1 C
  else
    bif (a_ic .eq (C 91 10) (40 : Int32)) then
      k_51_11 N P vl R rf  x1 C
    else
      m_bd (k_52 N P vl R  C) fun r1 C1 =>
      bif (decide (r1 = 0) || decide (r1 = 1)) then some (r1, C1) else none
/-- factor, q deep -/
def k_fac (N : Nat) (P : Nat → Option Nat) (vl : Option Nat) (R : List aC) : Nat → Int32 → mS → Option (Int32 × mS)
  | 0 => fun _ _ => none
  | q + 1 => k_51 N P vl R (k_fac N P vl R q)
def k_44_55 (N : Nat) (P : Nat → Option Nat) (vl : Option Nat) (R : List aC) (t1 : Int32) (C : mS) : Option (Int32 × mS) :=
  m_bd (k_49 N P vl R t1 C) fun r7 C7 =>
  bif (a_ic .eq r7 (0 : Int32)) then
    some ((0 : Int32), C7)
  else
    some ((1 : Int32), C7)
def k_44_18 (N : Nat) (P : Nat → Option Nat) (vl : Option Nat) (R : List aC) (x1 : Int32) (t0 : Int32) (C : mS) : Option (Int32 × mS) :=
  bif (a_ic .ge t0 (0 : Int32)) then
    bif (a_ic .ne x1 (114 : Int32)) then
      bif (a_ic .ne x1 (103 : Int32)) then
        m_bd (k_46 N P vl R 4 C) fun r5 C5 =>
        bif (a_ic .eq r5 (0 : Int32)) then
          some ((0 : Int32), C5)
        else
          m_bd (k_50 N P vl R (k_fac N P vl R 8) (0 : Int32) C5) fun r6 C6 =>
          bif (a_ic .eq r6 (0 : Int32)) then
            some ((0 : Int32), C6)
          else
            bif (a_ic .ne x1 (119 : Int32)) then
              k_44_55 N P vl R  (-t0) C6
            else
              k_44_55 N P vl R  t0 C6
      else
        some ((1 : Int32), (va_up C 91 (upd (C 91) 6 t0)))
    else
      some ((1 : Int32), (va_up C 91 (upd (C 91) 5 t0)))
  else
    some ((0 : Int32), C)
/-- SoldWeather$Reader.clause -/
def k_44 (N : Nat) (P : Nat → Option Nat) (vl : Option Nat) (R : List aC) (C : mS) : Option (Int32 × mS) :=
  m_bd (k_45 N P vl R (C 91 10) C) fun r1 C1 =>
  m_bd (k_46 N P vl R r1 C1) fun r2 C2 =>
  bif (a_ic .ne r2 (0 : Int32)) then
    bif (a_ic .ne (C 91 10) (114 : Int32)) then
      m_bd (k_48 N P vl R  C2) fun r3 C3 =>
      k_44_18 N P vl R  (C 91 10) r3 C3
    else
      m_bd (k_47 N P vl R  C2) fun r4 C4 =>
      k_44_18 N P vl R  (C 91 10) r4 C4
  else
    some ((0 : Int32), C2)
def k_40_26b (N : Nat) (P : Nat → Option Nat) (vl : Option Nat) (R : List aC) (rc26 : Int32 → mS → Option (Int32 × mS)) (x2 : Int32) (C : mS) : Option (Int32 × mS) :=
  bif (a_ic .ge x2 (10 : Int32)) then
    some ((C 91 9), C)
  else
    m_bd (k_44 N P vl R  C) fun r3 C3 =>
    bif (a_ic .ne r3 (0 : Int32)) then
      bif (a_ic .ne (C3 91 10) (-1 : Int32)) then
        bif (a_ic .ne (C3 91 10) (59 : Int32)) then
          some ((C3 91 9), C3)
        else
          bif (a_ic .ne x2 (9 : Int32)) then
            m_bd (k_43 N P vl R  C3) fun r4 C4 =>
            rc26 (x2 + (1 : Int32)) C4
          else
            some ((C3 91 9), C3)
      else
        some ((-1 : Int32), C3)
    else
      some ((C3 91 9), C3)
def k_40_26 (N : Nat) (P : Nat → Option Nat) (vl : Option Nat) (R : List aC) : Nat → Int32 → mS → Option (Int32 × mS)
  | 0 => fun _ _ => none
  | n + 1 => k_40_26b N P vl R (k_40_26 N P vl R n)
/-- SoldWeather$Reader.faultOf -/
def k_40 (N : Nat) (P : Nat → Option Nat) (vl : Option Nat) (R : List aC) (x1 : Int32) (C : mS) : Option (Int32 × mS) :=
  m_li (if (120 : Int32) < x1 then (120 : Int32) else x1) fun y1 =>
  m_bd (k_43 N P vl R  (va_up C 91 (upd (upd (C 91) 8 y1) 9 (-1 : Int32)))) fun r2 C2 =>
  k_40_26 N P vl R  N (0 : Int32) (va_up C2 91 (upd (upd (upd (upd (C2 91) 3 (0 : Int32)) 4 (0 : Int32)) 5 (0 : Int32)) 6 (0 : Int32)))
/-- SoldWeather$Saving.tells -/
def k_57 (N : Nat) (P : Nat → Option Nat) (vl : Option Nat) (R : List aC) (x0 : Nat) (x1 : Int32) (C : mS) : Option (Int32 × mS) :=
  m_bd (k_8 N P vl R (41 : Int32) C) fun r1 C1 =>
  m_ob (bdr R x0) fun ci3 ka3 nu3 va3 =>
  m_bd (k_7 N P vl R x0 (x1 - (1 : Int32)) C1) fun r2 C2 =>
  m_bd (if ci3 = 6 then k_38 N P vl R x0 (2 : Int32) C2 else none) fun r4 C4 =>
  some ((r2 + r4), C4)
/-- SoldWeather.feed -/
def k_76 (N : Nat) (P : Nat → Option Nat) (vl : Option Nat) (R : List aC) (x1 : Int32) (C : mS) : Option (Int32 × mS) :=
  bif (a_ic .lt x1 (0 : Int32)) then
    some ((-2 : Int32), C)
  else
    bif (a_ic .le x1 (127 : Int32)) then
      bif (a_ic .lt (C 90 1) (120 : Int32)) then
        bif (a_in (C 90 1) 120) then
        m_st (va_up C 0 (upd (C 0) ((C 90 1)).toNatClampNeg x1)) fun C1 =>
        some (((C1 90 1) + (1 : Int32)), (va_up C1 90 (upd (C1 90) 1 ((C1 90 1) + (1 : Int32)))))
        else none
      else
        some ((-4 : Int32), C)
    else
      some ((-2 : Int32), C)
/-- SoldWeather.told -/
def k_78 (N : Nat) (P : Nat → Option Nat) (vl : Option Nat) (R : List aC) (x1 : Int32) (C : mS) : Option (Int32 × mS) :=
  if (a_tsw 0 4 25 [2, 6, 10, 14, 18] x1) = 2 then
    m_bd (k_71 N P vl R  C) fun r1 C1 =>
    some (r1, C1)
  else if (a_tsw 0 4 25 [2, 6, 10, 14, 18] x1) = 6 then
    m_bd (k_72 N P vl R  C) fun r2 C2 =>
    some (r2, C2)
  else if (a_tsw 0 4 25 [2, 6, 10, 14, 18] x1) = 10 then
    some ((C 90 4), C)
  else if (a_tsw 0 4 25 [2, 6, 10, 14, 18] x1) = 14 then
    some ((C 90 5), C)
  else if (a_tsw 0 4 25 [2, 6, 10, 14, 18] x1) = 18 then
    m_bd (k_73 N P vl R (C 90 8) C) fun r3 C3 =>
    some (r3, C3)
  else if (a_tsw 0 4 25 [2, 6, 10, 14, 18] x1) = 25 then
    some ((-1 : Int32), C)
  else none
/-- SoldWeather.isWeather -/
def k_102 (N : Nat) (P : Nat → Option Nat) (vl : Option Nat) (R : List aC) (x0 : Int32) (C : mS) : Option (Int32 × mS) :=
  bif (a_ic .lt x0 (0 : Int32)) then
    some ((0 : Int32), C)
  else
    bif (a_ic .ge x0 (4 : Int32)) then
      some ((0 : Int32), C)
    else
      some ((1 : Int32), C)
/-- SoldWeather.grown -/
def k_105v3 (N : Nat) (P : Nat → Option Nat) (vl : Option Nat) (R : List aC) (x1 : Int32) (x2 : Int32) (C : mS) : Option (Int32 × mS) :=
  bif (a_ic .ne x2 (-1 : Int32)) then
    m_bd (k_102 N P vl R x2 C) fun r1 C1 =>
    bif (a_ic .ne r1 (0 : Int32)) then
      bif (a_ic .lt x1 (0 : Int32)) then
        some ((-4 : Int32), C1)
      else
        bif (a_ic .lt x1 (12 : Int32)) then
          bif (a_in x1 12) then
          m_st (va_up C1 1 (upd (C1 1) (x1).toNatClampNeg x2)) fun C2 =>
          some ((x1 + (1 : Int32)), C2)
          else none
        else
          some ((-4 : Int32), C1)
    else
      some ((-1 : Int32), C1)
  else
    some ((0 : Int32), C)
/-- SoldWeather.fortune -/
def k_79 (N : Nat) (P : Nat → Option Nat) (vl : Option Nat) (R : List aC) (x1 : Int32) (C : mS) : Option (Int32 × mS) :=
  m_bd (k_105v3 N P vl R (C 90 7) x1 C) fun r1 C1 =>
  bif (a_ic .lt r1 (0 : Int32)) then
    some (r1, C1)
  else
    some (r1, (va_up C1 90 (upd (upd (C1 90) 7 r1) 8 (0 : Int32))))
/-- SoldWeather.row -/
def k_81 (N : Nat) (P : Nat → Option Nat) (vl : Option Nat) (R : List aC) (x1 : Int32) (x2 : Int32) (x3 : Int32) (C : mS) : Option (Int32 × mS) :=
  m_bd (k_70 N P vl R x1 C) fun r1 C1 =>
  m_op r1 (
    some ((-1 : Int32), C1)) fun a2 =>
  m_bd (k_102 N P vl R x2 C1) fun r3 C3 =>
  bif (a_ic .ne r3 (0 : Int32)) then
    bif (a_ic .lt x3 (0 : Int32)) then
      some ((-2 : Int32), C3)
    else
      bif (a_ic .le x3 (99 : Int32)) then
        m_ob (bdr R a2) fun ci4 ka4 nu4 va4 =>
        bif (List.contains [8] ci4 || List.contains [0, 1, 3, 4, 6, 7] ci4) then
        m_li (bif List.contains [8] ci4 then 1 else 0) fun y5 =>
        bif (a_ic .ne y5 (0 : Int32)) then
          bif (a_in ((x1 * (4 : Int32)) + x2) 32) then
          m_li ((C3 3) (((x1 * (4 : Int32)) + x2)).toNatClampNeg) fun y6 =>
          bif (a_in ((x1 * (4 : Int32)) + x2) 32) then
          m_st (va_up C3 3 (upd (C3 3) (((x1 * (4 : Int32)) + x2)).toNatClampNeg x3)) fun C7 =>
          some (y6, C7)
          else none
          else none
        else
          some ((-3 : Int32), C3)
        else none
      else
        some ((-2 : Int32), C3)
  else
    some ((-1 : Int32), C3)
/-- SoldWeather.of -/
def k_82 (N : Nat) (P : Nat → Option Nat) (vl : Option Nat) (R : List aC) (x1 : Int32) (x2 : Int32) (C : mS) : Option (Int32 × mS) :=
  m_bd (k_70 N P vl R x1 C) fun r1 C1 =>
  m_op r1 (
    some ((-10001 : Int32), C1)) fun a2 =>
  m_bd (k_102 N P vl R (x2 - (10 : Int32)) C1) fun r3 C3 =>
  bif (a_ic .eq r3 (0 : Int32)) then
    m_bd (k_102 N P vl R (x2 - (20 : Int32)) C3) fun r4 C4 =>
    bif (a_ic .eq r4 (0 : Int32)) then
      if (a_tsw 0 2 59 [47, 50, 53] x2) = 47 then
        m_ob (bdr R a2) fun ci5 ka5 nu5 va5 =>
        bif List.contains [0, 1, 3, 4, 6, 7, 8] ci5 then
        some (ka5, C4)
        else none
      else if (a_tsw 0 2 59 [47, 50, 53] x2) = 50 then
        m_ob (bdr R a2) fun ci6 ka6 nu6 va6 =>
        bif List.contains [0, 1, 3, 4, 6, 7, 8] ci6 then
        some (va6, C4)
        else none
      else if (a_tsw 0 2 59 [47, 50, 53] x2) = 53 then
        bif (a_in x1 8) then
        m_li ((C4 2) (x1).toNatClampNeg) fun y7 =>
        some (y7, C4)
        else none
      else if (a_tsw 0 2 59 [47, 50, 53] x2) = 59 then
        some ((-10001 : Int32), C4)
      else none
    else
      m_bd (k_10 N P vl R  C4) fun r8 C8 =>
      m_bd (k_29 N P vl R x1 (x2 - (20 : Int32)) C8) fun r9 C9 =>
      some (r9, C9)
  else
    m_bd (k_10 N P vl R  C3) fun r10 C10 =>
    m_bd (k_13 N P vl R x1 C10) fun r11 C11 =>
    m_bd (k_22 N P vl R x1 (x2 - (10 : Int32)) C11) fun r12 C12 =>
    some (r12, C12)
/-- SoldWeather.go -/
def k_83 (N : Nat) (P : Nat → Option Nat) (vl : Option Nat) (R : List aC) (C : mS) : Option (Int32 × mS) :=
  bif (a_ic .lt (C 90 4) (99 : Int32)) then
    m_bd (k_10 N P vl R  C) fun r1 C1 =>
    m_bd (k_12 N P vl R  C1) fun r2 C2 =>
    m_bd (k_19 N P vl R  C2) fun r3 C3 =>
    m_bd (k_11 N P vl R  C3) fun r4 C4 =>
    some ((C4 90 5), C4)
  else
    some ((-3 : Int32), C)
def k_84_16 (N : Nat) (P : Nat → Option Nat) (vl : Option Nat) (R : List aC) (x1 : Int32) (x2 : Int32) (C : mS) : Option (Int32 × mS) :=
  m_bd (k_10 N P vl R  C) fun r2 C2 =>
  m_bd (k_12 N P vl R  C2) fun r3 C3 =>
  bif (a_ic .eq x2 (0 : Int32)) then
    bif (a_ic .ne x1 (0 : Int32)) then
      m_bd (k_23 N P vl R (C3 92 9) C3) fun r4 C4 =>
      some (r4, C4)
    else
      some ((C3 92 9), C3)
  else
    m_bd (k_16 N P vl R (x1 - (10 : Int32)) C3) fun r5 C5 =>
    some (r5, C5)
/-- SoldWeather.sold -/
def k_84 (N : Nat) (P : Nat → Option Nat) (vl : Option Nat) (R : List aC) (x1 : Int32) (C : mS) : Option (Int32 × mS) :=
  m_bd (k_69 N P vl R (x1 - (10 : Int32)) C) fun r1 C1 =>
  bif (a_ic .eq x1 (0 : Int32)) then
    k_84_16 N P vl R  x1 r1 C1
  else
    bif (a_ic .eq x1 (1 : Int32)) then
      k_84_16 N P vl R  x1 r1 C1
    else
      bif (a_ic .ne r1 (0 : Int32)) then
        k_84_16 N P vl R  x1 r1 C1
      else
        some ((-10001 : Int32), C1)
def k_85_34b (N : Nat) (P : Nat → Option Nat) (vl : Option Nat) (R : List aC) (rc34 : Int32 → Int32 → Int32 → Int32 → Int32 → Int32 → Int32 → mS → Option (Int32 × mS)) (x1 : Int32) (x2 : Int32) (x3 : Int32) (x4 : Int32) (x5 : Int32) (x6 : Int32) (x7 : Int32) (C : mS) : Option (Int32 × mS) :=
  bif (a_ic .ge x7 x1) then
    bif (a_ic .eq x3 (0 : Int32)) then
      bif (a_ic .ne x2 (0 : Int32)) then
        bif (a_ic .ne x2 (1 : Int32)) then
          some (x6, C)
        else
          some (x5, C)
      else
        some (x4, C)
    else
      m_bd (k_21 N P vl R (x2 - (10 : Int32)) C) fun r3 C3 =>
      some (r3, C3)
  else
    m_bd (k_12 N P vl R  C) fun r4 C4 =>
    m_bd (k_30 N P vl R (C4 92 9) C4) fun r5 C5 =>
    m_bd (k_19 N P vl R  C5) fun r6 C6 =>
    rc34 x1 x2 x3 (C4 92 9) (x5 + r5) (x6 + r6) (x7 + (1 : Int32)) C6
def k_85_34 (N : Nat) (P : Nat → Option Nat) (vl : Option Nat) (R : List aC) : Nat → Int32 → Int32 → Int32 → Int32 → Int32 → Int32 → Int32 → mS → Option (Int32 × mS)
  | 0 => fun _ _ _ _ _ _ _ _ => none
  | n + 1 => k_85_34b N P vl R (k_85_34 N P vl R n)
def k_85_16 (N : Nat) (P : Nat → Option Nat) (vl : Option Nat) (R : List aC) (x1 : Int32) (x2 : Int32) (x3 : Int32) (C : mS) : Option (Int32 × mS) :=
  bif (a_ic .lt x1 (0 : Int32)) then
    some ((-10002 : Int32), C)
  else
    bif (a_ic .le x1 (40 : Int32)) then
      m_bd (k_10 N P vl R  C) fun r2 C2 =>
      k_85_34 N P vl R  N x1 x2 x3 (-5 : Int32) (0 : Int32) (0 : Int32) (0 : Int32) C2
    else
      some ((-10002 : Int32), C)
/-- SoldWeather.run -/
def k_85 (N : Nat) (P : Nat → Option Nat) (vl : Option Nat) (R : List aC) (x1 : Int32) (x2 : Int32) (C : mS) : Option (Int32 × mS) :=
  m_bd (k_69 N P vl R (x2 - (10 : Int32)) C) fun r1 C1 =>
  bif (a_ic .ne r1 (0 : Int32)) then
    k_85_16 N P vl R  x1 x2 r1 C1
  else
    bif (a_ic .lt x2 (0 : Int32)) then
      some ((-10001 : Int32), C1)
    else
      bif (a_ic .le x2 (2 : Int32)) then
        k_85_16 N P vl R  x1 x2 r1 C1
      else
        some ((-10001 : Int32), C1)
def k_108_6b (N : Nat) (P : Nat → Option Nat) (vl : Option Nat) (R : List aC) (rc6 : Int32 → Int32 → Int32 → Int32 → Int32 → mS → Option (Int32 × mS)) (x1 : Int32) (x2 : Int32) (x3 : Int32) (x4 : Int32) (x5 : Int32) (C : mS) : Option (Int32 × mS) :=
  bif (a_ic .ge x5 (4 : Int32)) then
    bif (a_in ((x1 * (4 : Int32)) + x2) 32) then
    m_st (va_up C 15 (upd (C 15) (((x1 * (4 : Int32)) + x2)).toNatClampNeg x3)) fun C1 =>
    bif (a_in ((x1 * (4 : Int32)) + x2) 36) then
    m_st (va_up C1 16 (upd (C1 16) (((x1 * (4 : Int32)) + x2)).toNatClampNeg x4)) fun C2 =>
    some (0, C2)
    else none
    else none
  else
    m_bd (k_31 N P vl R x5 ((C 90 4) + x1) x2 C) fun r3 C3 =>
    bif (a_in (((x1 + (1 : Int32)) * (4 : Int32)) + x5) 36) then
    m_li ((C3 16) ((((x1 + (1 : Int32)) * (4 : Int32)) + x5)).toNatClampNeg) fun y4 =>
    bif (a_ic .eq x5 (0 : Int32)) then
      rc6 x1 x2 x5 (r3 + y4) (x5 + (1 : Int32)) C3
    else
      bif (a_ic .le (r3 + y4) x4) then
        rc6 x1 x2 x3 x4 (x5 + (1 : Int32)) C3
      else
        rc6 x1 x2 x5 (r3 + y4) (x5 + (1 : Int32)) C3
    else none
def k_108_6 (N : Nat) (P : Nat → Option Nat) (vl : Option Nat) (R : List aC) : Nat → Int32 → Int32 → Int32 → Int32 → Int32 → mS → Option (Int32 × mS)
  | 0 => fun _ _ _ _ _ _ => none
  | n + 1 => k_108_6b N P vl R (k_108_6 N P vl R n)
/-- SoldWeather.planDay -/
def k_108 (N : Nat) (P : Nat → Option Nat) (vl : Option Nat) (R : List aC) (x1 : Int32) (x2 : Int32) (C : mS) : Option (Int32 × mS) :=
  k_108_6 N P vl R  N x1 x2 (0 : Int32) (0 : Int32) (0 : Int32) C
def k_86_66b (N : Nat) (P : Nat → Option Nat) (vl : Option Nat) (R : List aC) (rc66 : Int32 → Int32 → Int32 → mS → Option (Int32 × mS)) (x2 : Int32) (x3 : Int32) (x4 : Int32) (C : mS) : Option (Int32 × mS) :=
  bif (a_ic .gt x4 x2) then
    some (x3, C)
  else
    bif (a_in ((x4 * (4 : Int32)) + x3) 32) then
    m_li ((C 15) (((x4 * (4 : Int32)) + x3)).toNatClampNeg) fun y3 =>
    rc66 x2 y3 (x4 + (1 : Int32)) C
    else none
def k_86_66 (N : Nat) (P : Nat → Option Nat) (vl : Option Nat) (R : List aC) : Nat → Int32 → Int32 → Int32 → mS → Option (Int32 × mS)
  | 0 => fun _ _ _ _ => none
  | n + 1 => k_86_66b N P vl R (k_86_66 N P vl R n)
def k_86_40b (N : Nat) (P : Nat → Option Nat) (vl : Option Nat) (R : List aC) (rc36 : Int32 → Int32 → mS → Option (Int32 × mS)) (rc40 : Int32 → Int32 → Int32 → mS → Option (Int32 × mS)) (x2 : Int32) (x3 : Int32) (x4 : Int32) (C : mS) : Option (Int32 × mS) :=
  bif (a_ic .ge x4 (4 : Int32)) then
    m_li (x3 + (-1 : Int32)) fun y4 =>
    rc36 x2 y4 C
  else
    m_bd (k_108 N P vl R x3 x4 C) fun r5 C5 =>
    rc40 x2 x3 (x4 + (1 : Int32)) C5
def k_86_40 (N : Nat) (P : Nat → Option Nat) (vl : Option Nat) (R : List aC) (rc36 : Int32 → Int32 → mS → Option (Int32 × mS)) : Nat → Int32 → Int32 → Int32 → mS → Option (Int32 × mS)
  | 0 => fun _ _ _ _ => none
  | n + 1 => k_86_40b N P vl R rc36 (k_86_40 N P vl R rc36 n)
def k_86_36b (N : Nat) (P : Nat → Option Nat) (vl : Option Nat) (R : List aC) (rc36 : Int32 → Int32 → mS → Option (Int32 × mS)) (x2 : Int32) (x3 : Int32) (C : mS) : Option (Int32 × mS) :=
  bif (a_ic .lt x3 (0 : Int32)) then
    bif (a_ic .ge x2 (0 : Int32)) then
      k_86_66 N P vl R  N x2 (C 90 5) (0 : Int32) C
    else
      bif (a_in (C 90 5) 36) then
      m_li ((C 16) ((C 90 5)).toNatClampNeg) fun y2 =>
      some (y2, C)
      else none
  else
    k_86_40 N P vl R rc36 N x2 x3 (0 : Int32) C
def k_86_36 (N : Nat) (P : Nat → Option Nat) (vl : Option Nat) (R : List aC) : Nat → Int32 → Int32 → mS → Option (Int32 × mS)
  | 0 => fun _ _ _ => none
  | n + 1 => k_86_36b N P vl R (k_86_36 N P vl R n)
def k_86_18b (N : Nat) (P : Nat → Option Nat) (vl : Option Nat) (R : List aC) (rc18 : Int32 → Int32 → Int32 → mS → Option (Int32 × mS)) (x1 : Int32) (x2 : Int32) (x3 : Int32) (C : mS) : Option (Int32 × mS) :=
  bif (a_ic .ge x3 (4 : Int32)) then
    k_86_36 N P vl R  N x2 (x1 - (1 : Int32)) C
  else
    bif (a_in ((x1 * (4 : Int32)) + x3) 36) then
    m_st (va_up C 16 (upd (C 16) (((x1 * (4 : Int32)) + x3)).toNatClampNeg (0 : Int32))) fun C1 =>
    rc18 x1 x2 (x3 + (1 : Int32)) C1
    else none
def k_86_18 (N : Nat) (P : Nat → Option Nat) (vl : Option Nat) (R : List aC) : Nat → Int32 → Int32 → Int32 → mS → Option (Int32 × mS)
  | 0 => fun _ _ _ _ => none
  | n + 1 => k_86_18b N P vl R (k_86_18 N P vl R n)
/-- SoldWeather.best -/
def k_86 (N : Nat) (P : Nat → Option Nat) (vl : Option Nat) (R : List aC) (x1 : Int32) (x2 : Int32) (C : mS) : Option (Int32 × mS) :=
  bif (a_ic .lt x1 (1 : Int32)) then
    some ((-10002 : Int32), C)
  else
    bif (a_ic .le x1 (8 : Int32)) then
      bif (a_ic .lt x2 (-1 : Int32)) then
        some ((-10001 : Int32), C)
      else
        bif (a_ic .lt x2 x1) then
          k_86_18 N P vl R  N x1 x2 (0 : Int32) C
        else
          some ((-10001 : Int32), C)
    else
      some ((-10002 : Int32), C)
def k_87_43b (N : Nat) (P : Nat → Option Nat) (vl : Option Nat) (R : List aC) (rc38 : Int32 → Int32 → Int32 → Int32 → Int32 → Int32 → Int32 → Int32 → mS → Option (Int32 × mS)) (rc43 : Int32 → Int32 → Int32 → Int32 → Int32 → Int32 → Int32 → Int32 → Int32 → mS → Option (Int32 × mS)) (x1 : Int32) (x2 : Int32) (x3 : Int32) (x4 : Int32) (x5 : Int32) (x6 : Int32) (x7 : Int32) (x8 : Int32) (x9 : Int32) (C : mS) : Option (Int32 × mS) :=
  bif (a_ic .gt x9 x7) then
    rc38 x1 x2 x3 x4 x5 x6 x7 (x8 + (1 : Int32)) C
  else
    m_bd (k_25 N P vl R x1 x8 x9 C) fun r7 C7 =>
    bif (a_ic .le r7 x4) then
      rc43 x1 x2 x3 x4 x5 x6 x7 x8 (x9 + (1 : Int32)) C7
    else
      rc43 x1 x2 x3 r7 x8 x9 x7 x8 (x9 + (1 : Int32)) C7
def k_87_43 (N : Nat) (P : Nat → Option Nat) (vl : Option Nat) (R : List aC) (rc38 : Int32 → Int32 → Int32 → Int32 → Int32 → Int32 → Int32 → Int32 → mS → Option (Int32 × mS)) : Nat → Int32 → Int32 → Int32 → Int32 → Int32 → Int32 → Int32 → Int32 → Int32 → mS → Option (Int32 × mS)
  | 0 => fun _ _ _ _ _ _ _ _ _ _ => none
  | n + 1 => k_87_43b N P vl R rc38 (k_87_43 N P vl R rc38 n)
def k_87_38b (N : Nat) (P : Nat → Option Nat) (vl : Option Nat) (R : List aC) (rc38 : Int32 → Int32 → Int32 → Int32 → Int32 → Int32 → Int32 → Int32 → mS → Option (Int32 × mS)) (x1 : Int32) (x2 : Int32) (x3 : Int32) (x4 : Int32) (x5 : Int32) (x6 : Int32) (x7 : Int32) (x8 : Int32) (C : mS) : Option (Int32 × mS) :=
  bif (a_ic .ge x8 (4 : Int32)) then
    bif (a_ic .ne x2 (0 : Int32)) then
      bif (a_ic .ne x2 (1 : Int32)) then
        some (x6, C)
      else
        some (x5, C)
    else
      some ((x4 - x3), C)
  else
    k_87_43 N P vl R rc38 N x1 x2 x3 x4 x5 x6 x7 x8 (0 : Int32) C
def k_87_38 (N : Nat) (P : Nat → Option Nat) (vl : Option Nat) (R : List aC) : Nat → Int32 → Int32 → Int32 → Int32 → Int32 → Int32 → Int32 → Int32 → mS → Option (Int32 × mS)
  | 0 => fun _ _ _ _ _ _ _ _ _ => none
  | n + 1 => k_87_38b N P vl R (k_87_38 N P vl R n)
/-- SoldWeather.truly -/
def k_87 (N : Nat) (P : Nat → Option Nat) (vl : Option Nat) (R : List aC) (x1 : Int32) (x2 : Int32) (C : mS) : Option (Int32 × mS) :=
  m_bd (k_69 N P vl R x1 C) fun r1 C1 =>
  bif (a_ic .eq r1 (0 : Int32)) then
    some ((-1 : Int32), C1)
  else
    bif (a_ic .lt x2 (0 : Int32)) then
      some ((-1 : Int32), C1)
    else
      bif (a_ic .le x2 (2 : Int32)) then
        m_bd (k_10 N P vl R  C1) fun r2 C2 =>
        m_bd (k_12 N P vl R  C2) fun r3 C3 =>
        m_bd (k_24 N P vl R x1 C3) fun r4 C4 =>
        m_bd (k_21 N P vl R x1 C4) fun r5 C5 =>
        m_li (if r5 < (40 : Int32) then r5 else (40 : Int32)) fun y6 =>
        k_87_38 N P vl R  N x1 x2 r4 r4 (-5 : Int32) (-5 : Int32) y6 (0 : Int32) C5
      else
        some ((-1 : Int32), C1)
/-- SoldWeather.harm -/
def k_88 (N : Nat) (P : Nat → Option Nat) (vl : Option Nat) (R : List aC) (x1 : Int32) (C : mS) : Option (Int32 × mS) :=
  m_bd (k_69 N P vl R x1 C) fun r1 C1 =>
  bif (a_ic .ne r1 (0 : Int32)) then
    m_bd (k_10 N P vl R  C1) fun r2 C2 =>
    m_bd (k_12 N P vl R  C2) fun r3 C3 =>
    m_bd (k_17 N P vl R x1 C3) fun r4 C4 =>
    some (r4, C4)
  else
    some ((-1 : Int32), C1)
def k_89_45b (N : Nat) (P : Nat → Option Nat) (vl : Option Nat) (R : List aC) (rc36 : Int32 → Int32 → Int32 → Int32 → mS → Option (Int32 × mS)) (rc45 : Int32 → Int32 → Int32 → Int32 → Int32 → mS → Option (Int32 × mS)) (x1 : Int32) (x2 : Int32) (x3 : Int32) (x4 : Int32) (x5 : Int32) (C : mS) : Option (Int32 × mS) :=
  bif (a_ic .ge x5 (C 90 12)) then
    rc36 x1 x2 x3 (x4 + (1 : Int32)) C
  else
    m_bd (k_26 N P vl R x4 x5 C) fun r5 C5 =>
    bif (a_in x4 8) then
    m_li ((C5 14) (x4).toNatClampNeg) fun y6 =>
    bif (a_in x5 8) then
    m_li ((C5 14) (x5).toNatClampNeg) fun y7 =>
    bif (a_ic .le r5 (y6 + y7)) then
      rc45 x1 x2 x3 x4 (x5 + (1 : Int32)) C5
    else
      bif (a_ic .ne x2 (0 : Int32)) then
        rc45 x1 (x2 + (1 : Int32)) x3 x4 (x5 + (1 : Int32)) C5
      else
        rc45 x1 (x2 + (1 : Int32)) (((10 : Int32) * x4) + x5) x4 (x5 + (1 : Int32)) C5
    else none
    else none
def k_89_45 (N : Nat) (P : Nat → Option Nat) (vl : Option Nat) (R : List aC) (rc36 : Int32 → Int32 → Int32 → Int32 → mS → Option (Int32 × mS)) : Nat → Int32 → Int32 → Int32 → Int32 → Int32 → mS → Option (Int32 × mS)
  | 0 => fun _ _ _ _ _ _ => none
  | n + 1 => k_89_45b N P vl R rc36 (k_89_45 N P vl R rc36 n)
def k_89_36b (N : Nat) (P : Nat → Option Nat) (vl : Option Nat) (R : List aC) (rc36 : Int32 → Int32 → Int32 → Int32 → mS → Option (Int32 × mS)) (x1 : Int32) (x2 : Int32) (x3 : Int32) (x4 : Int32) (C : mS) : Option (Int32 × mS) :=
  bif (a_ic .ge x4 (C 90 12)) then
    bif (a_ic .ne x1 (0 : Int32)) then
      some (x3, C)
    else
      some (x2, C)
  else
    k_89_45 N P vl R rc36 N x1 x2 x3 x4 (x4 + (1 : Int32)) C
def k_89_36 (N : Nat) (P : Nat → Option Nat) (vl : Option Nat) (R : List aC) : Nat → Int32 → Int32 → Int32 → Int32 → mS → Option (Int32 × mS)
  | 0 => fun _ _ _ _ _ => none
  | n + 1 => k_89_36b N P vl R (k_89_36 N P vl R n)
def k_89_15b (N : Nat) (P : Nat → Option Nat) (vl : Option Nat) (R : List aC) (rc15 : Int32 → Int32 → mS → Option (Int32 × mS)) (x1 : Int32) (x2 : Int32) (C : mS) : Option (Int32 × mS) :=
  bif (a_ic .ge x2 (C 90 12)) then
    k_89_36 N P vl R  N x1 (0 : Int32) (-5 : Int32) (0 : Int32) C
  else
    m_bd (k_24 N P vl R x2 C) fun r3 C3 =>
    bif (a_in x2 8) then
    m_st (va_up C3 14 (upd (C3 14) (x2).toNatClampNeg r3)) fun C4 =>
    rc15 x1 (x2 + (1 : Int32)) C4
    else none
def k_89_15 (N : Nat) (P : Nat → Option Nat) (vl : Option Nat) (R : List aC) : Nat → Int32 → Int32 → mS → Option (Int32 × mS)
  | 0 => fun _ _ _ => none
  | n + 1 => k_89_15b N P vl R (k_89_15 N P vl R n)
/-- SoldWeather.leagues -/
def k_89 (N : Nat) (P : Nat → Option Nat) (vl : Option Nat) (R : List aC) (x1 : Int32) (C : mS) : Option (Int32 × mS) :=
  bif (a_ic .lt x1 (0 : Int32)) then
    some ((-1 : Int32), C)
  else
    bif (a_ic .le x1 (1 : Int32)) then
      m_bd (k_10 N P vl R  C) fun r1 C1 =>
      m_bd (k_12 N P vl R  C1) fun r2 C2 =>
      k_89_15 N P vl R  N x1 (0 : Int32) C2
    else
      some ((-1 : Int32), C)
/-- SoldWeather.grown -/
def k_105v7 (N : Nat) (P : Nat → Option Nat) (vl : Option Nat) (R : List aC) (x1 : Int32) (x2 : Int32) (C : mS) : Option (Int32 × mS) :=
  bif (a_ic .ne x2 (-1 : Int32)) then
    m_bd (k_102 N P vl R x2 C) fun r1 C1 =>
    bif (a_ic .ne r1 (0 : Int32)) then
      bif (a_ic .lt x1 (0 : Int32)) then
        some ((-4 : Int32), C1)
      else
        bif (a_ic .lt x1 (20 : Int32)) then
          bif (a_in x1 20) then
          m_st (va_up C1 4 (upd (C1 4) (x1).toNatClampNeg x2)) fun C2 =>
          some ((x1 + (1 : Int32)), C2)
          else none
        else
          some ((-4 : Int32), C1)
    else
      some ((-1 : Int32), C1)
  else
    some ((0 : Int32), C)
/-- SoldWeather.beside -/
def k_90 (N : Nat) (P : Nat → Option Nat) (vl : Option Nat) (R : List aC) (x1 : Int32) (C : mS) : Option (Int32 × mS) :=
  m_bd (k_105v7 N P vl R (C 90 14) x1 C) fun r1 C1 =>
  bif (a_ic .lt r1 (0 : Int32)) then
    some (r1, C1)
  else
    some (r1, (va_up C1 90 (upd (C1 90) 14 r1)))
/-- SoldWeather.isRun -/
def k_104 (N : Nat) (P : Nat → Option Nat) (vl : Option Nat) (R : List aC) (x0 : Int32) (C : mS) : Option (Int32 × mS) :=
  bif (a_ic .lt x0 (1 : Int32)) then
    some ((0 : Int32), C)
  else
    bif (a_ic .gt x0 (40 : Int32)) then
      some ((0 : Int32), C)
    else
      some ((1 : Int32), C)
def k_91_54 (N : Nat) (P : Nat → Option Nat) (vl : Option Nat) (R : List aC) (rc17 : Int32 → Int32 → Int32 → Int32 → mS → Option (Int32 × mS)) (x1 : Int32) (x2 : Int32) (x3 : Int32) (x4 : Int32) (C : mS) : Option (Int32 × mS) :=
  m_bd (k_19 N P vl R  C) fun r6 C6 =>
  rc17 x1 x2 x3 (x4 + (1 : Int32)) C6
def k_91_17b (N : Nat) (P : Nat → Option Nat) (vl : Option Nat) (R : List aC) (rc17 : Int32 → Int32 → Int32 → Int32 → mS → Option (Int32 × mS)) (x1 : Int32) (x2 : Int32) (x3 : Int32) (x4 : Int32) (C : mS) : Option (Int32 × mS) :=
  bif (a_ic .ge x4 x1) then
    some (x3, C)
  else
    m_bd (k_12 N P vl R  C) fun r3 C3 =>
    m_bd (k_30 N P vl R (C3 92 9) C3) fun r4 C4 =>
    bif (a_ic .ge x4 (C4 90 14)) then
      k_91_54 N P vl R rc17 x1 x2 (x3 + r4) x4 C4
    else
      bif (a_in x4 20) then
      m_li ((C4 4) (x4).toNatClampNeg) fun y5 =>
      bif (a_ic .ne y5 (C4 92 9)) then
        k_91_54 N P vl R rc17 x1 x2 (x3 + r4) x4 C4
      else
        k_91_54 N P vl R rc17 x1 x2 ((x3 + r4) + (x2 * (C4 90 12))) x4 C4
      else none
def k_91_17 (N : Nat) (P : Nat → Option Nat) (vl : Option Nat) (R : List aC) : Nat → Int32 → Int32 → Int32 → Int32 → mS → Option (Int32 × mS)
  | 0 => fun _ _ _ _ _ => none
  | n + 1 => k_91_17b N P vl R (k_91_17 N P vl R n)
/-- SoldWeather.spill -/
def k_91 (N : Nat) (P : Nat → Option Nat) (vl : Option Nat) (R : List aC) (x1 : Int32) (x2 : Int32) (C : mS) : Option (Int32 × mS) :=
  m_bd (k_104 N P vl R x1 C) fun r1 C1 =>
  bif (a_ic .eq r1 (0 : Int32)) then
    some ((-10002 : Int32), C1)
  else
    bif (a_ic .lt x2 (0 : Int32)) then
      some ((-10002 : Int32), C1)
    else
      bif (a_ic .le x2 (99 : Int32)) then
        m_bd (k_10 N P vl R  C1) fun r2 C2 =>
        k_91_17 N P vl R  N x1 x2 (0 : Int32) (0 : Int32) C2
      else
        some ((-10002 : Int32), C1)
def k_109_4b (N : Nat) (P : Nat → Option Nat) (vl : Option Nat) (R : List aC) (rc4 : Int32 → Int32 → mS → Option (Int32 × mS)) (x1 : Int32) (x2 : Int32) (C : mS) : Option (Int32 × mS) :=
  bif (a_ic .ge x2 (C 90 12)) then
    some (x1, C)
  else
    m_bd (k_29 N P vl R x2 (C 92 9) C) fun r1 C1 =>
    bif (a_in x2 8) then
    m_li ((C1 14) (x2).toNatClampNeg) fun y2 =>
    bif (a_in x2 8) then
    m_st (va_up C1 14 (upd (C1 14) (x2).toNatClampNeg (y2 + r1))) fun C3 =>
    bif (a_ic .le r1 (0 : Int32)) then
      rc4 x1 (x2 + (1 : Int32)) C3
    else
      rc4 (x1 ||| ((1 : Int32) <<< (x2 &&& 31))) (x2 + (1 : Int32)) C3
    else none
    else none
def k_109_4 (N : Nat) (P : Nat → Option Nat) (vl : Option Nat) (R : List aC) : Nat → Int32 → Int32 → mS → Option (Int32 × mS)
  | 0 => fun _ _ _ => none
  | n + 1 => k_109_4b N P vl R (k_109_4 N P vl R n)
/-- SoldWeather.tallyWorth -/
def k_109 (N : Nat) (P : Nat → Option Nat) (vl : Option Nat) (R : List aC) (C : mS) : Option (Int32 × mS) :=
  k_109_4 N P vl R  N (0 : Int32) (0 : Int32) C
def k_110_12b (N : Nat) (P : Nat → Option Nat) (vl : Option Nat) (R : List aC) (rc12 : Int32 → Int32 → Int32 → mS → Option (Int32 × mS)) (x1 : Int32) (x2 : Int32) (x3 : Int32) (C : mS) : Option (Int32 × mS) :=
  bif (a_ic .ge x3 (C 90 12)) then
    bif (a_ic .ne (C 90 12) (0 : Int32)) then
      some ((x2 - x1), C)
    else
      some ((0 : Int32), C)
  else
    bif (a_in x3 8) then
    m_li ((C 14) (x3).toNatClampNeg) fun y1 =>
    m_li (if y1 < x1 then y1 else x1) fun y2 =>
    bif (a_in x3 8) then
    m_li ((C 14) (x3).toNatClampNeg) fun y3 =>
    m_li (if x2 < y3 then y3 else x2) fun y4 =>
    rc12 y2 y4 (x3 + (1 : Int32)) C
    else none
    else none
def k_110_12 (N : Nat) (P : Nat → Option Nat) (vl : Option Nat) (R : List aC) : Nat → Int32 → Int32 → Int32 → mS → Option (Int32 × mS)
  | 0 => fun _ _ _ _ => none
  | n + 1 => k_110_12b N P vl R (k_110_12 N P vl R n)
/-- SoldWeather.tallySpan -/
def k_110 (N : Nat) (P : Nat → Option Nat) (vl : Option Nat) (R : List aC) (C : mS) : Option (Int32 × mS) :=
  k_110_12 N P vl R  N ((C 14) 0) ((C 14) 0) (1 : Int32) C
def k_92_39b (N : Nat) (P : Nat → Option Nat) (vl : Option Nat) (R : List aC) (rc39 : Int32 → Int32 → Int32 → Int32 → mS → Option (Int32 × mS)) (x1 : Int32) (x2 : Int32) (x3 : Int32) (x4 : Int32) (C : mS) : Option (Int32 × mS) :=
  bif (a_ic .ge x4 x1) then
    bif (a_ic .ne x2 (0 : Int32)) then
      m_bd (k_110 N P vl R  C) fun r4 C4 =>
      some (r4, C4)
    else
      some (x3, C)
  else
    m_bd (k_12 N P vl R  C) fun r5 C5 =>
    m_bd (k_109 N P vl R  C5) fun r6 C6 =>
    m_li (r6 ^^^ (-1 : Int32)) fun y7 =>
    m_bd (k_19 N P vl R  C6) fun r8 C8 =>
    rc39 x1 x2 (x3 &&& y7) (x4 + (1 : Int32)) C8
def k_92_39 (N : Nat) (P : Nat → Option Nat) (vl : Option Nat) (R : List aC) : Nat → Int32 → Int32 → Int32 → Int32 → mS → Option (Int32 × mS)
  | 0 => fun _ _ _ _ _ => none
  | n + 1 => k_92_39b N P vl R (k_92_39 N P vl R n)
def k_92_14b (N : Nat) (P : Nat → Option Nat) (vl : Option Nat) (R : List aC) (rc14 : Int32 → Int32 → Int32 → mS → Option (Int32 × mS)) (x1 : Int32) (x2 : Int32) (x3 : Int32) (C : mS) : Option (Int32 × mS) :=
  bif (a_ic .ge x3 (C 90 12)) then
    m_bd (k_10 N P vl R  C) fun r2 C2 =>
    k_92_39 N P vl R  N x1 x2 (((1 : Int32) <<< ((C 90 12) &&& 31)) - (1 : Int32)) (0 : Int32) C2
  else
    bif (a_in x3 8) then
    m_st (va_up C 14 (upd (C 14) (x3).toNatClampNeg (0 : Int32))) fun C3 =>
    rc14 x1 x2 (x3 + (1 : Int32)) C3
    else none
def k_92_14 (N : Nat) (P : Nat → Option Nat) (vl : Option Nat) (R : List aC) : Nat → Int32 → Int32 → Int32 → mS → Option (Int32 × mS)
  | 0 => fun _ _ _ _ => none
  | n + 1 => k_92_14b N P vl R (k_92_14 N P vl R n)
/-- SoldWeather.poor -/
def k_92 (N : Nat) (P : Nat → Option Nat) (vl : Option Nat) (R : List aC) (x1 : Int32) (x2 : Int32) (C : mS) : Option (Int32 × mS) :=
  bif (a_ic .lt x2 (0 : Int32)) then
    some ((-1 : Int32), C)
  else
    bif (a_ic .le x2 (1 : Int32)) then
      m_bd (k_104 N P vl R x1 C) fun r1 C1 =>
      bif (a_ic .ne r1 (0 : Int32)) then
        k_92_14 N P vl R  N x1 x2 (0 : Int32) C1
      else
        some ((-2 : Int32), C1)
    else
      some ((-1 : Int32), C)
def k_93_37 (N : Nat) (P : Nat → Option Nat) (vl : Option Nat) (R : List aC) (rc12 : Int32 → Int64 → Int32 → mS → Option (Int64 × mS)) (x1 : Int32) (x2 : Int64) (x4 : Int32) (C : mS) : Option (Int64 × mS) :=
  m_bd (k_19 N P vl R  C) fun r7 C7 =>
  rc12 x1 x2 (x4 + (1 : Int32)) C7
def k_93_12b (N : Nat) (P : Nat → Option Nat) (vl : Option Nat) (R : List aC) (rc12 : Int32 → Int64 → Int32 → mS → Option (Int64 × mS)) (x1 : Int32) (x2 : Int64) (x4 : Int32) (C : mS) : Option (Int64 × mS) :=
  bif (a_ic .ge x4 x1) then
    some (x2, C)
  else
    m_bd (k_12 N P vl R  C) fun r3 C3 =>
    m_bd (k_30 N P vl R (C3 92 9) C3) fun r4 C4 =>
    m_bd (k_20 N P vl R  C4) fun r5 C5 =>
    m_bd (k_30 N P vl R r5 C5) fun r6 C6 =>
    bif (a_ic .ge r4 r6) then
      k_93_37 N P vl R rc12 x1 x2 x4 C6
    else
      k_93_37 N P vl R rc12 x1 (x2 ||| ((1 : Int64) <<< (Int32.toInt64 x4 &&& 63))) x4 C6
def k_93_12 (N : Nat) (P : Nat → Option Nat) (vl : Option Nat) (R : List aC) : Nat → Int32 → Int64 → Int32 → mS → Option (Int64 × mS)
  | 0 => fun _ _ _ _ => none
  | n + 1 => k_93_12b N P vl R (k_93_12 N P vl R n)
/-- SoldWeather.worse -/
def k_93 (N : Nat) (P : Nat → Option Nat) (vl : Option Nat) (R : List aC) (x1 : Int32) (C : mS) : Option (Int64 × mS) :=
  m_bd (k_104 N P vl R x1 C) fun r1 C1 =>
  bif (a_ic .ne r1 (0 : Int32)) then
    m_bd (k_10 N P vl R  C1) fun r2 C2 =>
    k_93_12 N P vl R  N x1 (0 : Int64) (0 : Int32) C2
  else
    some ((-2 : Int32).toInt64, C1)
/-- SoldWeather.grown -/
def k_105v8 (N : Nat) (P : Nat → Option Nat) (vl : Option Nat) (R : List aC) (x1 : Int32) (x2 : Int32) (C : mS) : Option (Int32 × mS) :=
  bif (a_ic .ne x2 (-1 : Int32)) then
    m_bd (k_102 N P vl R x2 C) fun r1 C1 =>
    bif (a_ic .ne r1 (0 : Int32)) then
      bif (a_ic .lt x1 (0 : Int32)) then
        some ((-4 : Int32), C1)
      else
        bif (a_ic .lt x1 (12 : Int32)) then
          bif (a_in x1 12) then
          m_st (va_up C1 5 (upd (C1 5) (x1).toNatClampNeg x2)) fun C2 =>
          some ((x1 + (1 : Int32)), C2)
          else none
        else
          some ((-4 : Int32), C1)
    else
      some ((-1 : Int32), C1)
  else
    some ((0 : Int32), C)
/-- SoldWeather.book -/
def k_94 (N : Nat) (P : Nat → Option Nat) (vl : Option Nat) (R : List aC) (x1 : Int32) (C : mS) : Option (Int32 × mS) :=
  m_bd (k_105v8 N P vl R (C 90 16) x1 C) fun r1 C1 =>
  bif (a_ic .lt r1 (0 : Int32)) then
    some (r1, C1)
  else
    some (r1, (va_up C1 90 (upd (C1 90) 16 r1)))
def k_95_5b (N : Nat) (P : Nat → Option Nat) (vl : Option Nat) (R : List aC) (rc5 : Int32 → mS → Option (Int32 × mS)) (x1 : Int32) (C : mS) : Option (Int32 × mS) :=
  bif (a_ic .ge x1 (C 90 16)) then
    some ((-5 : Int32), C)
  else
    m_bd (k_12 N P vl R  C) fun r2 C2 =>
    bif (a_in x1 12) then
    m_li ((C2 5) (x1).toNatClampNeg) fun y3 =>
    bif (a_ic .eq (C2 92 9) y3) then
      m_bd (k_19 N P vl R  C2) fun r4 C4 =>
      rc5 (x1 + (1 : Int32)) C4
    else
      some (x1, C2)
    else none
def k_95_5 (N : Nat) (P : Nat → Option Nat) (vl : Option Nat) (R : List aC) : Nat → Int32 → mS → Option (Int32 × mS)
  | 0 => fun _ _ => none
  | n + 1 => k_95_5b N P vl R (k_95_5 N P vl R n)
/-- SoldWeather.looked -/
def k_95 (N : Nat) (P : Nat → Option Nat) (vl : Option Nat) (R : List aC) (C : mS) : Option (Int32 × mS) :=
  m_bd (k_10 N P vl R  C) fun r1 C1 =>
  k_95_5 N P vl R  N (0 : Int32) C1
/-- SoldWeather.act -/
def k_96 (N : Nat) (P : Nat → Option Nat) (vl : Option Nat) (R : List aC) (x1 : Int32) (x2 : Int32) (x3 : Int32) (C : mS) : Option (Int32 × mS) :=
  m_bd (k_70 N P vl R x1 (va_up C 13 (upd (C 13) 0 (0 : Int32)))) fun r1 C1 =>
  m_op r1 (
    some ((0 : Int32), C1)) fun a2 =>
  if (a_tsw 0 2 34 [16, 22, 28] x2) = 16 then
    m_ob (bdr R a2) fun ci4 ka4 nu4 va4 =>
    m_bd (if ci4 = 0 then k_5 N P vl R a2 x3 C1 else if ci4 = 1 then k_5 N P vl R a2 x3 C1 else if ci4 = 3 then k_5 N P vl R a2 x3 C1 else if ci4 = 4 then k_38 N P vl R a2 x3 C1 else if ci4 = 6 then k_38 N P vl R a2 x3 C1 else if ci4 = 7 then k_60 N P vl R a2 x3 C1 else if ci4 = 8 then k_5 N P vl R a2 x3 C1 else none) fun r3 C3 =>
    some (r3, C3)
  else if (a_tsw 0 2 34 [16, 22, 28] x2) = 22 then
    m_ob (bdr R a2) fun ci6 ka6 nu6 va6 =>
    m_bd (if ci6 = 0 then k_6 N P vl R a2 x3 C1 else if ci6 = 1 then k_6 N P vl R a2 x3 C1 else if ci6 = 3 then k_35 N P vl R a2 x3 C1 else if ci6 = 4 then k_6 N P vl R a2 x3 C1 else if ci6 = 6 then k_6 N P vl R a2 x3 C1 else if ci6 = 7 then k_35 N P vl R a2 x3 C1 else if ci6 = 8 then k_63 N P vl R a2 x3 C1 else none) fun r5 C5 =>
    some (r5, C5)
  else if (a_tsw 0 2 34 [16, 22, 28] x2) = 28 then
    m_ob (bdr R a2) fun ci8 ka8 nu8 va8 =>
    m_bd (if ci8 = 0 then k_2 N P vl R a2 x3 C1 else if ci8 = 1 then k_7 N P vl R a2 x3 C1 else if ci8 = 3 then k_7 N P vl R a2 x3 C1 else if ci8 = 4 then k_7 N P vl R a2 x3 C1 else if ci8 = 6 then k_57 N P vl R a2 x3 C1 else if ci8 = 7 then k_7 N P vl R a2 x3 C1 else if ci8 = 8 then k_7 N P vl R a2 x3 C1 else none) fun r7 C7 =>
    some (r7, C7)
  else if (a_tsw 0 2 34 [16, 22, 28] x2) = 34 then
    some ((0 : Int32), C1)
  else none
/-- SoldWeather.trace -/
def k_97 (N : Nat) (P : Nat → Option Nat) (vl : Option Nat) (R : List aC) (x1 : Int32) (C : mS) : Option (Int32 × mS) :=
  bif (a_ic .lt x1 (0 : Int32)) then
    some ((-1 : Int32), C)
  else
    m_li (if (20 : Int32) < ((C 13) 0) then (20 : Int32) else ((C 13) 0)) fun y1 =>
    bif (a_ic .lt x1 y1) then
      bif (a_in ((1 : Int32) + x1) 21) then
      m_li ((C 13) (((1 : Int32) + x1)).toNatClampNeg) fun y2 =>
      some (y2, C)
      else none
    else
      some ((-1 : Int32), C)
/-- SoldWeather.isKind -/
def k_103 (N : Nat) (P : Nat → Option Nat) (vl : Option Nat) (R : List aC) (x0 : Int32) (C : mS) : Option (Int32 × mS) :=
  bif (a_ic .lt x0 (0 : Int32)) then
    some ((0 : Int32), C)
  else
    bif (a_ic .ge x0 (7 : Int32)) then
      some ((0 : Int32), C)
    else
      some ((1 : Int32), C)
/-- SoldWeather.isUnder -/
def k_107 (N : Nat) (P : Nat → Option Nat) (vl : Option Nat) (R : List aC) (x0 : Option Nat) (x1 : Int32) (C : mS) : Option (Int32 × mS) :=
  m_op x0 (
    if (a_tsw 0 5 19 [2, 4, 7, 10, 13, 16] x1) = 2 then
      some ((1 : Int32), C)
    else if (a_tsw 0 5 19 [2, 4, 7, 10, 13, 16] x1) = 4 then
      some ((0 : Int32), C)
    else if (a_tsw 0 5 19 [2, 4, 7, 10, 13, 16] x1) = 7 then
      some ((0 : Int32), C)
    else if (a_tsw 0 5 19 [2, 4, 7, 10, 13, 16] x1) = 10 then
      some ((0 : Int32), C)
    else if (a_tsw 0 5 19 [2, 4, 7, 10, 13, 16] x1) = 13 then
      some ((0 : Int32), C)
    else if (a_tsw 0 5 19 [2, 4, 7, 10, 13, 16] x1) = 16 then
      some ((0 : Int32), C)
    else if (a_tsw 0 5 19 [2, 4, 7, 10, 13, 16] x1) = 19 then
      some ((0 : Int32), C)
    else none) fun a0 =>
  if (a_tsw 0 5 19 [2, 4, 7, 10, 13, 16] x1) = 2 then
    some ((1 : Int32), C)
  else if (a_tsw 0 5 19 [2, 4, 7, 10, 13, 16] x1) = 4 then
    m_ob (bdr R a0) fun ci1 ka1 nu1 va1 =>
    bif (List.contains [4, 6] ci1 || List.contains [0, 1, 3, 7, 8] ci1) then
    m_li (bif List.contains [4, 6] ci1 then 1 else 0) fun y2 =>
    bif (decide (y2 = 0) || decide (y2 = 1)) then some (y2, C) else none
    else none
  else if (a_tsw 0 5 19 [2, 4, 7, 10, 13, 16] x1) = 7 then
    m_ob (bdr R a0) fun ci3 ka3 nu3 va3 =>
    bif (List.contains [3, 7, 8] ci3 || List.contains [0, 1, 4, 6] ci3) then
    m_li (bif List.contains [3, 7, 8] ci3 then 1 else 0) fun y4 =>
    bif (decide (y4 = 0) || decide (y4 = 1)) then some (y4, C) else none
    else none
  else if (a_tsw 0 5 19 [2, 4, 7, 10, 13, 16] x1) = 10 then
    m_ob (bdr R a0) fun ci5 ka5 nu5 va5 =>
    bif (List.contains [0] ci5 || List.contains [1, 3, 4, 6, 7, 8] ci5) then
    m_li (bif List.contains [0] ci5 then 1 else 0) fun y6 =>
    bif (decide (y6 = 0) || decide (y6 = 1)) then some (y6, C) else none
    else none
  else if (a_tsw 0 5 19 [2, 4, 7, 10, 13, 16] x1) = 13 then
    m_ob (bdr R a0) fun ci7 ka7 nu7 va7 =>
    bif (List.contains [6] ci7 || List.contains [0, 1, 3, 4, 7, 8] ci7) then
    m_li (bif List.contains [6] ci7 then 1 else 0) fun y8 =>
    bif (decide (y8 = 0) || decide (y8 = 1)) then some (y8, C) else none
    else none
  else if (a_tsw 0 5 19 [2, 4, 7, 10, 13, 16] x1) = 16 then
    m_ob (bdr R a0) fun ci9 ka9 nu9 va9 =>
    bif (List.contains [7] ci9 || List.contains [0, 1, 3, 4, 6, 8] ci9) then
    m_li (bif List.contains [7] ci9 then 1 else 0) fun y10 =>
    bif (decide (y10 = 0) || decide (y10 = 1)) then some (y10, C) else none
    else none
  else if (a_tsw 0 5 19 [2, 4, 7, 10, 13, 16] x1) = 19 then
    m_ob (bdr R a0) fun ci11 ka11 nu11 va11 =>
    bif (List.contains [8] ci11 || List.contains [0, 1, 3, 4, 6, 7] ci11) then
    m_li (bif List.contains [8] ci11 then 1 else 0) fun y12 =>
    bif (decide (y12 = 0) || decide (y12 = 1)) then some (y12, C) else none
    else none
  else none
/-- SoldWeather.as -/
def k_98 (N : Nat) (P : Nat → Option Nat) (vl : Option Nat) (R : List aC) (x1 : Int32) (x2 : Int32) (C : mS) : Option (Int32 × mS) :=
  m_bd (k_70 N P vl R x1 C) fun r1 C1 =>
  m_op r1 (
    some ((-1 : Int32), C1)) fun a2 =>
  m_bd (k_103 N P vl R x2 C1) fun r3 C3 =>
  bif (a_ic .ne r3 (0 : Int32)) then
    m_bd (k_107 N P vl R (some a2) x2 C3) fun r4 C4 =>
    bif (a_ic .eq r4 (0 : Int32)) then
      some ((-6 : Int32), C4)
    else
      m_ob (bdr R a2) fun ci5 ka5 nu5 va5 =>
      bif List.contains [0, 1, 3, 4, 6, 7, 8] ci5 then
      some (va5, C4)
      else none
  else
    some ((-1 : Int32), C3)
/-- SoldWeather.count -/
def k_101 (N : Nat) (P : Nat → Option Nat) (vl : Option Nat) (R : List aC) (x1 : Int32) (C : mS) : Option (Int32 × mS) :=
  if (a_tsw 0 6 31 [2, 6, 10, 14, 18, 22, 26] x1) = 2 then
    some ((C 90 12), C)
  else if (a_tsw 0 6 31 [2, 6, 10, 14, 18, 22, 26] x1) = 6 then
    some ((C 90 2), C)
  else if (a_tsw 0 6 31 [2, 6, 10, 14, 18, 22, 26] x1) = 10 then
    some ((C 90 7), C)
  else if (a_tsw 0 6 31 [2, 6, 10, 14, 18, 22, 26] x1) = 14 then
    some ((C 90 14), C)
  else if (a_tsw 0 6 31 [2, 6, 10, 14, 18, 22, 26] x1) = 18 then
    some ((C 90 16), C)
  else if (a_tsw 0 6 31 [2, 6, 10, 14, 18, 22, 26] x1) = 22 then
    some ((C 90 1), C)
  else if (a_tsw 0 6 31 [2, 6, 10, 14, 18, 22, 26] x1) = 26 then
    some (((C 13) 0), C)
  else if (a_tsw 0 6 31 [2, 6, 10, 14, 18, 22, 26] x1) = 31 then
    some ((-1 : Int32), C)
  else none
