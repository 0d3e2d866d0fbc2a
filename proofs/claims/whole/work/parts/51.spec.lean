/-! 51.spec: what an evening is, as plain functions -/
/-- a step of a clause: (0, asked, sign, number) a test; 1 not, 2 and, 3 or -/
abbrev tk : Type := Nat × Nat × Nat × Nat
/-- a clause: its steps, is it harm, how much -/
abbrev cl : Type := List tk × Bool × Nat
def t_m (t : tk) : Int32 := if t.1 = 0 then Int32.ofNat (t.2.1 + 8 * t.2.2.1 + 32 * t.2.2.2) else if t.1 = 1 then -1 else if t.1 = 2 then -2 else -3
def t_c (t : tk) : Int32 := if t.1 = 0 then Int32.ofNat ((t.2.1 * 3 + t.2.2.1) * 100 + t.2.2.2) else if t.1 = 1 then -1 else if t.1 = 2 then -2 else -3
def c_am (c : cl) : Int32 := if c.2.1 then -(Int32.ofNat c.2.2) else Int32.ofNat c.2.2
def c_st (c : cl) : Int32 := if c.2.1 then -200 - Int32.ofNat c.2.2 else -10 - Int32.ofNat c.2.2
def t_ok (t : tk) : Prop := t.1 ≤ 3 ∧ t.2.1 < 5 ∧ t.2.2.1 < 3 ∧ t.2.2.2 < 100
def tst (b : Nat → Int32) (t : tk) : Bool := if t.2.2.1 = 0 then decide (b t.2.1 < Int32.ofNat t.2.2.2) else if t.2.2.1 = 1 then decide (b t.2.1 = Int32.ofNat t.2.2.2) else decide (Int32.ofNat t.2.2.2 < b t.2.1)
/-- one step on a stack of truths -/
def t_do (b : Nat → Int32) (t : tk) (st : List Bool) : List Bool := if t.1 = 0 then tst b t :: st else match t.1, st with
  | 1, x :: r => (!x) :: r
  | 2, x :: y :: r => (y && x) :: r
  | 3, x :: y :: r => (y || x) :: r
  | _, r => r
def t_run (b : Nat → Int32) : List tk → List Bool → List Bool
  | [], st => st
  | t :: ts, st => t_run b ts (t_do b t st)
def c_ho (b : Nat → Int32) (c : cl) : Bool := (t_run b c.1 []).headD false
/-- how many stand on the stack behind the steps; none: too few, or more than m -/
def t_dp (m : Nat) : List tk → Nat → Option Nat
  | [], k => some k
  | t :: ts, k => if t.1 = 0 then (if k < m then t_dp m ts (k + 1) else none) else if t.1 = 1 then (if 0 < k then t_dp m ts k else none) else (if 1 < k then t_dp m ts (k - 1) else none)
/-- a clause that may be asked -/
def c_ok (c : cl) : Prop := (∀ t, t ∈ c.1 → t_ok t) ∧ t_dp 20 c.1 0 = some 1 ∧ c.2.2 < 100
def v_ok (V : List cl) : Prop := V.length ≤ 10 ∧ ∀ c, c ∈ V → c_ok c
def s_w (b : Nat → Int32) : List cl → Int32 → Int32
  | [], x => x
  | c :: V, x => s_w b V (if c_ho b c then x + c_am c else x)
/-- what does not change in an evening: the clauses, rule, gift, how many people, their kinds, their v, the rows told, the fortunes, how many -/
abbrev dS : Type := List cl × Int32 × Int32 × Nat × (Nat → Nat) × (Nat → Nat) × (Nat → Int32) × (Nat → Int32) × Nat
def d_V (d : dS) : List cl := d.1
def d_ru (d : dS) : Int32 := d.2.1
def d_gi (d : dS) : Int32 := d.2.2.1
def d_n (d : dS) : Nat := d.2.2.2.1
def d_kd (d : dS) : Nat → Nat := d.2.2.2.2.1
def d_vv (d : dS) : Nat → Nat := d.2.2.2.2.2.1
def d_rw (d : dS) : Nat → Int32 := d.2.2.2.2.2.2.1
def d_fo (d : dS) : Nat → Int32 := d.2.2.2.2.2.2.2.1
def d_fn (d : dS) : Nat := d.2.2.2.2.2.2.2.2
/-- what does: day, ahead, turn, purses -/
abbrev fS : Type := Int32 × Int32 × Int32 × (Nat → Int32)
def f_dy (F : fS) : Int32 := F.1
def f_ah (F : fS) : Int32 := F.2.1
def f_tu (F : fS) : Int32 := F.2.2.1
def f_pu (F : fS) : Nat → Int32 := F.2.2.2
def w_by (w y dy p k : Int32) : Nat → Int32 := fun j => if j = 0 then w else if j = 1 then y else if j = 2 then dy - dy / 7 * 7 else if j = 3 then p else k
/-- worth to p of w behind y on a day -/
def w_at (d : dS) (p : Nat) (w y dy : Int32) : Int32 := s_w (w_by w y dy (Int32.ofNat p) (Int32.ofNat (d_kd d p))) (d_V d) 0
def w_now (d : dS) (F : fS) (p : Nat) (w : Int32) : Int32 := w_at d p w (f_ah F) (f_dy F)
def w_all (d : dS) (w y dy : Int32) : Nat → Int32
  | 0 => 0
  | k + 1 => w_all d w y dy k + w_at d k w y dy
def b_lg (d : dS) (F : fS) (p : Nat) (w : Int32) : Int32 := if d_vv d p < d_n d ∧ d_vv d p ≠ p ∧ (d_kd d (d_vv d p) = 2 ∨ 5 ≤ d_kd d (d_vv d p)) then (w_now d F p w + w_now d F (d_vv d p) w) / 2 else w_now d F p w
def i_mx (x y : Int32) : Int32 := if x < y then y else x
def b_ah (d : dS) (F : fS) (p : Nat) (w : Int32) : Int32 := w_now d F p w + Int32.ofNat (d_vv d p) * i_mx (i_mx (i_mx (w_at d p 0 w (f_dy F + 1)) (w_at d p 1 w (f_dy F + 1))) (w_at d p 2 w (f_dy F + 1))) (w_at d p 3 w (f_dy F + 1)) / 10
def b_less (d : dS) (F : fS) (p : Nat) (w u : Nat) : Bool := decide (b_lg d F p (Int32.ofNat w) < b_lg d F p (Int32.ofNat u)) || (decide (b_lg d F p (Int32.ofNat u) = b_lg d F p (Int32.ofNat w)) && decide (u < w))
def b_sh (d : dS) (F : fS) (p : Nat) (w : Nat) : Int32 := if b_less d F p w 0 || b_less d F p w 1 || b_less d F p w 2 || b_less d F p w 3 then 0 else b_lg d F p (Int32.ofNat w)
def b_lo (d : dS) (F : fS) (p : Nat) (w : Int32) : Int32 := w_now d F p w / (Int32.ofNat (d_vv d p) + 1)
/-- what one wishes to bid -/
def b_wi (d : dS) (F : fS) (p w : Nat) : Int32 := if d_kd d p = 1 then b_lo d F p (Int32.ofNat w) else if d_kd d p = 2 then b_lg d F p (Int32.ofNat w) else if d_kd d p = 3 then b_ah d F p (Int32.ofNat w) else if d_kd d p = 4 then (if f_pu F p < 10 * Int32.ofNat (d_vv d p) then 0 else b_lo d F p (Int32.ofNat w)) else if d_kd d p = 5 then b_sh d F p w else if d_kd d p = 6 then d_rw d (4 * p + w) else w_now d F p (Int32.ofNat w)
def b_kp (pu b : Int32) : Int32 := if b < 0 then 0 else if pu < b then pu else b
/-- the bids, as one row -/
def b_all (d : dS) (F : fS) : Nat → Int32 := fun j => b_kp (f_pu F (j / 4)) (b_wi d F (j / 4) (j % 4))
def b_sm (B : Nat → Int32) (w : Nat) : Nat → Int32
  | 0 => 0
  | k + 1 => b_sm B w k + B (4 * k + w)
def b_bi (S : Nat → Int32) : Nat → Nat
  | 0 => 0
  | k + 1 => if S (b_bi S k) < S (k + 1) then k + 1 else b_bi S k
def b_S (d : dS) (B : Nat → Int32) : Nat → Int32 := fun w => b_sm B w (d_n d)
def b_any (d : dS) (B : Nat → Int32) : Bool := decide (0 < b_S d B (b_bi (b_S d B) 3))
def f_nx (d : dS) (F : fS) : Int32 := if 0 ≤ f_tu F ∧ f_tu F < Int32.ofNat (d_fn d) then d_fo d (f_tu F).toNatClampNeg else 0
def b_so (d : dS) (F : fS) (B : Nat → Int32) : Int32 := if b_any d B then Int32.ofNat (b_bi (b_S d B) 3) else f_nx d F
def b_mo (S B : Nat → Int32) (p : Nat) : Nat → Int32
  | 0 => 0
  | k + 1 => i_mx (b_mo S B p k) (S k - B (4 * p + k))
def b_hm (d : dS) (F : fS) (B : Nat → Int32) (p : Nat) : Int32 := b_mo (b_S d B) B p 4 - (b_S d B (b_so d F B).toNatClampNeg - B (4 * p + (b_so d F B).toNatClampNeg))
/-- the second highest; how many bid -/
def b_2nd (S : Nat → Int32) (so : Int32) : Nat → Int32
  | 0 => 0
  | k + 1 => if Int32.ofNat k = so then b_2nd S so k else i_mx (b_2nd S so k) (S k)
def b_cnt (B : Nat → Int32) (so : Nat) : Nat → Nat
  | 0 => 0
  | k + 1 => if 0 < B (4 * k + so) then b_cnt B so k + 1 else b_cnt B so k
def b_pay (d : dS) (F : fS) (B : Nat → Int32) (p : Nat) : Int32 := if b_any d B then (if d_ru d = 1 then b_hm d F B p else if d_ru d = 2 then i_mx 0 (B (4 * p + (b_so d F B).toNatClampNeg) - (b_S d B (b_so d F B).toNatClampNeg - b_2nd (b_S d B) (b_so d F B) 4) / Int32.ofNat (b_cnt B (b_so d F B).toNatClampNeg (d_n d))) else B (4 * p + (b_so d F B).toNatClampNeg)) else 0
def b_gn (d : dS) (F : fS) (B : Nat → Int32) (p : Nat) : Int32 := w_now d F p (b_so d F B) - b_pay d F B p
def b_pd (d : dS) (F : fS) (B : Nat → Int32) : Nat → Int32
  | 0 => 0
  | k + 1 => b_pd d F B k + b_pay d F B k
def i_cap (x : Int32) : Int32 := if 999 < x then 999 else x
/-- an evening: what holds behind it -/
def e_nx (d : dS) (F : fS) : fS := (f_dy F + 1, b_so d F (b_all d F), (if b_any d (b_all d F) then f_tu F else if f_tu F + 1 < Int32.ofNat (d_fn d) then f_tu F + 1 else 0), fun p => if p < d_n d then i_cap (i_mx 0 (f_pu F p - b_pay d F (b_all d F) p) + d_gi d) else f_pu F p)
/-- bounds -/
def d_ok (d : dS) : Prop := v_ok (d_V d) ∧ (d_ru d = 0 ∨ d_ru d = 1 ∨ d_ru d = 2) ∧ (0 ≤ (d_gi d).toInt ∧ (d_gi d).toInt < 100) ∧ d_n d ≤ 8 ∧ (∀ p, p < d_n d → d_kd d p ≤ 6) ∧ (∀ p, p < d_n d → d_vv d p ≤ 9) ∧ (∀ j, j < 4 * d_n d → 0 ≤ (d_rw d j).toInt ∧ (d_rw d j).toInt < 100) ∧ d_fn d ≤ 12 ∧ (∀ j, j < d_fn d → 0 ≤ (d_fo d j).toInt ∧ (d_fo d j).toInt < 4)
def f_ok (d : dS) (F : fS) : Prop := (0 ≤ (f_dy F).toInt ∧ (f_dy F).toInt < 1000) ∧ (0 ≤ (f_ah F).toInt ∧ (f_ah F).toInt < 4) ∧ (0 ≤ (f_tu F).toInt ∧ ((f_tu F).toInt < d_fn d ∨ (f_tu F).toInt = 0)) ∧ ∀ p, p < d_n d → 0 ≤ (f_pu F p).toInt ∧ (f_pu F p).toInt < 1000
