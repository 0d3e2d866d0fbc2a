/-! 50.base: numbers and rows, for the pure part -/
theorem z_lt {x y : Int32} : x < y ↔ x.toInt < y.toInt := Int32.lt_iff_toInt_lt
theorem z_le {x y : Int32} : x ≤ y ↔ x.toInt ≤ y.toInt := Int32.le_iff_toInt_le
theorem z_eq {x y : Int32} : x = y ↔ x.toInt = y.toInt := ⟨fun h => by rw [h], fun h => Int32.toInt_inj.mp h⟩
theorem z_rng (x : Int32) : -2147483648 ≤ x.toInt ∧ x.toInt < 2147483648 := ⟨Int32.le_toInt x, Int32.toInt_lt x⟩
theorem z_add {x y : Int32} (h1 : -2147483648 ≤ x.toInt + y.toInt) (h2 : x.toInt + y.toInt < 2147483648) : (x + y).toInt = x.toInt + y.toInt := by
  rw [Int32.toInt_add, Int.bmod_eq_of_le] <;> omega
theorem z_sub {x y : Int32} (h1 : -2147483648 ≤ x.toInt - y.toInt) (h2 : x.toInt - y.toInt < 2147483648) : (x - y).toInt = x.toInt - y.toInt := by
  rw [Int32.toInt_sub, Int.bmod_eq_of_le] <;> omega
theorem z_mul {x y : Int32} (h1 : -2147483648 ≤ x.toInt * y.toInt) (h2 : x.toInt * y.toInt < 2147483648) : (x * y).toInt = x.toInt * y.toInt := by
  rw [Int32.toInt_mul, Int.bmod_eq_of_le] <;> omega
theorem z_neg {x : Int32} (h1 : -2147483648 < x.toInt) : (-x).toInt = -x.toInt := by
  have := z_rng x
  rw [Int32.toInt_neg, Int.bmod_eq_of_le] <;> omega
theorem z_ofNat {n : Nat} (h : n < 2147483648) : (Int32.ofNat n).toInt = n := Int32.toInt_ofNat_of_lt (by omega)
theorem z_cl (x : Int32) : x.toNatClampNeg = x.toInt.toNat := rfl
theorem z_in {j : Int32} {n : Nat} : a_in j n = decide (0 ≤ j.toInt ∧ j.toInt < n) := by
  unfold a_in
  rw [← Bool.decide_and, decide_eq_decide, z_lt, z_cl]
  have : (0 : Int32).toInt = 0 := rfl
  omega
theorem o_in {p n : Nat} (h : p < 2147483648) : a_in (Int32.ofNat p) n = decide (p < n) := by
  rw [z_in, z_ofNat h, decide_eq_decide]
  omega
theorem o_cl {p : Nat} (h : p < 2147483648) : (Int32.ofNat p).toNatClampNeg = p := by
  rw [z_cl, z_ofNat h]
  omega
theorem o_add {p q : Nat} : Int32.ofNat p + Int32.ofNat q = Int32.ofNat (p + q) := (Int32.ofNat_add p q).symm
theorem o_mul {p q : Nat} : Int32.ofNat p * Int32.ofNat q = Int32.ofNat (p * q) := (Int32.ofNat_mul p q).symm
theorem o_sub {p q : Nat} (h : q ≤ p) : Int32.ofNat p - Int32.ofNat q = Int32.ofNat (p - q) := by
  have : Int32.ofNat p = Int32.ofNat (p - q) + Int32.ofNat q := by rw [o_add]; congr 1; omega
  rw [this, Int32.add_sub_cancel]
theorem o_le {p q : Nat} (hp : p < 2147483648) (hq : q < 2147483648) : (Int32.ofNat p ≤ Int32.ofNat q) ↔ p ≤ q := by
  rw [z_le, z_ofNat hp, z_ofNat hq]; omega
theorem o_lt {p q : Nat} (hp : p < 2147483648) (hq : q < 2147483648) : (Int32.ofNat p < Int32.ofNat q) ↔ p < q := by
  rw [z_lt, z_ofNat hp, z_ofNat hq]; omega
theorem o_eq {p q : Nat} (hp : p < 2147483648) (hq : q < 2147483648) : (Int32.ofNat p = Int32.ofNat q) ↔ p = q := by
  rw [z_eq, z_ofNat hp, z_ofNat hq]; omega
theorem o_of {x : Int32} {n : Nat} (h0 : 0 ≤ x.toInt) (h : x.toInt.toNat = n) : x = Int32.ofNat n := by
  have := z_rng x
  rw [z_eq, z_ofNat (by omega)]; omega
/-- steps of the small functions -/
theorem e_bd {α β : Type} (r : α) (A : mS) (f : α → mS → Option β) : m_bd (some (r, A)) f = f r A := rfl
theorem e_bdn {α β : Type} (f : α → mS → Option β) : m_bd (none : Option (α × mS)) f = none := rfl
theorem e_st {β : Type} (A : mS) (f : mS → β) : m_st A f = f A := rfl
theorem e_li {β : Type} (x : Int32) (f : Int32 → β) : m_li x f = f x := rfl
theorem e_bs {β : Type} (x : Int32) (f : Int32 → Option β) : m_bs (some x) f = f x := rfl
theorem e_opn {β : Type} (f : Option β) (g : Nat → Option β) : m_op none f g = f := rfl
theorem e_ops {β : Type} (a : Nat) (f : Option β) (g : Nat → Option β) : m_op (some a) f g = g a := rfl
theorem e_ob {β : Type} (a : Nat) (b c d : Int32) (f : Nat → Int32 → Int32 → Int32 → Option β) : m_ob (some (a, b, c, d)) f = f a b c d := rfl
theorem e_vo {β : Type} (a b c : Nat) (d e : Int32) (f : Nat → Nat → Nat → Int32 → Int32 → Option β) : m_vo (some (a, b, c, d, e)) f = f a b c d e := rfl
theorem e_ia {β : Type} (a : Nat) (b : Nat → Int32) (f : Nat → (Nat → Int32) → Option β) : m_ia (some (a, b)) f = f a b := rfl
theorem e_eq {x y : Int32} : a_ic .eq x y = decide (x = y) := rfl
theorem e_ne {x y : Int32} : a_ic .ne x y = decide (¬ x = y) := rfl
theorem e_lt {x y : Int32} : a_ic .lt x y = decide (x < y) := rfl
theorem e_ge {x y : Int32} : a_ic .ge x y = decide (y ≤ x) := rfl
theorem e_gt {x y : Int32} : a_ic .gt x y = decide (y < x) := rfl
theorem e_le {x y : Int32} : a_ic .le x y = decide (x ≤ y) := rfl
/-- A' is A but for the rows of S -/
def fr (S : List Nat) (A A' : mS) : Prop := ∀ j, j ∉ S → A' j = A j
theorem fr_rfl {S : List Nat} {A : mS} : fr S A A := fun _ _ => rfl
theorem fr_tr {S : List Nat} {A B D : mS} (h1 : fr S A B) (h2 : fr S B D) : fr S A D := fun j hj => (h2 j hj).trans (h1 j hj)
theorem fr_up {S : List Nat} {A B : mS} {j : Nat} {x : Nat → Int32} (h : fr S A B) (hj : j ∈ S) : fr S A (va_up B j x) := fun i hi => by
  have hne : i ≠ j := fun e => hi (by rw [e]; exact hj)
  rw [va_up_ne B x hne]
  exact h i hi
theorem fr_mono {S T : List Nat} {A B : mS} (h : fr S A B) (hs : ∀ j, j ∈ S → j ∈ T) : fr T A B := fun i hi => h i (fun e => hi (hs i e))
theorem upd_self (f : Nat → Int32) (k : Nat) (x : Int32) : upd f k x k = x := by simp [upd]
theorem upd_ne (f : Nat → Int32) {k j : Nat} (x : Int32) (h : j ≠ k) : upd f k x j = f j := by simp [upd, h]
