/-! 75.sp: what a valley's text is, as plain functions -/
abbrev sR : Type := Nat × Option (List tk)
/-- the sign at i -/
def tp (T : Nat → Int32) (n i : Nat) : Int32 := if i < n then T i else -1
def dg (c : Int32) : Bool := decide (48 ≤ c.toInt ∧ c.toInt ≤ 57)
def dv (c : Int32) : Nat := c.toInt.toNat - 48
def sNum (T : Nat → Int32) (n i : Nat) : Nat × Option Nat := if dg (tp T n i) then (if dv (tp T n i) = 0 ∨ dg (tp T n (i + 1)) = false then (i + 1, some (dv (tp T n i))) else (i + 2, some (10 * dv (tp T n i) + dv (tp T n (i + 1))))) else (i, none)
def aIx (c : Int32) : Option Nat := if c = 119 then some 0 else if c = 121 then some 1 else if c = 100 then some 2 else if c = 112 then some 3 else if c = 107 then some 4 else none
def gIx (c : Int32) : Option Nat := if c = 60 then some 0 else if c = 61 then some 1 else if c = 62 then some 2 else none
def sTest (T : Nat → Int32) (n i : Nat) : sR := match aIx (tp T n i) with
  | none => (i, none)
  | some a => match gIx (tp T n (i + 1)) with
    | none => (i + 1, none)
    | some g => match sNum T n (i + 2) with
      | (j, none) => (j, none)
      | (j, some v) => (j, some [(0, a, g, v)])
def sB (x : sR) (f : Nat → List tk → sR) : sR := match x with
  | (j, some ts) => f j ts
  | (j, none) => (j, none)
def sTl (T : Nat → Int32) (n : Nat) (f : Nat → sR) : Nat → Nat → List tk → sR
  | 0, i, ts => (i, some ts)
  | m + 1, i, ts => if tp T n i = 38 then sB (f (i + 1)) (fun j us => sTl T n f m j (ts ++ us ++ [(2, 0, 0, 0)])) else (i, some ts)
def sT (T : Nat → Int32) (n : Nat) (f : Nat → sR) (i : Nat) : sR := sB (f i) (fun j ts => sTl T n f 120 j ts)
def sEl (T : Nat → Int32) (n : Nat) (f : Nat → sR) : Nat → Nat → List tk → sR
  | 0, i, ts => (i, some ts)
  | m + 1, i, ts => if tp T n i = 124 then sB (sT T n f (i + 1)) (fun j us => sEl T n f m j (ts ++ us ++ [(3, 0, 0, 0)])) else (i, some ts)
def sE (T : Nat → Int32) (n : Nat) (f : Nat → sR) (i : Nat) : sR := sB (sT T n f i) (fun j ts => sEl T n f 120 j ts)
def sFac (T : Nat → Int32) (n : Nat) : Nat → Nat → sR
  | 0, i => if tp T n i = 33 ∨ tp T n i = 40 then (i, none) else sTest T n i
  | r + 1, i => if tp T n i = 33 then sB (sFac T n r (i + 1)) (fun j ts => (j, some (ts ++ [(1, 0, 0, 0)]))) else if tp T n i = 40 then sB (sE T n (sFac T n r) (i + 1)) (fun j ts => if tp T n j = 41 then (j + 1, some ts) else (j, none)) else sTest T n i
/-- steps that bring one more truth, and never more than B beside those that are there -/
def DPT (ts : List tk) (B : Nat) : Prop := ∀ (k : Nat) (rest : List tk), k + B ≤ 20 → t_dp 20 (ts ++ rest) k = t_dp 20 rest (k + 1)
def GR (B n i : Nat) (x : sR) : Prop := (∀ j ts, x = (j, some ts) → i + ts.length ≤ j ∧ i < j ∧ j ≤ n ∧ (∀ t, t ∈ ts → t_ok t) ∧ DPT ts B) ∧ (∀ j, x = (j, none) → i ≤ j ∧ j ≤ n)
section SP
variable {T : Nat → Int32} {n : Nat}
theorem tp_lt {i : Nat} {c : Int32} (h : tp T n i = c) (hc : c ≠ -1) : i < n := by
  unfold tp at h
  split at h
  · assumption
  · exact absurd h.symm hc
theorem dg_lt {i : Nat} (h : dg (tp T n i) = true) : i < n := by
  unfold tp at h
  split at h
  · assumption
  · exact absurd h (by decide)
theorem dg_dv {c : Int32} (h : dg c = true) : dv c < 10 ∧ c = Int32.ofNat (48 + dv c) := by
  unfold dg at h
  rw [decide_eq_true_iff] at h
  unfold dv
  exact ⟨by omega, o_of (by omega) (by omega)⟩
theorem sNum_ok {i : Nat} (hi : i ≤ n) : (∀ j v, sNum T n i = (j, some v) → i < j ∧ j ≤ n ∧ v < 100) ∧ (∀ j, sNum T n i = (j, none) → j = i) := by
  unfold sNum
  by_cases c : dg (tp T n i) = true
  · have h1 := dg_lt c
    have h2 := (dg_dv c).1
    rw [if_pos c]
    by_cases c2 : dv (tp T n i) = 0 ∨ dg (tp T n (i + 1)) = false
    · rw [if_pos c2]
      exact ⟨fun j v h => by cases h; omega, fun j h => by cases h⟩
    · rw [if_neg c2]
      have c3 : dg (tp T n (i + 1)) = true := by
        cases h : dg (tp T n (i + 1))
        · exact absurd (.inr h) c2
        · rfl
      have h3 := dg_lt c3
      have h4 := (dg_dv c3).1
      exact ⟨fun j v h => by cases h; omega, fun j h => by cases h⟩
  · rw [if_neg c]
    exact ⟨fun j v h => (by cases h), fun j h => by cases h; rfl⟩
theorem aIx_ok {c : Int32} {a : Nat} (h : aIx c = some a) : a < 5 ∧ c ≠ -1 := by
  refine ⟨?_, fun e => by subst e; rw [show aIx (-1) = none by decide] at h; cases h⟩
  unfold aIx at h
  repeat' split at h
  all_goals first | (cases h; done) | (cases h; omega)
theorem gIx_ok {c : Int32} {a : Nat} (h : gIx c = some a) : a < 3 ∧ c ≠ -1 := by
  refine ⟨?_, fun e => by subst e; rw [show gIx (-1) = none by decide] at h; cases h⟩
  unfold gIx at h
  repeat' split at h
  all_goals first | (cases h; done) | (cases h; omega)
theorem GR_test {i B : Nat} (hi : i ≤ n) (hB : 1 ≤ B) : GR B n i (sTest T n i) := by
  unfold sTest
  cases ha : aIx (tp T n i) with
  | none => exact ⟨fun j ts h => (by cases h), fun j h => by cases h; omega⟩
  | some a =>
    have h1 := tp_lt (T := T) (n := n) rfl (aIx_ok ha).2
    cases hg : gIx (tp T n (i + 1)) with
    | none => exact ⟨fun j ts h => (by cases h), fun j h => by cases h; omega⟩
    | some g =>
      have h2 := tp_lt (T := T) (n := n) rfl (gIx_ok hg).2
      have h3 := sNum_ok (T := T) (n := n) (show i + 2 ≤ n by omega)
      cases hs : sNum T n (i + 2) with
      | mk j o => cases o with
        | none => exact ⟨fun j' ts h => (by cases h), fun j' h => by cases h; have := h3.2 j hs; omega⟩
        | some v =>
          have h4 := h3.1 j v hs
          refine ⟨fun j' ts h => ?_, fun j' h => (by cases h)⟩
          cases h
          refine ⟨by simp; omega, by omega, by omega, ?_, ?_⟩
          · intro t ht
            simp at ht
            subst ht
            exact ⟨by simp, (aIx_ok ha).1, (gIx_ok hg).1, h4.2.2⟩
          · intro k rest hk
            show (if (0 : Nat) = 0 then (if k < 20 then t_dp 20 rest (k + 1) else none) else _) = _
            rw [if_pos rfl, if_pos (by omega)]
theorem DPT_mono {ts : List tk} {B B' : Nat} (h : DPT ts B) (hB : B ≤ B') : DPT ts B' := fun k rest hk => h k rest (by omega)
theorem DPT_2 {ts us : List tk} {B B' q : Nat} (h : DPT ts B') (h2 : DPT us B) (hB : B + 1 ≤ B') (hq : q = 2 ∨ q = 3) : DPT (ts ++ us ++ [(q, 0, 0, 0)]) B' := by
  intro k rest hk
  rw [List.append_assoc, List.append_assoc, h k _ hk, h2 (k + 1) _ (by omega)]
  show (if q = 0 then _ else if q = 1 then _ else (if 1 < k + 1 + 1 then t_dp 20 rest (k + 1 + 1 - 1) else none)) = _
  rw [if_neg (by omega), if_neg (by omega), if_pos (by omega)]
  rfl
theorem ok_2 {ts us : List tk} {q : Nat} (h : ∀ t, t ∈ ts → t_ok t) (h2 : ∀ t, t ∈ us → t_ok t) (hq : q ≤ 3) : ∀ t, t ∈ ts ++ us ++ [(q, 0, 0, 0)] → t_ok t := by
  intro t ht
  simp only [List.mem_append, List.mem_singleton] at ht
  rcases ht with (ht | ht) | ht
  · exact h t ht
  · exact h2 t ht
  · subst ht; exact ⟨hq, by simp, by simp, by simp⟩
theorem GR_Tl {f : Nat → sR} {B i0 : Nat} (hf : ∀ i, i ≤ n → GR B n i (f i)) : ∀ (m i : Nat) (ts : List tk), i ≤ n → i0 + ts.length ≤ i → i0 < i → (∀ t, t ∈ ts → t_ok t) → DPT ts (B + 1) → GR (B + 1) n i0 (sTl T n f m i ts) := by
  intro m
  induction m with
  | zero => intro i ts hi hl hl2 hok hD; exact ⟨fun j us h => by cases h; exact ⟨hl, hl2, hi, hok, hD⟩, fun j h => (by cases h)⟩
  | succ m ih =>
    intro i ts hi hl hl2 hok hD
    unfold sTl
    by_cases c : tp T n i = 38
    · rw [if_pos c]
      have h1 := tp_lt c (by decide)
      have h2 := hf (i + 1) (by omega)
      cases hs : f (i + 1) with
      | mk j o => cases o with
        | none => exact ⟨fun j' us h => (by cases h), fun j' h => by cases h; have := h2.2 j hs; omega⟩
        | some us =>
          obtain ⟨a1, a2, a3, a4, a5⟩ := h2.1 j us hs
          exact ih j (ts ++ us ++ [(2, 0, 0, 0)]) a3 (by simp; omega) (by omega) (ok_2 hok a4 (by omega)) (DPT_2 hD a5 (by omega) (.inl rfl))
    · rw [if_neg c]
      exact ⟨fun j us h => by cases h; exact ⟨hl, hl2, hi, hok, hD⟩, fun j h => (by cases h)⟩
theorem GR_T {f : Nat → sR} {B : Nat} (hf : ∀ i, i ≤ n → GR B n i (f i)) {i : Nat} (hi : i ≤ n) : GR (B + 1) n i (sT T n f i) := by
  unfold sT
  have h2 := hf i hi
  cases hs : f i with
  | mk j o => cases o with
    | none => exact ⟨fun j' us h => (by cases h), fun j' h => by cases h; exact h2.2 j hs⟩
    | some us =>
      obtain ⟨a1, a2, a3, a4, a5⟩ := h2.1 j us hs
      exact GR_Tl hf 120 j us a3 a1 a2 a4 (DPT_mono a5 (by omega))
theorem GR_El {f : Nat → sR} {B i0 : Nat} (hf : ∀ i, i ≤ n → GR B n i (f i)) : ∀ (m i : Nat) (ts : List tk), i ≤ n → i0 + ts.length ≤ i → i0 < i → (∀ t, t ∈ ts → t_ok t) → DPT ts (B + 2) → GR (B + 2) n i0 (sEl T n f m i ts) := by
  intro m
  induction m with
  | zero => intro i ts hi hl hl2 hok hD; exact ⟨fun j us h => by cases h; exact ⟨hl, hl2, hi, hok, hD⟩, fun j h => (by cases h)⟩
  | succ m ih =>
    intro i ts hi hl hl2 hok hD
    unfold sEl
    by_cases c : tp T n i = 124
    · rw [if_pos c]
      have h1 := tp_lt c (by decide)
      have h2 := GR_T (T := T) hf (show i + 1 ≤ n by omega)
      cases hs : sT T n f (i + 1) with
      | mk j o => cases o with
        | none => exact ⟨fun j' us h => (by cases h), fun j' h => by cases h; have := h2.2 j hs; omega⟩
        | some us =>
          obtain ⟨a1, a2, a3, a4, a5⟩ := h2.1 j us hs
          exact ih j (ts ++ us ++ [(3, 0, 0, 0)]) a3 (by simp; omega) (by omega) (ok_2 hok a4 (by omega)) (DPT_2 hD a5 (by omega) (.inr rfl))
    · rw [if_neg c]
      exact ⟨fun j us h => by cases h; exact ⟨hl, hl2, hi, hok, hD⟩, fun j h => (by cases h)⟩
theorem GR_E {f : Nat → sR} {B : Nat} (hf : ∀ i, i ≤ n → GR B n i (f i)) {i : Nat} (hi : i ≤ n) : GR (B + 2) n i (sE T n f i) := by
  unfold sE
  have h2 := GR_T (T := T) hf hi
  cases hs : sT T n f i with
  | mk j o => cases o with
    | none => exact ⟨fun j' us h => (by cases h), fun j' h => by cases h; exact h2.2 j hs⟩
    | some us =>
      obtain ⟨a1, a2, a3, a4, a5⟩ := h2.1 j us hs
      exact GR_El hf 120 j us a3 a1 a2 a4 (DPT_mono a5 (by omega))
theorem GR_F : ∀ (r i : Nat), i ≤ n → GR (2 * r + 1) n i (sFac T n r i) := by
  intro r
  induction r with
  | zero =>
    intro i hi
    unfold sFac
    split
    · exact ⟨fun j ts h => (by cases h), fun j h => by cases h; omega⟩
    · exact GR_test hi (by omega)
  | succ r ih =>
    intro i hi
    unfold sFac
    by_cases c : tp T n i = 33
    · rw [if_pos c]
      have h1 := tp_lt c (by decide)
      have h2 := ih (i + 1) (by omega)
      cases hs : sFac T n r (i + 1) with
      | mk j o => cases o with
        | none => exact ⟨fun j' us h => (by cases h), fun j' h => by cases h; have := h2.2 j hs; omega⟩
        | some us =>
          obtain ⟨a1, a2, a3, a4, a5⟩ := h2.1 j us hs
          refine ⟨fun j' ts h => ?_, fun j' h => (by cases h)⟩
          cases h
          refine ⟨by simp; omega, by omega, a3, ?_, ?_⟩
          · intro t ht
            simp only [List.mem_append, List.mem_singleton] at ht
            rcases ht with ht | ht
            · exact a4 t ht
            · subst ht; exact ⟨by simp, by simp, by simp, by simp⟩
          · intro k rest hk
            rw [List.append_assoc, a5 k _ (by omega)]
            show (if (1 : Nat) = 0 then _ else if (1 : Nat) = 1 then (if 0 < k + 1 then t_dp 20 rest (k + 1) else none) else _) = _
            rw [if_neg (by omega), if_pos rfl, if_pos (by omega)]
    · rw [if_neg c]
      by_cases c2 : tp T n i = 40
      · rw [if_pos c2]
        have h1 := tp_lt c2 (by decide)
        have h2 := GR_E (T := T) ih (show i + 1 ≤ n by omega)
        cases hs : sE T n (sFac T n r) (i + 1) with
        | mk j o => cases o with
          | none => exact ⟨fun j' us h => (by cases h), fun j' h => by cases h; have := h2.2 j hs; omega⟩
          | some us =>
            obtain ⟨a1, a2, a3, a4, a5⟩ := h2.1 j us hs
            show GR _ n i (if tp T n j = 41 then (j + 1, some us) else (j, none))
            by_cases c3 : tp T n j = 41
            · rw [if_pos c3]
              have h3 := tp_lt c3 (by decide)
              exact ⟨fun j' ts h => by cases h; exact ⟨by omega, by omega, by omega, a4, DPT_mono a5 (by omega)⟩, fun j' h => (by cases h)⟩
            · rw [if_neg c3]
              exact ⟨fun j' us h => (by cases h), fun j' h => by cases h; omega⟩
      · rw [if_neg c2]
        exact GR_test hi (by omega)
end SP
