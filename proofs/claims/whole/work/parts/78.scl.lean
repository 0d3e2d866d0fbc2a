/-! 78.scl: clauses and valleys, as plain functions -/
def wd (w : Nat) : List Int32 := a_tx.getD w []
def sWd (T : Nat → Int32) (n : Nat) : List Int32 → Nat → Nat × Bool
  | [], i => (i, true)
  | c :: l, i => if tp T n i = c then sWd T n l (i + 1) else (i, false)
def sMuch (T : Nat → Int32) (n : Nat) (l : List Int32) (kd i : Nat) : Nat × Option (Nat × Nat × List tk) := match sWd T n l i with
  | (j, false) => (j, none)
  | (j, true) => match sNum T n j with
    | (k, none) => (k, none)
    | (k, some v) => if tp T n k = 32 then (match sE T n (sFac T n 5) (k + 1) with
      | (m, none) => (m, none)
      | (m, some ts) => (m, some (kd, v, ts))) else (k, none)
def sRule (T : Nat → Int32) (n i : Nat) : Nat × Option (Nat × Nat × List tk) := match sWd T n (wd 1) i with
  | (j, false) => (j, none)
  | (j, true) => if 48 ≤ (tp T n j).toInt ∧ (tp T n j).toInt ≤ 50 then (j + 1, some (2, dv (tp T n j), [])) else (j, none)
def sGift (T : Nat → Int32) (n i : Nat) : Nat × Option (Nat × Nat × List tk) := match sWd T n (wd 2) i with
  | (j, false) => (j, none)
  | (j, true) => match sNum T n j with
    | (k, none) => (k, none)
    | (k, some v) => (k, some (3, v, []))
def sCl (T : Nat → Int32) (n i : Nat) : Nat × Option (Nat × Nat × List tk) := if tp T n i = 103 then sGift T n i else if tp T n i = 104 then sMuch T n (wd 0) 1 i else if tp T n i = 114 then sRule T n i else if tp T n i = 119 then sMuch T n (wd 3) 0 i else (i, none)
def sAp (x : Nat × Nat × List tk) (V : List cl) (ru gi : Nat) : List cl × Nat × Nat := if x.1 = 0 then (V ++ [(x.2.2, false, x.2.1)], ru, gi) else if x.1 = 1 then (V ++ [(x.2.2, true, x.2.1)], ru, gi) else if x.1 = 2 then (V, x.2.1, gi) else (V, ru, x.2.1)
def sVal (T : Nat → Int32) (n : Nat) : Nat → Nat → List cl → Nat → Nat → Nat × Option (List cl × Nat × Nat)
  | 0, i, V, ru, gi => match sCl T n i with
    | (j, none) => (j, none)
    | (j, some x) => if j = n then (j, some (sAp x V ru gi)) else (j, none)
  | m + 1, i, V, ru, gi => match sCl T n i with
    | (j, none) => (j, none)
    | (j, some x) => if j = n then (j, some (sAp x V ru gi)) else if tp T n j = 59 then sVal T n m (j + 1) (sAp x V ru gi).1 (sAp x V ru gi).2.1 (sAp x V ru gi).2.2 else (j, none)
/-- what a clause is that was read from i on -/
def CX (n i : Nat) (r : Nat × Option (Nat × Nat × List tk)) : Prop := (∀ j kd v ts, r = (j, some (kd, v, ts)) → kd ≤ 3 ∧ i + ts.length + 1 ≤ j ∧ j ≤ n ∧ v < 100 ∧ (kd = 2 → v ≤ 2) ∧ (kd ≤ 1 → c_ok (ts, false, v) ∧ c_ok (ts, true, v)) ∧ (2 ≤ kd → ts = [])) ∧ (∀ j, r = (j, none) → i ≤ j ∧ j ≤ n)
section SCL
variable {T : Nat → Int32} {n : Nat}
theorem sWd_ok : ∀ (l : List Int32) (i : Nat), (∀ c, c ∈ l → c ≠ -1) → i ≤ n → (∀ j, sWd T n l i = (j, true) → j = i + l.length ∧ j ≤ n) ∧ (∀ j, sWd T n l i = (j, false) → i ≤ j ∧ j ≤ n) := by
  intro l
  induction l with
  | nil => intro i _ hi; exact ⟨fun j h => by cases h; simp; exact hi, fun j h => (by cases h)⟩
  | cons c l ih =>
    intro i hc hi
    unfold sWd
    by_cases e : tp T n i = c
    · rw [if_pos e]
      have hlt := tp_lt e (hc c List.mem_cons_self)
      have := ih (i + 1) (fun c' h' => hc c' (List.mem_cons_of_mem _ h')) (by omega)
      exact ⟨fun j h => by have := this.1 j h; simp only [List.length_cons]; omega, fun j h => by have := this.2 j h; omega⟩
    · rw [if_neg e]
      exact ⟨fun j h => (by cases h), fun j h => by cases h; omega⟩
theorem wd_c : ∀ w, w < 4 → ∀ c, c ∈ wd w → c ≠ -1 := by decide +kernel
theorem wd_l : ∀ w, w < 4 → 5 ≤ (wd w).length := by decide +kernel
theorem CX_much {w kd i : Nat} (hw : w < 4) (hk : kd ≤ 1) (hi : i ≤ n) : CX n i (sMuch T n (wd w) kd i) := by
  unfold sMuch
  have h1 := sWd_ok (T := T) (wd w) i (wd_c w hw) hi
  have hl := wd_l w hw
  cases hs : sWd T n (wd w) i with
  | mk j b => cases b with
    | false => exact ⟨fun j' kd v ts h => (by cases h), fun j' h => by cases h; exact h1.2 j hs⟩
    | true =>
      have h2 := h1.1 j hs
      have h3 := sNum_ok (T := T) h2.2
      simp only
      cases hm : sNum T n j with
      | mk k ov => cases ov with
        | none => exact ⟨fun j' kd v ts h => (by cases h), fun j' h => by cases h; have := h3.2 k hm; omega⟩
        | some v =>
          have h4 := h3.1 k v hm
          simp only
          by_cases c : tp T n k = 32
          · rw [if_pos c]
            have hlt := tp_lt c (by decide)
            have h5 := GR_E (T := T) (GR_F (T := T) (n := n) 5) (show k + 1 ≤ n by omega)
            cases he : sE T n (sFac T n 5) (k + 1) with
            | mk m ot => cases ot with
              | none => exact ⟨fun j' kd v ts h => (by cases h), fun j' h => by cases h; have := h5.2 m he; omega⟩
              | some us =>
                obtain ⟨a1, a2, a3, a4, a5⟩ := h5.1 m us he
                refine ⟨fun j' kd' v' ts h => ?_, fun j' h => (by cases h)⟩
                cases h
                have hd : t_dp 20 us 0 = some 1 := by
                  have := a5 0 [] (by omega)
                  rw [List.append_nil] at this
                  exact this
                exact ⟨by omega, by omega, a3, h4.2.2, fun h => by omega, fun _ => ⟨⟨a4, hd, h4.2.2⟩, ⟨a4, hd, h4.2.2⟩⟩, fun h => by omega⟩
          · rw [if_neg c]
            exact ⟨fun j' kd v ts h => (by cases h), fun j' h => by cases h; omega⟩
theorem CX_cl {i : Nat} (hi : i ≤ n) : CX n i (sCl T n i) := by
  unfold sCl
  split
  · unfold sGift
    have h1 := sWd_ok (T := T) (wd 2) i (wd_c 2 (by omega)) hi
    have hl := wd_l 2 (by omega)
    cases hs : sWd T n (wd 2) i with
    | mk j b => cases b with
      | false => exact ⟨fun j' kd v ts h => (by cases h), fun j' h => by cases h; exact h1.2 j hs⟩
      | true =>
        have h2 := h1.1 j hs
        have h3 := sNum_ok (T := T) h2.2
        simp only
        cases hm : sNum T n j with
        | mk k ov => cases ov with
          | none => exact ⟨fun j' kd v ts h => (by cases h), fun j' h => by cases h; have := h3.2 k hm; omega⟩
          | some v =>
            have h4 := h3.1 k v hm
            refine ⟨fun j' kd' v' ts h => ?_, fun j' h => (by cases h)⟩
            cases h
            exact ⟨by omega, by simp; omega, by omega, h4.2.2, fun h => by omega, fun h => by omega, fun _ => rfl⟩
  · split
    · exact CX_much (by omega) (by omega) hi
    · split
      · unfold sRule
        have h1 := sWd_ok (T := T) (wd 1) i (wd_c 1 (by omega)) hi
        have hl := wd_l 1 (by omega)
        cases hs : sWd T n (wd 1) i with
        | mk j b => cases b with
          | false => exact ⟨fun j' kd v ts h => (by cases h), fun j' h => by cases h; exact h1.2 j hs⟩
          | true =>
            have h2 := h1.1 j hs
            simp only
            by_cases c : 48 ≤ (tp T n j).toInt ∧ (tp T n j).toInt ≤ 50
            · rw [if_pos c]
              have hlt : j < n := dg_lt (T := T) (by unfold dg; rw [decide_eq_true_iff]; omega)
              refine ⟨fun j' kd' v' ts h => ?_, fun j' h => (by cases h)⟩
              cases h
              have : dv (tp T n j) ≤ 2 := by unfold dv; omega
              exact ⟨by omega, by simp; omega, by omega, by omega, fun _ => this, fun h => by omega, fun _ => rfl⟩
            · rw [if_neg c]
              exact ⟨fun j' kd v ts h => (by cases h), fun j' h => by cases h; omega⟩
      · split
        · exact CX_much (by omega) (by omega) hi
        · exact ⟨fun j' kd v ts h => (by cases h), fun j' h => by cases h; omega⟩
end SCL
