/-! 20.vlog: reasoning about runs of our machine -/
theorem a_go_mono (P : List aM) (df : List (List Value)) (tx : List (List Int32)) (sv : List (String × String × String × Value)) (sc : Nat × (Nat → Int32)) : ∀ (n n' d d' k i : Nat) (L : aL) (st : List Value) (h : List aC) (q : Option Value × List aC), a_go P df tx sv sc n d k i L st h = some q → n ≤ n' → d ≤ d' → a_go P df tx sv sc n' d' k i L st h = some q := by
  intro n
  induction n with
  | zero => intro n' d d' k i L st h q hg; simp [a_go] at hg
  | succ n ih =>
    intro n' d d' k i L st h q hg hn hd
    obtain ⟨n', rfl⟩ : ∃ z, n' = z + 1 := ⟨n' - 1, by omega⟩
    simp only [a_go] at hg ⊢
    split at hg
    · cases hg
    · rename_i hP
      try rw [hP]
      try simp only at hg ⊢
      split at hg
      · cases hg
      · rename_i hrow
        try rw [hrow]
        try simp only at hg ⊢
        split at hg
        · rename_i hs
          try rw [hs]
          exact hg
        · rename_i hs
          try rw [hs]
          try simp only at hg ⊢
          split at hg
          · rename_i hs2
            try rw [hs2]
            try simp only at hg ⊢
            split at hg
            · cases hg
            · rename_i d0
              obtain ⟨d', rfl⟩ : ∃ z, d' = z + 1 := ⟨d' - 1, by omega⟩
              try simp only at hg ⊢
              split at hg
              · cases hg
              · rename_i hP2
                try rw [hP2]
                try simp only at hg ⊢
                obtain ⟨hb, hg⟩ := a_bif hg
                rw [hb]
                simp only [cond_true]
                split at hg
                · rename_i hg1
                  rw [ih n' _ d' _ _ _ _ _ _ hg1 (by omega) (by omega)]
                  exact ih n' _ (d' + 1) _ _ _ _ _ _ hg (by omega) (by omega)
                · cases hg
          · rename_i hs2
            try rw [hs2]
            try simp only at hg ⊢
            split at hg
            · rename_i hs3
              try rw [hs3]
              try simp only at hg ⊢
              obtain ⟨hb, hg⟩ := a_bif hg
              rw [hb]
              exact ih n' _ d' _ _ _ _ _ _ hg (by omega) hd
            · rename_i hs3
              try rw [hs3]
              try simp only at hg ⊢
              split at hg
              · rename_i hs4
                try rw [hs4]
                try simp only at hg ⊢
                obtain ⟨hb, hg⟩ := a_bif hg
                rw [hb]
                exact ih n' _ d' _ _ _ _ _ _ hg (by omega) hd
              · rename_i hs4
                try rw [hs4]
                try simp only at hg ⊢
                split at hg
                · rename_i hs5
                  try rw [hs5]
                  try simp only at hg ⊢
                  obtain ⟨hb, hg⟩ := a_bif hg
                  rw [hb]
                  exact ih n' _ d' _ _ _ _ _ _ hg (by omega) hd
                · rename_i hs5
                  try rw [hs5]
                  try simp only at hg ⊢
                  split at hg
                  · rename_i hs6
                    try rw [hs6]
                    try simp only at hg ⊢
                    obtain ⟨hb, hg⟩ := a_bif hg
                    rw [hb]
                    exact ih n' _ d' _ _ _ _ _ _ hg (by omega) hd
                  · rename_i hs6
                    try rw [hs6]
                    try simp only at hg ⊢
                    split at hg
                    · rename_i hs7
                      try rw [hs7]
                      try simp only at hg ⊢
                      obtain ⟨hb, hg⟩ := a_bif hg
                      rw [hb]
                      exact ih n' _ d' _ _ _ _ _ _ hg (by omega) hd
                    · cases hg
/-- the run from here comes to an end with Q -/
def v_V (fz : Value) (sc : Nat × (Nat → Int32)) (d k i : Nat) (L : aL) (st : List Value) (h : List aC) (Q : Option Value → List aC → Prop) : Prop := ∃ (n : Nat) (r : Option Value) (h' : List aC), a_go a_P a_df a_tx (a_sv fz) sc n d k i L st h = some (r, h') ∧ Q r h'
section VL
variable {fz : Value} {sc : Nat × (Nat → Int32)} {d k i : Nat} {L : aL} {st : List Value} {h : List aC} {Q : Option Value → List aC → Prop}
theorem v_deep {d' : Nat} (hd : d ≤ d') (hv : v_V fz sc d k i L st h Q) : v_V fz sc d' k i L st h Q := by
  obtain ⟨n, r, h', h1, h2⟩ := hv
  exact ⟨n, r, h', a_go_mono _ _ _ _ _ n n d d' k i L st h _ h1 (Nat.le_refl _) hd, h2⟩
theorem v_post {Q' : Option Value → List aC → Prop} (hv : v_V fz sc d k i L st h Q) (hq : ∀ r h', Q r h' → Q' r h') : v_V fz sc d k i L st h Q' := by
  obtain ⟨n, r, h', h1, h2⟩ := hv
  exact ⟨n, r, h', h1, hq r h' h2⟩
/-- c steps at once -/
theorem v_blk (c : Nat) {i' : Nat} {L' : aL} {st' : List Value} {h' : List aC} (hg : ∀ n, a_go a_P a_df a_tx (a_sv fz) sc (n + c) d k i L st h = a_go a_P a_df a_tx (a_sv fz) sc n d k i' L' st' h') (hv : v_V fz sc d k i' L' st' h' Q) : v_V fz sc d k i L st h Q := by
  obtain ⟨n, r, h2, h1, hq⟩ := hv
  exact ⟨n + c, r, h2, (hg n).trans h1, hq⟩
/-- c steps at once, the last one guarded -/
theorem v_grd (c : Nat) {g : Bool} {i' : Nat} {L' : aL} {st' : List Value} {h' : List aC} (hg : ∀ n, a_go a_P a_df a_tx (a_sv fz) sc (n + c) d k i L st h = bif g then a_go a_P a_df a_tx (a_sv fz) sc n d k i' L' st' h' else none) (ht : g = true) (hv : v_V fz sc d k i' L' st' h' Q) : v_V fz sc d k i L st h Q := by
  obtain ⟨n, r, h2, h1, hq⟩ := hv
  refine ⟨n + c, r, h2, ?_, hq⟩
  rw [hg, ht]
  exact h1
/-- c steps, the last a return -/
theorem v_ret (c : Nat) {r : Option Value} {h' : List aC} (hg : ∀ n, a_go a_P a_df a_tx (a_sv fz) sc (n + c) d k i L st h = some (r, h')) (hq : Q r h') : v_V fz sc d k i L st h Q := ⟨c, r, h', by simpa using hg 0, hq⟩
theorem v_retg (c : Nat) {g : Bool} {r : Option Value} {h' : List aC} (hg : ∀ n, a_go a_P a_df a_tx (a_sv fz) sc (n + c) d k i L st h = bif g then some (r, h') else none) (ht : g = true) (hq : Q r h') : v_V fz sc d k i L st h Q := ⟨c, r, h', by have := hg 0; rw [ht] at this; simpa using this, hq⟩
/-- c steps, the last a call -/
theorem v_call (c : Nat) {k' i' : Nat} {E L' : aL} {rest : List Value} {h1 : List aC} (hg : ∀ n, a_go a_P a_df a_tx (a_sv fz) sc (n + c) (d + 1) k i L st h = match a_go a_P a_df a_tx (a_sv fz) sc n d k' 0 E [] h1 with
    | some (rv, h') => a_go a_P a_df a_tx (a_sv fz) sc n (d + 1) k i' L' (rv.toList ++ rest) h'
    | none => none) (hv : v_V fz sc d k' 0 E [] h1 (fun rv h' => v_V fz sc (d + 1) k i' L' (rv.toList ++ rest) h' Q)) : v_V fz sc (d + 1) k i L st h Q := by
  obtain ⟨n1, rv, h', e1, n2, r, h2, e2, hq⟩ := hv
  refine ⟨max n1 n2 + c, r, h2, ?_, hq⟩
  rw [hg, a_go_mono _ _ _ _ _ n1 (max n1 n2) d d _ _ _ _ _ _ e1 (Nat.le_max_left _ _) (Nat.le_refl _)]
  exact a_go_mono _ _ _ _ _ n2 (max n1 n2) _ _ _ _ _ _ _ _ e2 (Nat.le_max_right _ _) (Nat.le_refl _)
theorem v_br {b : Bool} {i1 i2 : Nat} (h1 : b = true → v_V fz sc d k i1 L st h Q) (h2 : b = false → v_V fz sc d k i2 L st h Q) : v_V fz sc d k (bif b then i1 else i2) L st h Q := by
  cases b
  · exact h2 rfl
  · exact h1 rfl
end VL
