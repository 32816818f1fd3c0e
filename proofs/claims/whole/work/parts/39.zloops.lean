/-! ===== loops once more: the function that is called again stands for itself ===== -/
theorem eq_forG {ρ σ O : Type} {rc : Nat → ρ} {body : ρ → ρ} (app : ρ → Int32 → σ → Option O) (hrec : ∀ n, rc (n + 1) = body (rc n)) (lo e : Nat) (S : Nat → σ) (o : Option O)
    (hstep : ∀ (k : ρ) (i : Nat), lo ≤ i → i < e → app (body k) (nI i) (S i) = app k (nI (i + 1)) (S (i + 1))) (hexit : ∀ (k : ρ), app (body k) (nI e) (S e) = o) :
    ∀ (n i : Nat), lo ≤ i → i ≤ e → e - i < n → app (rc n) (nI i) (S i) = o := by
  intro n
  induction n with
  | zero => intro i _ _ h; exact absurd h (by omega)
  | succ n ih =>
    intro i hl hi hn
    rw [hrec]
    by_cases h : i < e
    · rw [hstep _ i hl h]
      exact ih (i + 1) (by omega) (by omega) (by omega)
    · have : i = e := by omega
      subst this
      exact hexit _
theorem eq_forDG {ρ σ O : Type} {rc : Nat → ρ} {body : ρ → ρ} (app : ρ → Int32 → σ → Option O) (hrec : ∀ n, rc (n + 1) = body (rc n)) (W : Nat) (S : Nat → σ) (o : Option O)
    (hstep : ∀ (k : ρ) (i : Nat), i < W → app (body k) (nI i) (S (i + 1)) = app k (dn i) (S i)) (hexit : ∀ (k : ρ), app (body k) (dn 0) (S 0) = o) :
    ∀ (n i : Nat), i ≤ W → i < n → app (rc n) (dn i) (S i) = o := by
  intro n
  induction n with
  | zero => intro i _ h; exact absurd h (by omega)
  | succ n ih =>
    intro i hi hn
    rw [hrec]
    cases i with
    | zero => exact hexit _
    | succ i =>
      rw [dn_s, hstep _ i (by omega)]
      exact ih i (by omega) (by omega)
/-- a loop that may end early: what it comes to, from each place on -/
theorem eq_forR {ρ σ O : Type} {rc : Nat → ρ} {body : ρ → ρ} (app : ρ → Int32 → σ → Option O) (hrec : ∀ n, rc (n + 1) = body (rc n)) (e : Nat) (S : Nat → σ) (R : Nat → Option O)
    (hstep : ∀ (k : ρ) (i : Nat), i < e → (app k (nI (i + 1)) (S (i + 1)) = R (i + 1) → app (body k) (nI i) (S i) = R i)) (hexit : ∀ (k : ρ), app (body k) (nI e) (S e) = R e) :
    ∀ (n i : Nat), i ≤ e → e - i < n → app (rc n) (nI i) (S i) = R i := by
  intro n
  induction n with
  | zero => intro i _ h; exact absurd h (by omega)
  | succ n ih =>
    intro i hi hn
    rw [hrec]
    by_cases h : i < e
    · exact hstep _ i h (ih (i + 1) (by omega) (by omega))
    · have : i = e := by omega
      subst this
      exact hexit _
