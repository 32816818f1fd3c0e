/-! ===== what the methods' functions come to: base ===== -/
def ok {α : Type} (x : Option α) (P : α → Prop) : Prop := ∃ o, x = some o ∧ P o
theorem ok_some {α : Type} {o : α} {P : α → Prop} : ok (some o) P ↔ P o := ⟨fun ⟨_, h, p⟩ => by cases h; exact p, fun p => ⟨o, rfl, p⟩⟩
theorem ok_none {α : Type} {P : α → Prop} : ok (none : Option α) P ↔ False := by simp [ok]
theorem ok_bind {α β : Type} {f : Option α} {k : α → Option β} {P : β → Prop} : ok (Option.bind f k) P ↔ ok f (fun r => ok (k r) P) := by
  cases f with
  | none => simp [ok]
  | some a => simp [ok]
theorem ok_gdl {α : Type} {b : Bool} {bs : List Bool} {x : Option α} {P : α → Prop} : ok (gdl (b :: bs) x) P ↔ b = true ∧ ok (gdl bs x) P := by
  cases b <;> simp [ok, gdl]
theorem ok_gdl0 {α : Type} {x : Option α} {P : α → Prop} : ok (gdl [] x) P ↔ ok x P := Iff.rfl
theorem ok_ite {α : Type} {c : Prop} [Decidable c] {a b : Option α} {P : α → Prop} : ok (if c then a else b) P ↔ (c → ok a P) ∧ (¬ c → ok b P) := by
  by_cases h : c <;> simp [h]
theorem ok_eq {α : Type} {x : Option α} {o : α} {P : α → Prop} (h : x = some o) (p : P o) : ok x P := ⟨o, h, p⟩
theorem ok_mono {α : Type} {x : Option α} {P Q : α → Prop} (h : ok x P) (hi : ∀ o, P o → Q o) : ok x Q := by
  obtain ⟨o, e, p⟩ := h
  exact ⟨o, e, hi o p⟩
/-- a truth as an int -/
def bI (p : Prop) [Decidable p] : Int32 := if p then 1 else 0
theorem isb_bI (p : Prop) [Decidable p] : isb (bI p) = true := by
  unfold bI
  split <;> decide
theorem bI_0 (p : Prop) [Decidable p] : (bI p = 0) = ¬ p := by
  unfold bI
  split
  · rename_i h; simp [h]
  · rename_i h; simp [h]
theorem bI_1 (p : Prop) [Decidable p] : (bI p = 1) = p := by
  unfold bI
  split
  · rename_i h; simp [h]
  · rename_i h; simp [h]
theorem bI_t {p : Prop} [Decidable p] (h : p) : bI p = 1 := if_pos h
theorem bI_f {p : Prop} [Decidable p] (h : ¬ p) : bI p = 0 := if_neg h
theorem bI_c {p q : Prop} [Decidable p] [Decidable q] (h : p ↔ q) : bI p = bI q := by
  unfold bI
  by_cases hp : p
  · rw [if_pos hp, if_pos (h.mp hp)]
  · rw [if_neg hp, if_neg (fun x => hp (h.mpr x))]
theorem gdl0 {α : Type} {x : Option α} : gdl [] x = x := rfl
theorem gdlT {α : Type} {b : Bool} {bs : List Bool} {x : Option α} (h : b = true) : gdl (b :: bs) x = gdl bs x := by simp [gdl, h]
theorem gdl_bI {α : Type} {p : Prop} [Decidable p] {bs : List Bool} {x : Option α} : gdl (isb (bI p) :: bs) x = gdl bs x := gdlT (isb_bI p)
theorem isb0 : isb 0 = true := by decide
theorem isb1 : isb 1 = true := by decide
theorem inb_nI {k n : Nat} (hk : k < 2 ^ 31) : inb (nI k) n = decide (k < n) := by
  unfold inb
  rw [nI_toInt hk]
  by_cases h : k < n
  · have h1 : (k : Int) < n := by omega
    simp [h, h1]
  · have h1 : ¬ (k : Int) < n := by omega
    simp [h, h1]
theorem gdl_nI {α : Type} {k n : Nat} {bs : List Bool} {x : Option α} (hk : k < 2 ^ 31) (h : k < n) : gdl (inb (nI k) n :: bs) x = gdl bs x := gdlT (by rw [inb_nI hk]; simp [h])
theorem mI1 {n : xN} {a b k : Nat} {v : Int32} : (mI n a k v).1 b = if b = a then upd (n.1 a) k v else n.1 b := by
  simp [mI, va_up]
theorem mI2 {n : xN} {a k : Nat} {v : Int32} : (mI n a k v).2 = n.2 := rfl
theorem mJ1 {n : xN} {a k : Nat} {v : Int64} : (mJ n a k v).1 = n.1 := rfl
theorem mJ2 {n : xN} {a b k : Nat} {v : Int64} : (mJ n a k v).2 b = if b = a then va_up (n.2 a) k v else n.2 b := by
  simp [mJ, va_up]
theorem upd_s {f : Nat → Int32} {k : Nat} {v : Int32} : upd f k v k = v := by simp [upd]
theorem upd_o {f : Nat → Int32} {k j : Nat} {v : Int32} (h : j ≠ k) : upd f k v j = f j := by simp [upd, h]
theorem i32_lt (a b : Int32) : a < b ↔ a.toInt < b.toInt := Int32.lt_iff_toInt_lt
theorem i32_le (a b : Int32) : a ≤ b ↔ a.toInt ≤ b.toInt := Int32.le_iff_toInt_le
theorem i32_eq (a b : Int32) : a = b ↔ a.toInt = b.toInt := ⟨fun h => by rw [h], fun h => Int32.toInt_inj.mp h⟩
theorem i32_lo (a : Int32) : -2147483648 ≤ a.toInt := by
  have := Int32.le_toInt a
  simpa using this
theorem i32_hi (a : Int32) : a.toInt ≤ 2147483647 := by
  have h := Int32.toInt_le a
  have z : Int32.maxValue.toInt = 2147483647 := by decide
  omega
theorem i32_nI {a : Int32} (h : 0 ≤ a.toInt) : a = nI a.toInt.toNat := by
  apply Int32.toInt_inj.mp
  have := i32_hi a
  rw [nI_toInt (by omega)]
  omega
theorem i32_of {a : Int32} {k : Nat} (h : 0 ≤ a.toInt) (h2 : a.toInt < k) : ∃ r : Nat, r < k ∧ a = nI r := ⟨a.toInt.toNat, by omega, i32_nI h⟩
theorem i32_add {a b : Int32} (h1 : -2147483648 ≤ a.toInt + b.toInt) (h2 : a.toInt + b.toInt ≤ 2147483647) : (a + b).toInt = a.toInt + b.toInt := by
  rw [Int32.toInt_add, Int.bmod_eq_of_le]
  · omega
  · omega
theorem i32_sub {a b : Int32} (h1 : -2147483648 ≤ a.toInt - b.toInt) (h2 : a.toInt - b.toInt ≤ 2147483647) : (a - b).toInt = a.toInt - b.toInt := by
  rw [Int32.toInt_sub, Int.bmod_eq_of_le]
  · omega
  · omega
theorem i64_of (a : Int32) : (Int32.toInt64 a).toInt = a.toInt := by simp
theorem e_in (a lo hi : Int64) : f_X4_in a lo hi = some (bI (lo.toInt ≤ a.toInt ∧ a.toInt ≤ hi.toInt)) := by
  unfold f_X4_in f_X4_in_L17 f_X4_in_L18
  simp only [lg_cmp_lt, lg_cmp_gt, Int64.lt_iff_toInt_lt]
  by_cases h1 : a.toInt < lo.toInt
  · rw [if_pos h1, bI_f (by omega)]; rfl
  · rw [if_neg h1]
    by_cases h2 : hi.toInt < a.toInt
    · rw [if_pos h2, bI_f (by omega)]; rfl
    · rw [if_neg h2, bI_t (by omega)]; rfl
theorem e_isRow (a : Int32) : f_X4_isRow a = some (bI (0 ≤ a.toInt ∧ a.toInt ≤ 5)) := by
  unfold f_X4_isRow
  rw [e_in, i64_of]
  exact gdl_bI
theorem e_isText (a : Int32) : f_X4_isText a = some (bI (0 ≤ a.toInt ∧ a.toInt ≤ 3)) := by
  unfold f_X4_isText
  rw [e_in, i64_of]
  exact gdl_bI
theorem e_isTrait (a : Int32) : f_X4_isTrait a = some (bI (0 ≤ a.toInt ∧ a.toInt ≤ 3)) := by
  unfold f_X4_isTrait
  rw [e_in, i64_of]
  exact gdl_bI
/-- a loop that counts up from i to e, by what holds at its head -/
theorem ok_for {σ O : Type} {rc : Nat → Int32 → σ → Option O} {body : (Int32 → σ → Option O) → Int32 → σ → Option O} (hrec : ∀ n i s, rc (n + 1) i s = body (rc n) i s) (e : Nat) (I : Nat → σ → Prop) (P : O → Prop)
    (hstep : ∀ (k : Int32 → σ → Option O) (i : Nat) (s : σ), i < e → I i s → (∀ s', I (i + 1) s' → ok (k (nI (i + 1)) s') P) → ok (body k (nI i) s) P) (hexit : ∀ (k : Int32 → σ → Option O) (s : σ), I e s → ok (body k (nI e) s) P) :
    ∀ (n i : Nat) (s : σ), i ≤ e → e - i < n → I i s → ok (rc n (nI i) s) P := by
  intro n
  induction n with
  | zero => intro i s _ h _; exact absurd h (by omega)
  | succ n ih =>
    intro i s hi hn hI
    rw [hrec]
    by_cases h : i < e
    · exact hstep _ i s h hI (fun s' hs' => ih (i + 1) s' (by omega) (by omega) hs')
    · have : i = e := by omega
      subst this
      exact hexit _ s hI
/-- the same, where the loop's values are told by a function -/
theorem eq_for {σ O : Type} {rc : Nat → Int32 → σ → Option O} {body : (Int32 → σ → Option O) → Int32 → σ → Option O} (hrec : ∀ n i s, rc (n + 1) i s = body (rc n) i s) (lo e : Nat) (S : Nat → σ) (o : Option O)
    (hstep : ∀ (k : Int32 → σ → Option O) (i : Nat), lo ≤ i → i < e → body k (nI i) (S i) = k (nI (i + 1)) (S (i + 1))) (hexit : ∀ (k : Int32 → σ → Option O), body k (nI e) (S e) = o) :
    ∀ (n i : Nat), lo ≤ i → i ≤ e → e - i < n → rc n (nI i) (S i) = o := by
  intro n
  induction n with
  | zero => intro i _ _ h; exact absurd h (by omega)
  | succ n ih =>
    intro i hl hi hn
    rw [hrec]
    by_cases h : i < e
    · rw [hstep _ i hl h]
      exact ih (i + 1) (by omega) (by omega) (by omega)
    · have : i = e := by omega
      subst this
      exact hexit _
