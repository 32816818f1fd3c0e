/-! ===== promise 36: fix ===== -/
theorem pc_mask (p : Nat → Bool) (m : Nat) : ∀ k, pcN (maskN p m) k = cnt p (min k m) := by
  intro k
  induction k with
  | zero => rw [Nat.zero_min]; rfl
  | succ k ih =>
    rw [pcN, ih, div_tb, maskN_tb]
    by_cases h : k < m
    · rw [show min k m = k by omega, show min (k + 1) m = k + 1 by omega, cnt]
      simp [h]
    · rw [show min k m = m by omega, show min (k + 1) m = m by omega]
      simp [h]
theorem ky_mask (p : Nat → Bool) {m : Nat} (hm : m ≤ 13) : ky (maskN p m) = cnt p m * 8192 + maskN p m := by
  unfold ky
  rw [pc_mask, show min 13 m = m by omega]
theorem mask_add {p q : Nat → Bool} : ∀ m, (∀ i, i < m → p i = true → q i = false) → maskN (fun i => p i || q i) m = maskN p m + maskN q m ∧ cnt (fun i => p i || q i) m = cnt p m + cnt q m := by
  intro m
  induction m with
  | zero => intro _; exact ⟨rfl, rfl⟩
  | succ m ih =>
    intro h
    obtain ⟨a, b⟩ := ih (fun i hi => h i (by omega))
    rw [maskN, maskN, maskN, cnt, cnt, cnt, a, b]
    have hm := h m (by omega)
    cases e1 : p m
    · cases e2 : q m
      · simp
      · simp; omega
    · have e2 : q m = false := hm e1
      simp [e2]; omega
theorem ky_add {p q : Nat → Bool} {m : Nat} (hm : m ≤ 13) (h : ∀ i, i < m → p i = true → q i = false) : ky (maskN (fun i => p i || q i) m) = ky (maskN p m) + ky (maskN q m) := by
  obtain ⟨a, b⟩ := mask_add m h
  rw [ky_mask _ hm, ky_mask _ hm, ky_mask _ hm, a, b]
  omega
theorem mask_orr (p q : Nat → Bool) (m : Nat) : maskN p m ||| maskN q m = maskN (fun i => p i || q i) m := by
  apply Nat.eq_of_testBit_eq
  intro k
  rw [Nat.testBit_or, maskN_tb, maskN_tb, maskN_tb]
  cases decide (k < m) <;> rfl
theorem mask_self {S m : Nat} (h : S < 2 ^ m) : maskN S.testBit m = S := by
  apply Nat.eq_of_testBit_eq
  intro k
  rw [maskN_tb]
  by_cases hk : k < m
  · simp [hk]
  · have : S.testBit k = false := Nat.testBit_lt_two_pow (Nat.lt_of_lt_of_le h (p2 (by omega)))
    rw [this]; simp
def fxd (n : xN) (r m : Nat) (p : Nat → Bool) : Prop := ∀ i, i < m → ∀ j, j < m → agF n r i j = true → p i = true ∨ p j = true
theorem ag_of {n : xN} {r i j : Nat} (h : agF n r i j = true) : tRl n r i = tRl n r j ∧ fRl n r i = 1 ∧ fRl n r j = 0 ∧ vRl n r i ≤ vRl n r j := by
  unfold agF at h
  simp only [Bool.and_eq_true, decide_eq_true_eq] at h
  exact ⟨h.1, h.2.1, h.2.2.1, h.2.2.2⟩
/-- the border below all of the rulings 'much' that are left -/
theorem low_of {n : xN} {r m t : Nat} (hok : andA (okR n r) m = true) (p : Nat → Bool) : ∀ k, k ≤ m → ∃ u : Nat, u ≤ 6 ∧ (∀ i, i < k → tRl n r i = nI t → fRl n r i = 1 → p i = false → nI u ≤ vRl n r i) ∧ (u = 6 ∨ ∃ i, i < k ∧ tRl n r i = nI t ∧ fRl n r i = 1 ∧ p i = false ∧ vRl n r i = nI u) := by
  intro k
  induction k with
  | zero => intro _; exact ⟨6, by omega, fun i h => absurd h (by omega), Or.inl rfl⟩
  | succ k ih =>
    intro hk
    obtain ⟨u, hu, h1, h2⟩ := ih (by omega)
    obtain ⟨-, ⟨v0, v5⟩, -⟩ := okR_f hok (show k < m by omega)
    obtain ⟨w, hw, ew⟩ := i32_of (k := 6) v0 (by omega)
    by_cases c : tRl n r k = nI t ∧ fRl n r k = 1 ∧ p k = false ∧ w < u
    · refine ⟨w, by omega, fun i hi a b d => ?_, Or.inr ⟨k, by omega, c.1, c.2.1, c.2.2.1, ew⟩⟩
      by_cases e : i = k
      · rw [e, ew]; exact nI_le (Nat.le_refl _) (by omega)
      · have := h1 i (by omega) a b d
        rw [i32_le] at this ⊢
        rw [nI_toInt (by omega)] at this ⊢
        omega
    · refine ⟨u, hu, fun i hi a b d => ?_, h2.elim Or.inl (fun ⟨i, hi, z⟩ => Or.inr ⟨i, by omega, z⟩)⟩
      by_cases e : i = k
      · subst e
        rw [ew]
        refine nI_le ?_ (by omega)
        by_cases q : w < u
        · exact absurd ⟨a, b, d, q⟩ c
        · omega
      · exact h1 i (by omega) a b d
theorem rO_of {n : xN} {r t u i : Nat} : rO n r t u i = true ↔ tRl n r i = nI t ∧ ¬ (fRl n r i = 1 ↔ nI u ≤ vRl n r i) := by
  unfold rO
  rw [Bool.and_eq_true, decide_eq_true_eq]
  constructor
  · rintro ⟨a, b⟩
    refine ⟨a, fun z => ?_⟩
    by_cases q : fRl n r i = 1
    · rw [decide_eq_true q, decide_eq_true (z.mp q)] at b; cases b
    · rw [decide_eq_false q, decide_eq_false (fun y => q (z.mpr y))] at b; cases b
  · rintro ⟨a, b⟩
    refine ⟨a, ?_⟩
    by_cases q : fRl n r i = 1 <;> by_cases z : nI u ≤ vRl n r i <;> simp [q, z] at b ⊢
theorem fx_low {n : xN} {r m t : Nat} (hok : andA (okR n r) m = true) {p : Nat → Bool} (hf : fxd n r m p) : ∃ u, u ≤ 6 ∧ ∀ i, i < m → rO n r t u i = true → p i = true := by
  obtain ⟨u, hu, h1, h2⟩ := low_of (t := t) hok p m (Nat.le_refl _)
  refine ⟨u, hu, fun i hi hr => ?_⟩
  obtain ⟨a, b⟩ := rO_of.mp hr
  cases hp : p i
  · exfalso
    obtain ⟨-, ⟨v0, v5⟩, ff⟩ := okR_f hok hi
    rcases ff with f0 | f1
    · have n1 : ¬ fRl n r i = 1 := by rw [f0]; decide
      have hv : nI u ≤ vRl n r i := Classical.byContradiction (fun z => b ⟨fun y => absurd y n1, fun y => absurd y z⟩)
      rcases h2 with rfl | ⟨j, hj, ja, jb, jc, jd⟩
      · rw [i32_le, nI_toInt (by omega)] at hv
        omega
      · have ag : agF n r j i = true := by
          unfold agF
          rw [ja, a, jb, f0, jd, decide_eq_true hv]; simp
        rcases hf j hj i hi ag with z | z
        · rw [jc] at z; cases z
        · rw [hp] at z; cases z
    · exact b ⟨fun _ => h1 i hi a f1 hp, fun _ => f1⟩
  · rfl
/-- one border for each TRAIT -/
def orT (n : xN) (r : Nat) (u : Nat → Nat) (i : Nat) : Bool := ((rO n r 0 (u 0) i || rO n r 1 (u 1) i) || rO n r 2 (u 2) i) || rO n r 3 (u 3) i
theorem orT_t {n : xN} {r i : Nat} {u : Nat → Nat} {t : Nat} (ht : t < 4) (h : rO n r t (u t) i = true) : orT n r u i = true := by
  unfold orT
  match t, ht, h with
  | 0, _, h => rw [h]; simp
  | 1, _, h => rw [h]; simp
  | 2, _, h => rw [h]; simp
  | 3, _, h => rw [h]; simp
theorem fx_orT {n : xN} {r m : Nat} (hok : andA (okR n r) m = true) (u : Nat → Nat) : fxd n r m (orT n r u) := by
  intro i hi j hj ag
  obtain ⟨a, b, c, d⟩ := ag_of ag
  obtain ⟨⟨t0, t4⟩, -⟩ := okR_f hok hi
  obtain ⟨t, ht, et⟩ := i32_of (k := 4) t0 (by omega)
  by_cases h : rO n r t (u t) i = true
  · exact Or.inl (orT_t ht h)
  · refine Or.inr (orT_t ht (rO_of.mpr ⟨by rw [← a]; exact et, fun z => ?_⟩))
    have n1 : ¬ fRl n r j = 1 := by rw [c]; decide
    have hv : nI (u t) ≤ vRl n r i := Classical.byContradiction (fun y => h (rO_of.mpr ⟨et, fun w => y (w.mp b)⟩))
    refine n1 (z.mpr ?_)
    rw [i32_le] at hv d ⊢
    omega
theorem rO_dis {n : xN} {r t t' u u' i : Nat} (ht : t < 4) (ht' : t' < 4) (hne : t ≠ t') (h : rO n r t u i = true) : rO n r t' u' i = false := by
  cases q : rO n r t' u' i
  · rfl
  · have a := (rO_of.mp h).1
    have b := (rO_of.mp q).1
    rw [a, nI_eq (by omega) (by omega)] at b
    exact absurd b hne
theorem ky_orT {n : xN} {r m : Nat} (hm : m ≤ 13) (u : Nat → Nat) : ky (maskN (orT n r u) m) = ky (maskN (rO n r 0 (u 0)) m) + ky (maskN (rO n r 1 (u 1)) m) + ky (maskN (rO n r 2 (u 2)) m) + ky (maskN (rO n r 3 (u 3)) m) := by
  show ky (maskN (fun i => ((rO n r 0 (u 0) i || rO n r 1 (u 1) i) || rO n r 2 (u 2) i) || rO n r 3 (u 3) i) m) = _
  rw [ky_add hm (p := fun i => (rO n r 0 (u 0) i || rO n r 1 (u 1) i) || rO n r 2 (u 2) i), ky_add hm (p := fun i => rO n r 0 (u 0) i || rO n r 1 (u 1) i), ky_add hm]
  · intro i _ h; exact rO_dis (by omega) (by omega) (by omega) h
  · intro i _ h
    rcases Bool.or_eq_true_iff.mp h with h | h
    · exact rO_dis (by omega) (by omega) (by omega) h
    · exact rO_dis (by omega) (by omega) (by omega) h
  · intro i _ h
    rcases Bool.or_eq_true_iff.mp h with h | h
    · rcases Bool.or_eq_true_iff.mp h with h | h
      · exact rO_dis (by omega) (by omega) (by omega) h
      · exact rO_dis (by omega) (by omega) (by omega) h
    · exact rO_dis (by omega) (by omega) (by omega) h
/-- the best borders give the least that is fixed -/
theorem fix_least {n : xN} {r m : Nat} (hm : m ≤ 13) (hok : andA (okR n r) m = true) (u : Nat → Nat) (hu : ∀ t, t < 4 → ∀ w, w ≤ 6 → ky (maskN (rO n r t (u t)) m) ≤ ky (maskN (rO n r t w) m)) {S : Nat} (hS : S < 2 ^ m) (hf : fxd n r m S.testBit) : ky (maskN (orT n r u) m) ≤ ky S := by
  obtain ⟨w0, l0, k0⟩ := fx_low (t := 0) hok hf
  obtain ⟨w1, l1, k1⟩ := fx_low (t := 1) hok hf
  obtain ⟨w2, l2, k2⟩ := fx_low (t := 2) hok hf
  obtain ⟨w3, l3, k3⟩ := fx_low (t := 3) hok hf
  let w : Nat → Nat := fun t => match t with | 0 => w0 | 1 => w1 | 2 => w2 | _ => w3
  have e1 : ky (maskN (orT n r w) m) ≤ ky S := by
    refine ky_sub (fun k hk => ?_)
    rw [maskN_tb] at hk
    simp only [Bool.and_eq_true, decide_eq_true_eq] at hk
    obtain ⟨hk, ho⟩ := hk
    have ho : (((rO n r 0 w0 k || rO n r 1 w1 k) || rO n r 2 w2 k) || rO n r 3 w3 k) = true := ho
    rcases Bool.or_eq_true_iff.mp ho with h | h
    · rcases Bool.or_eq_true_iff.mp h with h | h
      · rcases Bool.or_eq_true_iff.mp h with h | h
        · exact k0 k hk h
        · exact k1 k hk h
      · exact k2 k hk h
    · exact k3 k hk h
  rw [ky_orT hm] at e1 ⊢
  have a0 := hu 0 (by omega) w0 l0
  have a1 := hu 1 (by omega) w1 l1
  have a2 := hu 2 (by omega) w2 l2
  have a3 := hu 3 (by omega) w3 l3
  have e1 : ky (maskN (rO n r 0 w0) m) + ky (maskN (rO n r 1 w1) m) + ky (maskN (rO n r 2 w2) m) + ky (maskN (rO n r 3 w3) m) ≤ ky S := e1
  omega
