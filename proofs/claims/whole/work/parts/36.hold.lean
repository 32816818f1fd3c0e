/-! ===== clauses hold: the reference, the class ===== -/
theorem bIb (b : Bool) : bI (b = true) = if b = true then 1 else 0 := rfl
theorem e_holdsOf (N : Nat) (hN : 10 ≤ N) (n : xN) {T way a t o : Nat} {oo : Int32} (hT : T ≤ 6) (eT : n.1 39 1 = nI T) (hw : way < 2 ^ 31) (ha : a ≤ 5) (ht : t < 4) (ho : (a = 2 ∨ a = 5) → oo = nI o ∧ o < 4) : f_X4_holdsOf N (nI a) (nI t) oo (nI way) n = some (bI (hB (bdM (n.1 40)) (vS (n.1 41) T way) a t o = true)) := by
  have eM := e_isMuch N hN n hT eT hw ht
  have eV := e_valueOf N hN n hT eT hw (show t < 5 by omega)
  match a, ha with
  | 0, _ =>
    simp only [f_X4_holdsOf, show nI 0 = (0 : Int32) from rfl, z0, eM, Option.bind_some, gdl_bI, gdl0, hB, decide_eq_true_eq]
    rfl
  | 1, _ =>
    simp only [f_X4_holdsOf, show nI 1 = (1 : Int32) from rfl, z1, eV, e_isBetween n ht, Option.bind_some, gdl_bI, gdl0, hB, Bool.and_eq_true, decide_eq_true_eq]
    rfl
  | 2, _ =>
    obtain ⟨rfl, ho4⟩ := ho (Or.inl rfl)
    have eO := e_isMuch N hN n hT eT hw ho4
    simp only [f_X4_holdsOf, f_X4_holdsOf_L73, f_X4_holdsOf_L74, show nI 2 = (2 : Int32) from rfl, eM, eO, Option.bind_some, hB, Bool.and_eq_true, decide_eq_true_eq, bI_0]
    by_cases h1 : bdM (n.1 40) (2 * t + 1) ≤ vS (n.1 41) T way t <;> by_cases h2 : bdM (n.1 40) (2 * o + 1) ≤ vS (n.1 41) T way o <;> simp [h1, h2, bI, gdl, isb] <;> rfl
  | 3, _ =>
    simp only [f_X4_holdsOf, f_X4_holdsOf_L90, show nI 3 = (3 : Int32) from rfl, eM, Option.bind_some, hB, bI_0]
    by_cases h1 : bdM (n.1 40) (2 * t + 1) ≤ vS (n.1 41) T way t <;> simp [h1, bI, gdl, isb] <;> rfl
  | 4, _ =>
    simp only [f_X4_holdsOf, f_X4_holdsOf_L123, f_X4_holdsOf_L124, show nI 4 = (4 : Int32) from rfl, eV, e_half n ht, e_isBetween n ht, Option.bind_some, hB, Bool.and_eq_true, decide_eq_true_eq, bI_0]
    by_cases h1 : vS (n.1 41) T way t = (bdM (n.1 40) (2 * t) + bdM (n.1 40) (2 * t + 1)) / 2
    · rw [← h1]
      by_cases h2 : bdM (n.1 40) (2 * t) < vS (n.1 41) T way t ∧ vS (n.1 41) T way t < bdM (n.1 40) (2 * t + 1) <;> simp [h2, bI, gdl, isb] <;> rfl
    · simp [h1, bI, gdl, isb] <;> rfl
  | 5, _ =>
    obtain ⟨rfl, ho4⟩ := ho (Or.inr rfl)
    have eO := e_isLittle N hN n hT eT hw ho4
    simp only [f_X4_holdsOf, f_X4_holdsOf_L149, f_X4_holdsOf_L150, show nI 5 = (5 : Int32) from rfl, eM, eO, Option.bind_some, hB, Bool.and_eq_true, decide_eq_true_eq, bI_0]
    by_cases h1 : bdM (n.1 40) (2 * t + 1) ≤ vS (n.1 41) T way t <;> by_cases h2 : vS (n.1 41) T way o ≤ bdM (n.1 40) (2 * o) <;> simp [h1, h2, bI, gdl, isb] <;> rfl
  | k + 6, h => exact absurd h (by omega)
theorem e_sumX (n : xN) {T way w : Nat} (hT : T ≤ 6) (hw : way < 2 ^ T) (ht : w < 5) : f_X0_sumOf_7 (nI way) (nI w) n = some (n.1 9 (5 * way + w)) := by
  unfold f_X0_sumOf_7
  have : 2 ^ T ≤ 2 ^ 6 := Nat.pow_le_pow_right (by decide) hT
  rw [show (5 : Int32) = nI 5 from rfl, pk_mul, nI_add, Nat.mul_comm, gdl_nI (by omega) (by omega), gdl0, nI_clamp (by omega)]
theorem e_valX (n : xN) {T way w : Nat} (hT : T ≤ 6) (hw : way < 2 ^ T) (ht : w < 5) (hs : n.1 9 (5 * way + w) = sumS (n.1 41) way w T) : f_X0_valueOf_7 (nI way) (nI w) n = some (vS (n.1 41) T way w) := by
  unfold f_X0_valueOf_7
  rw [e_sumX n hT hw ht, Option.bind_some, hs]
  rfl
theorem e_isTraitX (a : Int32) : f_X3_isTrait a = some (bI (0 ≤ a.toInt ∧ a.toInt < 4)) := by
  unfold f_X3_isTrait f_X3_isTrait_L13 f_X3_isTrait_L14
  have z4 : (4 : Int32).toInt = 4 := rfl
  simp only [i32_lt, i32_le, z0, z4]
  by_cases h1 : a.toInt < 0
  · rw [if_pos h1, bI_f (by omega)]; rfl
  · rw [if_neg h1]
    by_cases h2 : 4 ≤ a.toInt
    · rw [if_pos h2, bI_f (by omega)]; rfl
    · rw [if_neg h2, bI_t (by omega)]; rfl
/-- the other trait of a clause: its own, or the next one -/
def sec (ot : Int32) (t o : Nat) : Prop := (ot = nI o ∧ o < 4) ∨ (ot = -9 ∧ o = (t + 1) % 4)
theorem sec_lt {ot : Int32} {t o : Nat} (h : sec ot t o) : o < 4 := by
  rcases h with h | h
  · exact h.2
  · omega
theorem e_secondOf (n : xN) {k t o : Nat} (hk : k < 8) (et : n.1 11 k = nI t) (ht : t < 4) (ho : sec (n.1 12 k) t o) : f_X0_secondOf_7 (nI k) n = some (nI o) := by
  unfold f_X0_secondOf_7 f_X0_secondOf_7_L31
  rw [gdl_nI (by omega) hk, gdl_nI (by omega) hk, gdl_nI (by omega) hk, gdl0, gdl0, nI_clamp (by omega), e_isTraitX, Option.bind_some, gdlT (by decide), gdl0]
  rcases ho with ⟨h1, h2⟩ | ⟨h1, h2⟩
  · rw [h1, bI_t (by rw [nI_toInt (by omega)]; omega), if_neg (by decide)]
  · rw [h1, bI_f (by decide), if_pos rfl, et, nI_1, show (4 : Int32) = nI 4 from rfl, pk_rem (by omega) (by decide) (by decide), h2]
theorem e_secM20 (n : xN) {T way k t o : Nat} (hT : T ≤ 6) (hw : way < 2 ^ T) (hk : k < 8) (et : n.1 11 k = nI t) (ht : t < 4) (ho : sec (n.1 12 k) t o) (hs : ∀ w, w < 5 → n.1 9 (5 * way + w) = sumS (n.1 41) way w T) : f_X0_isSecondMuch_7_20 (nI k) (nI way) n = some (bI (n.1 20 (2 * o + 1) ≤ vS (n.1 41) T way o)) := by
  have h4 := sec_lt ho
  unfold f_X0_isSecondMuch_7_20 f_X0_isSecondMuch_7_20_L30
  rw [e_secondOf n hk et ht ho, Option.bind_some, e_valX n hT hw (show o < 5 by omega) (hs o (by omega)), Option.bind_some, show (2 : Int32) = nI 2 from rfl, show (1 : Int32) = nI 1 from rfl, pk_mul, nI_add, gdl_nI (by omega) (by omega), gdl0, nI_clamp (by omega)]
  by_cases h : vS (n.1 41) T way o < n.1 20 (2 * o + 1)
  · rw [if_pos h, bI_f (fun q => (nle_lt _ _).mpr h q)]; rfl
  · rw [if_neg h, bI_t ((nlt_le _ _).mp h)]; rfl
theorem e_secL20 (n : xN) {T way k t o : Nat} (hT : T ≤ 6) (hw : way < 2 ^ T) (hk : k < 8) (et : n.1 11 k = nI t) (ht : t < 4) (ho : sec (n.1 12 k) t o) (hs : ∀ w, w < 5 → n.1 9 (5 * way + w) = sumS (n.1 41) way w T) : f_X0_isSecondLittle_7_20 (nI k) (nI way) n = some (bI (vS (n.1 41) T way o ≤ n.1 20 (2 * o))) := by
  have h4 := sec_lt ho
  unfold f_X0_isSecondLittle_7_20 f_X0_isSecondLittle_7_20_L28
  rw [e_secondOf n hk et ht ho, Option.bind_some, e_valX n hT hw (show o < 5 by omega) (hs o (by omega)), Option.bind_some, show (2 : Int32) = nI 2 from rfl, pk_mul, gdl_nI (by omega) (by omega), gdl0, nI_clamp (by omega)]
  by_cases h : n.1 20 (2 * o) < vS (n.1 41) T way o
  · rw [if_pos h, bI_f (fun q => (nle_lt _ _).mpr h q)]; rfl
  · rw [if_neg h, bI_t ((nlt_le _ _).mp h)]; rfl
set_option maxHeartbeats 1000000 in
theorem e_heldAs20 (n : xN) {T way k a t o : Nat} (hT : T ≤ 6) (hw : way < 2 ^ T) (ha : a ≤ 5) (hk : k < 8) (et : n.1 11 k = nI t) (ht : t < 4) (ho : sec (n.1 12 k) t o) (hs : ∀ w, w < 5 → n.1 9 (5 * way + w) = sumS (n.1 41) way w T) : f_X0_isHeldAs_7_20 (nI a) (nI k) (nI way) n = some (bI (hB (n.1 20) (vS (n.1 41) T way) a t o = true)) := by
  have eM := e_secM20 n hT hw hk et ht ho hs
  have eL := e_secL20 n hT hw hk et ht ho hs
  unfold f_X0_isHeldAs_7_20
  rw [gdl_nI (by omega) hk, gdl0, nI_clamp (by omega), et, e_valX n hT hw (show t < 5 by omega) (hs t (by omega)), Option.bind_some, show (2 : Int32) * nI t = nI (2 * t) from pk_mul 2 t, nI_1, gdl_nI (by omega) (by omega), gdl_nI (by omega) (by omega), gdl0, nI_clamp (by omega), nI_clamp (by omega)]
  unfold f_X0_isHeldAs_7_20_L49 f_X0_isHeldAs_7_20_L69
  generalize vS (n.1 41) T way = v at *
  generalize n.1 20 = bd at *
  have hlt : ∀ x y : Int32, (x < y) = ¬ (y ≤ x) := fun x y => by rw [nle_lt]
  match a, ha with
  | 0, _ =>
    simp only [f_X0_isHeldAs_7_20_L70, show nI 0 = (0 : Int32) from rfl, z0, hB, decide_eq_true_eq]
    by_cases h1 : bd (2 * t + 1) ≤ v t <;> simp [hlt, h1, bI, gdl, isb] <;> rfl
  | 1, _ =>
    simp only [f_X0_isHeldAs_7_20_L70, show nI 1 = (1 : Int32) from rfl, z1, hB, Bool.and_eq_true, decide_eq_true_eq]
    by_cases h1 : bd (2 * t + 1) ≤ v t <;> by_cases h2 : v t ≤ bd (2 * t) <;> simp [hlt, h1, h2, bI, gdl, isb] <;> rfl
  | 2, _ =>
    simp only [f_X0_isHeldAs_7_20_L70, f_X0_isHeldAs_7_20_L134, f_X0_isHeldAs_7_20_L135, show nI 2 = (2 : Int32) from rfl, eM, Option.bind_some, hB, Bool.and_eq_true, decide_eq_true_eq, bI_0]
    by_cases h1 : bd (2 * t + 1) ≤ v t <;> by_cases h2 : v t ≤ bd (2 * t) <;> by_cases h3 : bd (2 * o + 1) ≤ v o <;> simp [hlt, h1, h2, h3, bI, gdl, isb] <;> rfl
  | 3, _ =>
    simp only [f_X0_isHeldAs_7_20_L70, f_X0_isHeldAs_7_20_L146, show nI 3 = (3 : Int32) from rfl, hB]
    by_cases h1 : bd (2 * t + 1) ≤ v t <;> by_cases h2 : v t ≤ bd (2 * t) <;> simp [hlt, h1, h2, bI, gdl, isb] <;> rfl
  | 4, _ =>
    simp only [f_X0_isHeldAs_7_20_L70, f_X0_isHeldAs_7_20_L168, f_X0_isHeldAs_7_20_L169, show nI 4 = (4 : Int32) from rfl, hB, Bool.and_eq_true, decide_eq_true_eq]
    generalize (bd (2 * t) + bd (2 * t + 1)) / 2 = hf
    by_cases h1 : bd (2 * t + 1) ≤ v t <;> by_cases h2 : v t ≤ bd (2 * t) <;> by_cases h3 : v t = hf <;> (first | have h4 := eq_true h3 | have h4 := eq_false h3) <;> clear h3 <;> simp [hlt, h1, h2, h4, bI, gdl, isb, nzi] <;> (first | rfl | (split <;> rfl))
  | 5, _ =>
    simp only [f_X0_isHeldAs_7_20_L70, f_X0_isHeldAs_7_20_L190, f_X0_isHeldAs_7_20_L191, show nI 5 = (5 : Int32) from rfl, eL, Option.bind_some, hB, Bool.and_eq_true, decide_eq_true_eq, bI_0]
    by_cases h1 : bd (2 * t + 1) ≤ v t <;> by_cases h2 : v t ≤ bd (2 * t) <;> by_cases h3 : v o ≤ bd (2 * o) <;> simp [hlt, h1, h2, h3, bI, gdl, isb] <;> rfl
  | k + 6, h => exact absurd h (by omega)
theorem e_secM37 (n : xN) {T way k t o : Nat} (hT : T ≤ 6) (hw : way < 2 ^ T) (hk : k < 8) (et : n.1 11 k = nI t) (ht : t < 4) (ho : sec (n.1 12 k) t o) (hs : ∀ w, w < 5 → n.1 9 (5 * way + w) = sumS (n.1 41) way w T) : f_X0_isSecondMuch_7_37 (nI k) (nI way) n = some (bI (n.1 37 (2 * o + 1) ≤ vS (n.1 41) T way o)) := by
  have h4 := sec_lt ho
  unfold f_X0_isSecondMuch_7_37 f_X0_isSecondMuch_7_37_L30
  rw [e_secondOf n hk et ht ho, Option.bind_some, e_valX n hT hw (show o < 5 by omega) (hs o (by omega)), Option.bind_some, show (2 : Int32) = nI 2 from rfl, show (1 : Int32) = nI 1 from rfl, pk_mul, nI_add, gdl_nI (by omega) (by omega), gdl0, nI_clamp (by omega)]
  by_cases h : vS (n.1 41) T way o < n.1 37 (2 * o + 1)
  · rw [if_pos h, bI_f (fun q => (nle_lt _ _).mpr h q)]; rfl
  · rw [if_neg h, bI_t ((nlt_le _ _).mp h)]; rfl
theorem e_secL37 (n : xN) {T way k t o : Nat} (hT : T ≤ 6) (hw : way < 2 ^ T) (hk : k < 8) (et : n.1 11 k = nI t) (ht : t < 4) (ho : sec (n.1 12 k) t o) (hs : ∀ w, w < 5 → n.1 9 (5 * way + w) = sumS (n.1 41) way w T) : f_X0_isSecondLittle_7_37 (nI k) (nI way) n = some (bI (vS (n.1 41) T way o ≤ n.1 37 (2 * o))) := by
  have h4 := sec_lt ho
  unfold f_X0_isSecondLittle_7_37 f_X0_isSecondLittle_7_37_L28
  rw [e_secondOf n hk et ht ho, Option.bind_some, e_valX n hT hw (show o < 5 by omega) (hs o (by omega)), Option.bind_some, show (2 : Int32) = nI 2 from rfl, pk_mul, gdl_nI (by omega) (by omega), gdl0, nI_clamp (by omega)]
  by_cases h : n.1 37 (2 * o) < vS (n.1 41) T way o
  · rw [if_pos h, bI_f (fun q => (nle_lt _ _).mpr h q)]; rfl
  · rw [if_neg h, bI_t ((nlt_le _ _).mp h)]; rfl
set_option maxHeartbeats 1000000 in
theorem e_heldAs37 (n : xN) {T way k a t o : Nat} (hT : T ≤ 6) (hw : way < 2 ^ T) (ha : a ≤ 5) (hk : k < 8) (et : n.1 11 k = nI t) (ht : t < 4) (ho : sec (n.1 12 k) t o) (hs : ∀ w, w < 5 → n.1 9 (5 * way + w) = sumS (n.1 41) way w T) : f_X0_isHeldAs_7_37 (nI a) (nI k) (nI way) n = some (bI (hB (n.1 37) (vS (n.1 41) T way) a t o = true)) := by
  have eM := e_secM37 n hT hw hk et ht ho hs
  have eL := e_secL37 n hT hw hk et ht ho hs
  unfold f_X0_isHeldAs_7_37
  rw [gdl_nI (by omega) hk, gdl0, nI_clamp (by omega), et, e_valX n hT hw (show t < 5 by omega) (hs t (by omega)), Option.bind_some, show (2 : Int32) * nI t = nI (2 * t) from pk_mul 2 t, nI_1, gdl_nI (by omega) (by omega), gdl_nI (by omega) (by omega), gdl0, nI_clamp (by omega), nI_clamp (by omega)]
  unfold f_X0_isHeldAs_7_37_L49 f_X0_isHeldAs_7_37_L69
  generalize vS (n.1 41) T way = v at *
  generalize n.1 37 = bd at *
  have hlt : ∀ x y : Int32, (x < y) = ¬ (y ≤ x) := fun x y => by rw [nle_lt]
  match a, ha with
  | 0, _ =>
    simp only [f_X0_isHeldAs_7_37_L70, show nI 0 = (0 : Int32) from rfl, z0, hB, decide_eq_true_eq]
    by_cases h1 : bd (2 * t + 1) ≤ v t <;> simp [hlt, h1, bI, gdl, isb] <;> rfl
  | 1, _ =>
    simp only [f_X0_isHeldAs_7_37_L70, show nI 1 = (1 : Int32) from rfl, z1, hB, Bool.and_eq_true, decide_eq_true_eq]
    by_cases h1 : bd (2 * t + 1) ≤ v t <;> by_cases h2 : v t ≤ bd (2 * t) <;> simp [hlt, h1, h2, bI, gdl, isb] <;> rfl
  | 2, _ =>
    simp only [f_X0_isHeldAs_7_37_L70, f_X0_isHeldAs_7_37_L134, f_X0_isHeldAs_7_37_L135, show nI 2 = (2 : Int32) from rfl, eM, Option.bind_some, hB, Bool.and_eq_true, decide_eq_true_eq, bI_0]
    by_cases h1 : bd (2 * t + 1) ≤ v t <;> by_cases h2 : v t ≤ bd (2 * t) <;> by_cases h3 : bd (2 * o + 1) ≤ v o <;> simp [hlt, h1, h2, h3, bI, gdl, isb] <;> rfl
  | 3, _ =>
    simp only [f_X0_isHeldAs_7_37_L70, f_X0_isHeldAs_7_37_L146, show nI 3 = (3 : Int32) from rfl, hB]
    by_cases h1 : bd (2 * t + 1) ≤ v t <;> by_cases h2 : v t ≤ bd (2 * t) <;> simp [hlt, h1, h2, bI, gdl, isb] <;> rfl
  | 4, _ =>
    simp only [f_X0_isHeldAs_7_37_L70, f_X0_isHeldAs_7_37_L168, f_X0_isHeldAs_7_37_L169, show nI 4 = (4 : Int32) from rfl, hB, Bool.and_eq_true, decide_eq_true_eq]
    generalize (bd (2 * t) + bd (2 * t + 1)) / 2 = hf
    by_cases h1 : bd (2 * t + 1) ≤ v t <;> by_cases h2 : v t ≤ bd (2 * t) <;> by_cases h3 : v t = hf <;> (first | have h4 := eq_true h3 | have h4 := eq_false h3) <;> clear h3 <;> simp [hlt, h1, h2, h4, bI, gdl, isb, nzi] <;> (first | rfl | (split <;> rfl))
  | 5, _ =>
    simp only [f_X0_isHeldAs_7_37_L70, f_X0_isHeldAs_7_37_L190, f_X0_isHeldAs_7_37_L191, show nI 5 = (5 : Int32) from rfl, eL, Option.bind_some, hB, Bool.and_eq_true, decide_eq_true_eq, bI_0]
    by_cases h1 : bd (2 * t + 1) ≤ v t <;> by_cases h2 : v t ≤ bd (2 * t) <;> by_cases h3 : v o ≤ bd (2 * o) <;> simp [hlt, h1, h2, h3, bI, gdl, isb] <;> rfl
  | k + 6, h => exact absurd h (by omega)
