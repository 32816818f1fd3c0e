/-! ===== rows and texts ===== -/
theorem e_refuse1 (n : xN) : f_X3_refuse 1 n = some (-3, cF n 1) := e_refuse n (f := 1) (by decide)
theorem e_find1 (n : xN) : f_X4_find 1 n = some (-3, mF n 1) := e_find n (f := 1) (by decide)
theorem e_refuse2 (n : xN) : f_X3_refuse 2 n = some (-3, cF n 2) := e_refuse n (f := 2) (by decide)
theorem e_find2 (n : xN) : f_X4_find 2 n = some (-3, mF n 2) := e_find n (f := 2) (by decide)
theorem e_refuse3 (n : xN) : f_X3_refuse 3 n = some (-3, cF n 3) := e_refuse n (f := 3) (by decide)
theorem e_find3 (n : xN) : f_X4_find 3 n = some (-3, mF n 3) := e_find n (f := 3) (by decide)
theorem e_refuse4 (n : xN) : f_X3_refuse 4 n = some (-3, cF n 4) := e_refuse n (f := 4) (by decide)
theorem e_find4 (n : xN) : f_X4_find 4 n = some (-3, mF n 4) := e_find n (f := 4) (by decide)
theorem e_refuse5 (n : xN) : f_X3_refuse 5 n = some (-3, cF n 5) := e_refuse n (f := 5) (by decide)
theorem e_find5 (n : xN) : f_X4_find 5 n = some (-3, mF n 5) := e_find n (f := 5) (by decide)

theorem e_isPlace1 (n : xN) (h : n.1 1 0 = 6) (a : Int32) : f_X1_isPlace_1 a n = some (bI (0 ≤ a.toInt ∧ a.toInt < 6)) := by
  unfold f_X1_isPlace_1 f_X1_isPlace_1_L16 f_X1_isPlace_1_L17
  rw [h]
  have z0 : (0 : Int32).toInt = 0 := rfl
  have zK : (6 : Int32).toInt = 6 := rfl
  simp only [i32_lt, i32_le, z0, zK]
  by_cases h1 : a.toInt < 0
  · rw [if_pos h1, bI_f (by omega)]; rfl
  · rw [if_neg h1]
    by_cases h2 : 6 ≤ a.toInt
    · rw [if_pos h2, bI_f (by omega)]; rfl
    · rw [if_neg h2, bI_t (by omega)]; rfl
theorem e_isThere1 (n : xN) {r : Nat} (hr : r < 6) : f_X1_isThere_1 (nI r) n = some (bI (0 ≤ (n.1 3 r).toInt)) := by
  unfold f_X1_isThere_1 f_X1_isThere_1_L14
  rw [gdl_nI (by omega) hr, gdl0, nI_clamp (by omega)]
  have z0 : (0 : Int32).toInt = 0 := rfl
  simp only [i32_lt, z0]
  by_cases h1 : (n.1 3 r).toInt < 0
  · rw [if_pos h1, bI_f (by omega)]; rfl
  · rw [if_neg h1, bI_t (by omega)]; rfl
theorem e_rp1_bad (n : xN) (h : n.1 1 0 = 6) {a : Int32} (ha : ¬ (0 ≤ a.toInt ∧ a.toInt < 6)) : f_X3_refusedPlace_1 a n = some (-1, n) := by
  simp [f_X3_refusedPlace_1, e_isPlace1 n h, bI_f ha]
theorem e_rp1_no (n : xN) (h : n.1 1 0 = 6) {r : Nat} (hr : r < 6) (hs : ¬ 0 ≤ (n.1 3 r).toInt) : f_X3_refusedPlace_1 (nI r) n = some (-3, cF n 1) := by
  have ha : 0 ≤ (nI r).toInt ∧ (nI r).toInt < 6 := by rw [nI_toInt (by omega)]; omega
  simp [f_X3_refusedPlace_1, f_X3_refusedPlace_1_L27, e_isPlace1 n h, bI_t ha, e_isThere1 n hr, bI_f hs, e_refuse1]
theorem e_rp1_ok (n : xN) (h : n.1 1 0 = 6) {r : Nat} (hr : r < 6) (hs : 0 ≤ (n.1 3 r).toInt) : f_X3_refusedPlace_1 (nI r) n = some (0, n) := by
  have ha : 0 ≤ (nI r).toInt ∧ (nI r).toInt < 6 := by rw [nI_toInt (by omega)]; omega
  simp [f_X3_refusedPlace_1, f_X3_refusedPlace_1_L27, e_isPlace1 n h, bI_t ha, e_isThere1 n hr, bI_t hs]
theorem e_has1 (n : xN) {r : Nat} (hr : r < 6) (i c : Int32) (hs : -1 ≤ (n.1 3 r).toInt ∧ (n.1 3 r).toInt ≤ 40) : f_X1_hasStretch_1 (nI r) i c n = some (bI (0 ≤ i.toInt ∧ 0 ≤ c.toInt ∧ i.toInt + c.toInt ≤ (n.1 3 r).toInt)) := by
  unfold f_X1_hasStretch_1 f_X1_hasStretch_1_L34 f_X1_hasStretch_1_L35
  rw [gdl_nI (by omega) hr, gdl_nI (by omega) hr, gdl0, gdl0, nI_clamp (by omega)]
  have z0 : (0 : Int32).toInt = 0 := rfl
  simp only [i32_lt, z0]
  by_cases h1 : i.toInt < 0
  · rw [if_pos h1, bI_f (by omega)]; rfl
  · rw [if_neg h1]
    by_cases h2 : c.toInt < 0
    · rw [if_pos h2, bI_f (by omega)]; rfl
    · rw [if_neg h2]
      by_cases h3 : (n.1 3 r).toInt < c.toInt
      · rw [if_pos h3, bI_f (by omega)]; rfl
      · rw [if_neg h3, i32_sub (by omega) (by omega)]
        by_cases h4 : (n.1 3 r).toInt - c.toInt < i.toInt
        · rw [if_pos h4, bI_f (by omega)]; rfl
        · rw [if_neg h4, bI_t (by omega)]; rfl
theorem e_rc1_bad (n : xN) (h : n.1 1 0 = 6) {a : Int32} (ha : ¬ (0 ≤ a.toInt ∧ a.toInt < 6)) (i : Int32) : f_X3_refusedCell_1 a i n = some (-1, n) := by
  simp [f_X3_refusedCell_1, e_rp1_bad n h ha]
theorem e_rc1_no (n : xN) (h : n.1 1 0 = 6) {r : Nat} (hr : r < 6) (hs : ¬ 0 ≤ (n.1 3 r).toInt) (i : Int32) : f_X3_refusedCell_1 (nI r) i n = some (-3, cF n 1) := by
  simp [f_X3_refusedCell_1, e_rp1_no n h hr hs]
theorem e_rc1_be (n : xN) (h : n.1 1 0 = 6) {r : Nat} (hr : r < 6) (hs : 0 ≤ (n.1 3 r).toInt) (hw : (n.1 3 r).toInt ≤ 40) {i : Int32} (hi : ¬ (0 ≤ i.toInt ∧ i.toInt < (n.1 3 r).toInt)) : f_X3_refusedCell_1 (nI r) i n = some (-3, cF n 2) := by
  have z1 : (1 : Int32).toInt = 1 := rfl
  have e := e_has1 n hr i 1 ⟨by omega, hw⟩
  rw [bI_f (by rw [z1]; omega)] at e
  simp [f_X3_refusedCell_1, f_X3_refusedCell_1_L35, e_rp1_ok n h hr hs, e, e_refuse2]
theorem e_rc1_ok (n : xN) (h : n.1 1 0 = 6) {r : Nat} (hr : r < 6) (hs : 0 ≤ (n.1 3 r).toInt) (hw : (n.1 3 r).toInt ≤ 40) {i : Int32} (hi : 0 ≤ i.toInt ∧ i.toInt < (n.1 3 r).toInt) : f_X3_refusedCell_1 (nI r) i n = some (0, n) := by
  have z1 : (1 : Int32).toInt = 1 := rfl
  have e := e_has1 n hr i 1 ⟨by omega, hw⟩
  rw [bI_t (by rw [z1]; omega)] at e
  simp [f_X3_refusedCell_1, f_X3_refusedCell_1_L35, e_rp1_ok n h hr hs, e]
theorem e_ix1 {r i : Nat} (hr : r < 6) (hi : i < 40) : nI r * (40 : Int32) + nI i = nI (40 * r + i) ∧ (40 : Int32) * nI r + nI i = nI (40 * r + i) := by
  have z : (40 : Int32) = nI 40 := rfl
  rw [z, pk_mul, pk_mul, nI_add, nI_add, Nat.mul_comm]
  exact ⟨rfl, rfl⟩
theorem e_cell1 (n : xN) (h : n.1 1 1 = 40) {r i : Nat} (hr : r < 6) (hi : i < 40) : f_X1_cellOf_1 (nI r) (nI i) n = some (n.1 2 (40 * r + i)) := by
  unfold f_X1_cellOf_1
  rw [h, (e_ix1 hr hi).1, gdl_nI (by omega) (by omega), gdl0, nI_clamp (by omega)]
theorem e_setc1 (n : xN) (h : n.1 1 1 = 40) {r i : Nat} (hr : r < 6) (hi : i < 40) (v : Int32) : f_X1_setCell_1 (nI r) (nI i) v n = some (mI n 2 (40 * r + i) v) := by
  unfold f_X1_setCell_1
  rw [h, (e_ix1 hr hi).1, gdl_nI (by omega) (by omega), gdl0, nI_clamp (by omega)]
theorem e_size1 (n : xN) {r : Nat} (hr : r < 6) : f_X1_sizeOf_1 (nI r) n = some (n.1 3 r) := by
  unfold f_X1_sizeOf_1
  rw [gdl_nI (by omega) hr, gdl0, nI_clamp (by omega)]
theorem e_fill2 (N : Nat) (n : xN) {lo hi : Nat} (h1 : lo ≤ hi) (h2 : hi ≤ 240) (hN : 240 < N) (v : Int32) : f_J7_fill_fda19_2 N (nI lo) (nI hi) v n = some (fillF n 2 lo hi v) := by
  unfold f_J7_fill_fda19_2 f_J7_rangeCheck_23922
  have zA : (240 : Int32) = nI 240 := rfl
  have z0 : (0 : Int32) = nI 0 := rfl
  rw [zA, z0, if_pos (by rw [nI_leI (by omega) (by omega)]; omega), if_pos (by rw [nI_leI (by omega) (by omega)]; omega), if_pos (by rw [nI_leI (by omega) (by omega)]; omega), Option.bind_some]
  have key := eq_for (rc := fun k i s => f_J7_fill_fda19_2_L10 N k (nI hi) v i s) (body := fun k i s => f_J7_fill_fda19_2_L10b N (fun a b c d => k c d) (nI hi) v i s) (fun _ _ _ => rfl) lo hi (fun i => fillF n 2 lo i v) (some (fillF n 2 lo hi v)) ?_ ?_ N lo (Nat.le_refl _) h1 (by omega)
  · rw [fillF_0] at key; exact key
  · intro k i hl hi
    try dsimp only
    unfold f_J7_fill_fda19_2_L10b
    rw [if_neg (by rw [nI_leI (by omega) (by omega)]; omega), gdl_nI (by omega) (by omega), gdl0, nI_clamp (by omega), nI_1, fillF_s _ _ _ _ _ hl]
  · intro k
    try dsimp only
    unfold f_J7_fill_fda19_2_L10b
    rw [if_pos (by rw [nI_leI (by omega) (by omega)]; omega)]

theorem e_isPlace4 (n : xN) (h : n.1 4 0 = 4) (a : Int32) : f_X1_isPlace_4 a n = some (bI (0 ≤ a.toInt ∧ a.toInt < 4)) := by
  unfold f_X1_isPlace_4 f_X1_isPlace_4_L16 f_X1_isPlace_4_L17
  rw [h]
  have z0 : (0 : Int32).toInt = 0 := rfl
  have zK : (4 : Int32).toInt = 4 := rfl
  simp only [i32_lt, i32_le, z0, zK]
  by_cases h1 : a.toInt < 0
  · rw [if_pos h1, bI_f (by omega)]; rfl
  · rw [if_neg h1]
    by_cases h2 : 4 ≤ a.toInt
    · rw [if_pos h2, bI_f (by omega)]; rfl
    · rw [if_neg h2, bI_t (by omega)]; rfl
theorem e_isThere4 (n : xN) {r : Nat} (hr : r < 4) : f_X1_isThere_4 (nI r) n = some (bI (0 ≤ (n.1 6 r).toInt)) := by
  unfold f_X1_isThere_4 f_X1_isThere_4_L14
  rw [gdl_nI (by omega) hr, gdl0, nI_clamp (by omega)]
  have z0 : (0 : Int32).toInt = 0 := rfl
  simp only [i32_lt, z0]
  by_cases h1 : (n.1 6 r).toInt < 0
  · rw [if_pos h1, bI_f (by omega)]; rfl
  · rw [if_neg h1, bI_t (by omega)]; rfl
theorem e_rp4_bad (n : xN) (h : n.1 4 0 = 4) {a : Int32} (ha : ¬ (0 ≤ a.toInt ∧ a.toInt < 4)) : f_X3_refusedPlace_4 a n = some (-1, n) := by
  simp [f_X3_refusedPlace_4, e_isPlace4 n h, bI_f ha]
theorem e_rp4_no (n : xN) (h : n.1 4 0 = 4) {r : Nat} (hr : r < 4) (hs : ¬ 0 ≤ (n.1 6 r).toInt) : f_X3_refusedPlace_4 (nI r) n = some (-3, cF n 1) := by
  have ha : 0 ≤ (nI r).toInt ∧ (nI r).toInt < 4 := by rw [nI_toInt (by omega)]; omega
  simp [f_X3_refusedPlace_4, f_X3_refusedPlace_4_L27, e_isPlace4 n h, bI_t ha, e_isThere4 n hr, bI_f hs, e_refuse1]
theorem e_rp4_ok (n : xN) (h : n.1 4 0 = 4) {r : Nat} (hr : r < 4) (hs : 0 ≤ (n.1 6 r).toInt) : f_X3_refusedPlace_4 (nI r) n = some (0, n) := by
  have ha : 0 ≤ (nI r).toInt ∧ (nI r).toInt < 4 := by rw [nI_toInt (by omega)]; omega
  simp [f_X3_refusedPlace_4, f_X3_refusedPlace_4_L27, e_isPlace4 n h, bI_t ha, e_isThere4 n hr, bI_t hs]
theorem e_has4 (n : xN) {r : Nat} (hr : r < 4) (i c : Int32) (hs : -1 ≤ (n.1 6 r).toInt ∧ (n.1 6 r).toInt ≤ 80) : f_X1_hasStretch_4 (nI r) i c n = some (bI (0 ≤ i.toInt ∧ 0 ≤ c.toInt ∧ i.toInt + c.toInt ≤ (n.1 6 r).toInt)) := by
  unfold f_X1_hasStretch_4 f_X1_hasStretch_4_L34 f_X1_hasStretch_4_L35
  rw [gdl_nI (by omega) hr, gdl_nI (by omega) hr, gdl0, gdl0, nI_clamp (by omega)]
  have z0 : (0 : Int32).toInt = 0 := rfl
  simp only [i32_lt, z0]
  by_cases h1 : i.toInt < 0
  · rw [if_pos h1, bI_f (by omega)]; rfl
  · rw [if_neg h1]
    by_cases h2 : c.toInt < 0
    · rw [if_pos h2, bI_f (by omega)]; rfl
    · rw [if_neg h2]
      by_cases h3 : (n.1 6 r).toInt < c.toInt
      · rw [if_pos h3, bI_f (by omega)]; rfl
      · rw [if_neg h3, i32_sub (by omega) (by omega)]
        by_cases h4 : (n.1 6 r).toInt - c.toInt < i.toInt
        · rw [if_pos h4, bI_f (by omega)]; rfl
        · rw [if_neg h4, bI_t (by omega)]; rfl
theorem e_rc4_bad (n : xN) (h : n.1 4 0 = 4) {a : Int32} (ha : ¬ (0 ≤ a.toInt ∧ a.toInt < 4)) (i : Int32) : f_X3_refusedCell_4 a i n = some (-1, n) := by
  simp [f_X3_refusedCell_4, e_rp4_bad n h ha]
theorem e_rc4_no (n : xN) (h : n.1 4 0 = 4) {r : Nat} (hr : r < 4) (hs : ¬ 0 ≤ (n.1 6 r).toInt) (i : Int32) : f_X3_refusedCell_4 (nI r) i n = some (-3, cF n 1) := by
  simp [f_X3_refusedCell_4, e_rp4_no n h hr hs]
theorem e_rc4_be (n : xN) (h : n.1 4 0 = 4) {r : Nat} (hr : r < 4) (hs : 0 ≤ (n.1 6 r).toInt) (hw : (n.1 6 r).toInt ≤ 80) {i : Int32} (hi : ¬ (0 ≤ i.toInt ∧ i.toInt < (n.1 6 r).toInt)) : f_X3_refusedCell_4 (nI r) i n = some (-3, cF n 2) := by
  have z1 : (1 : Int32).toInt = 1 := rfl
  have e := e_has4 n hr i 1 ⟨by omega, hw⟩
  rw [bI_f (by rw [z1]; omega)] at e
  simp [f_X3_refusedCell_4, f_X3_refusedCell_4_L35, e_rp4_ok n h hr hs, e, e_refuse2]
theorem e_rc4_ok (n : xN) (h : n.1 4 0 = 4) {r : Nat} (hr : r < 4) (hs : 0 ≤ (n.1 6 r).toInt) (hw : (n.1 6 r).toInt ≤ 80) {i : Int32} (hi : 0 ≤ i.toInt ∧ i.toInt < (n.1 6 r).toInt) : f_X3_refusedCell_4 (nI r) i n = some (0, n) := by
  have z1 : (1 : Int32).toInt = 1 := rfl
  have e := e_has4 n hr i 1 ⟨by omega, hw⟩
  rw [bI_t (by rw [z1]; omega)] at e
  simp [f_X3_refusedCell_4, f_X3_refusedCell_4_L35, e_rp4_ok n h hr hs, e]
theorem e_ix4 {r i : Nat} (hr : r < 4) (hi : i < 80) : nI r * (80 : Int32) + nI i = nI (80 * r + i) ∧ (80 : Int32) * nI r + nI i = nI (80 * r + i) := by
  have z : (80 : Int32) = nI 80 := rfl
  rw [z, pk_mul, pk_mul, nI_add, nI_add, Nat.mul_comm]
  exact ⟨rfl, rfl⟩
theorem e_cell4 (n : xN) (h : n.1 4 1 = 80) {r i : Nat} (hr : r < 4) (hi : i < 80) : f_X1_cellOf_4 (nI r) (nI i) n = some (n.1 5 (80 * r + i)) := by
  unfold f_X1_cellOf_4
  rw [h, (e_ix4 hr hi).1, gdl_nI (by omega) (by omega), gdl0, nI_clamp (by omega)]
theorem e_setc4 (n : xN) (h : n.1 4 1 = 80) {r i : Nat} (hr : r < 4) (hi : i < 80) (v : Int32) : f_X1_setCell_4 (nI r) (nI i) v n = some (mI n 5 (80 * r + i) v) := by
  unfold f_X1_setCell_4
  rw [h, (e_ix4 hr hi).1, gdl_nI (by omega) (by omega), gdl0, nI_clamp (by omega)]
theorem e_size4 (n : xN) {r : Nat} (hr : r < 4) : f_X1_sizeOf_4 (nI r) n = some (n.1 6 r) := by
  unfold f_X1_sizeOf_4
  rw [gdl_nI (by omega) hr, gdl0, nI_clamp (by omega)]
theorem e_fill5 (N : Nat) (n : xN) {lo hi : Nat} (h1 : lo ≤ hi) (h2 : hi ≤ 320) (hN : 320 < N) (v : Int32) : f_J7_fill_fda19_5 N (nI lo) (nI hi) v n = some (fillF n 5 lo hi v) := by
  unfold f_J7_fill_fda19_5 f_J7_rangeCheck_23922
  have zA : (320 : Int32) = nI 320 := rfl
  have z0 : (0 : Int32) = nI 0 := rfl
  rw [zA, z0, if_pos (by rw [nI_leI (by omega) (by omega)]; omega), if_pos (by rw [nI_leI (by omega) (by omega)]; omega), if_pos (by rw [nI_leI (by omega) (by omega)]; omega), Option.bind_some]
  have key := eq_for (rc := fun k i s => f_J7_fill_fda19_5_L10 N k (nI hi) v i s) (body := fun k i s => f_J7_fill_fda19_5_L10b N (fun a b c d => k c d) (nI hi) v i s) (fun _ _ _ => rfl) lo hi (fun i => fillF n 5 lo i v) (some (fillF n 5 lo hi v)) ?_ ?_ N lo (Nat.le_refl _) h1 (by omega)
  · rw [fillF_0] at key; exact key
  · intro k i hl hi
    try dsimp only
    unfold f_J7_fill_fda19_5_L10b
    rw [if_neg (by rw [nI_leI (by omega) (by omega)]; omega), gdl_nI (by omega) (by omega), gdl0, nI_clamp (by omega), nI_1, fillF_s _ _ _ _ _ hl]
  · intro k
    try dsimp only
    unfold f_J7_fill_fda19_5_L10b
    rw [if_pos (by rw [nI_leI (by omega) (by omega)]; omega)]
