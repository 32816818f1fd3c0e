/-! ===== promises 2 to 9: row, lay, at, tear, copy, mean, text, put ===== -/
theorem z0 : (0 : Int32).toInt = 0 := rfl
theorem z1 : (1 : Int32).toInt = 1 := rfl
theorem Op_mk {fx fm : xN → Option (Int32 × xN)} {n n1 n2 : xN} {r r' : Int32} (hx : fx n = some (r, n1)) (hm : fm n1 = some (r', n2)) (hr : r' = r) (hi : Inv n2) : ∃ r n1 n2, fx n = some (r, n1) ∧ fm n1 = some (r, n2) ∧ Inv n2 := ⟨r, n1, n2, hx, by rw [hm, hr], hi⟩
theorem le0 (a : Int32) : (0 : Int32) ≤ a ↔ 0 ≤ a.toInt := by rw [i32_le, z0]
theorem le40 (a : Int32) : a ≤ (40 : Int32) ↔ a.toInt ≤ 40 := by rw [i32_le]; rfl
theorem le80 (a : Int32) : a ≤ (80 : Int32) ↔ a.toInt ≤ 80 := by rw [i32_le]; rfl
theorem e_lie1 (N : Nat) (hN : 400 ≤ N) (n : xN) (h : n.1 1 1 = 40) (h2 : n.1 1 2 = 0) {r k : Nat} (hr : r < 6) (hk : k ≤ 40) : f_X1_lieAnew_1 N (nI r) (nI k) n = some (fillF (mI n 3 r (nI k)) 2 (40 * r) (40 * r + k) 0) := by
  unfold f_X1_lieAnew_1
  rw [gdl_nI (by omega) hr, gdl0, nI_clamp (by omega)]
  simp only [mI1, reduceIte, Nat.reduceEqDiff, h, h2]
  have z : (40 : Int32) = nI 40 := rfl
  rw [z, pk_mul, nI_add, Nat.mul_comm, e_fill2 N _ (by omega) (by omega) (by omega)]
  rfl
theorem e_lie4 (N : Nat) (hN : 400 ≤ N) (n : xN) (h : n.1 4 1 = 80) (h2 : n.1 4 2 = 32) {r k : Nat} (hr : r < 4) (hk : k ≤ 80) : f_X1_lieAnew_4 N (nI r) (nI k) n = some (fillF (mI n 6 r (nI k)) 5 (80 * r) (80 * r + k) 32) := by
  unfold f_X1_lieAnew_4
  rw [gdl_nI (by omega) hr, gdl0, nI_clamp (by omega)]
  simp only [mI1, reduceIte, Nat.reduceEqDiff, h, h2]
  have z : (80 : Int32) = nI 80 := rfl
  rw [z, pk_mul, nI_add, Nat.mul_comm, e_fill5 N _ (by omega) (by omega) (by omega)]
  rfl
theorem e_makeRow (N : Nat) (hN : 400 ≤ N) (n : xN) {r : Nat} (hr : r < 6) (v : Int32) : f_X4_makeRow N (nI r) v n = some (fillF (mI n 45 r v) 46 (40 * r) (40 * r + 40) 0) := by
  unfold f_X4_makeRow
  rw [gdl_nI (by omega) hr, gdl0, nI_clamp (by omega)]
  have key := eq_for (rc := fun k i s => f_X4_makeRow_L9 N k (nI r) i s) (body := fun k i s => f_X4_makeRow_L9b N (fun _ c d => k c d) (nI r) i s) (fun _ _ _ => rfl) 0 40 (fun i => fillF (mI n 45 r v) 46 (40 * r) (40 * r + i) 0) (some (fillF (mI n 45 r v) 46 (40 * r) (40 * r + 40) 0)) ?_ ?_ N 0 (Nat.le_refl _) (by omega) (by omega)
  · rw [show 40 * r + 0 = 40 * r from rfl, fillF_0] at key; exact key
  · intro k i hl hi
    unfold f_X4_makeRow_L9b
    have z : (40 : Int32) = nI 40 := rfl
    rw [z, if_neg (by rw [nI_leI (by omega) (by omega)]; omega), pk_mul, nI_add, gdl_nI (by omega) (by omega), gdl0, nI_clamp (by omega), nI_1, fillF_s _ _ _ _ _ (by omega)]
    rfl
  · intro k
    unfold f_X4_makeRow_L9b
    exact if_pos (by decide)
theorem e_textL (N : Nat) (hN : 400 ≤ N) (n : xN) {r : Nat} (hr : r < 4) (v : Int32) : f_X4_text_L34 N N (nI r) v 0 n = some (v, fillF n 48 (80 * r) (80 * r + 80) 32) := by
  have key := eq_for (rc := fun k i s => f_X4_text_L34 N k (nI r) v i s) (body := fun k i s => f_X4_text_L34b N (fun _ _ c d => k c d) (nI r) v i s) (fun _ _ _ => rfl) 0 80 (fun i => fillF n 48 (80 * r) (80 * r + i) 32) (some (v, fillF n 48 (80 * r) (80 * r + 80) 32)) ?_ ?_ N 0 (Nat.le_refl _) (by omega) (by omega)
  · rw [show 80 * r + 0 = 80 * r from rfl, fillF_0] at key; exact key
  · intro k i hl hi
    unfold f_X4_text_L34b
    have z : (80 : Int32) = nI 80 := rfl
    rw [z, if_neg (by rw [nI_leI (by omega) (by omega)]; omega), pk_mul, nI_add, gdl_nI (by omega) (by omega), gdl0, nI_clamp (by omega), nI_1, fillF_s _ _ _ _ _ (by omega)]
    rfl
  · intro k
    unfold f_X4_text_L34b
    exact if_pos (by decide)
set_option maxHeartbeats 1000000 in
theorem op_row (N : Nat) (hN : 400 ≤ N) (a b : Int32) : Op (f_X3_row N a b) (f_X4_row N a b) := by
  intro n h
  obtain ⟨h1, h2, h3, h4, h5, h6, h7, h8, h9, h10, h11⟩ := id h
  by_cases ha : 0 ≤ a.toInt ∧ a.toInt < 6
  · have ha' : 0 ≤ a.toInt ∧ a.toInt ≤ 5 := by omega
    by_cases hb : b ≤ 40
    · by_cases hb0 : 0 ≤ b
      · obtain ⟨r, hr, rfl⟩ := i32_of ha.1 (k := 6) (by omega)
        obtain ⟨k, hk, rfl⟩ := i32_of ((le0 _).mp hb0) (k := 41) (by have := (le40 _).mp hb; omega)
        have hx : f_X3_row N (nI r) (nI k) n = some (nI k, fillF (mI n 3 r (nI k)) 2 (40 * r) (40 * r + k) 0) := by
          simp [f_X3_row, f_X3_make_1, e_isPlace1 n h1.1, bI_t ha, h1.2.1, hb, hb0, e_lie1 N hN n h1.2.1 h1.2.2.1 hr (show k ≤ 40 by omega)]
        have hm : ∀ m : xN, f_X4_row N (nI r) (nI k) m = some (nI k, fillF (mI m 45 r (nI k)) 46 (40 * r) (40 * r + 40) 0) := by
          intro m
          simp [f_X4_row, e_isRow, bI_t ha', hb, hb0, e_makeRow N hN _ hr]
        refine ⟨_, _, _, hx, hm _, ?_⟩
        unfold Inv cOf at *
        simp only [fillF1, fillF2, mI1, mI2, reduceIte, Nat.reduceEqDiff] at *
        exact ⟨h1, I_row_new (Or.inl rfl) h2 hr (by omega) 0, h3, h4, h5, h6, h7, h8, h9, h10, h11⟩
      · exact ⟨-3, cF n 5, mF (cF n 5) 5, by simp [f_X3_row, f_X3_make_1, e_isPlace1 n h1.1, bI_t ha, h1.2.1, hb, hb0, e_refuse5], by simp [f_X4_row, e_isRow, bI_t ha', hb, hb0, e_find5], Inv_F (by decide) h⟩
    · exact ⟨-1, n, n, by simp [f_X3_row, f_X3_make_1, f_X3_make_1_L16, e_isPlace1 n h1.1, bI_t ha, h1.2.1, hb], by simp [f_X4_row, f_X4_row_L13, e_isRow, bI_t ha', hb], h⟩
  · have ha' : ¬ (0 ≤ a.toInt ∧ a.toInt ≤ 5) := by omega
    exact ⟨-1, n, n, by simp [f_X3_row, f_X3_make_1, f_X3_make_1_L16, e_isPlace1 n h1.1, bI_f ha], by simp [f_X4_row, f_X4_row_L13, e_isRow, bI_f ha'], h⟩
set_option maxHeartbeats 1000000 in
theorem op_text (N : Nat) (hN : 400 ≤ N) (a b : Int32) : Op (f_X3_text N a b) (f_X4_text N a b) := by
  intro n h
  obtain ⟨h1, h2, h3, h4, h5, h6, h7, h8, h9, h10, h11⟩ := id h
  obtain ⟨c1, c2, c3, c4, c5, c6⟩ := h1
  by_cases ha : 0 ≤ a.toInt ∧ a.toInt < 4
  · have ha' : 0 ≤ a.toInt ∧ a.toInt ≤ 3 := by omega
    by_cases hb : b ≤ 80
    · by_cases hb0 : 0 ≤ b
      · obtain ⟨r, hr, rfl⟩ := i32_of ha.1 (k := 4) (by omega)
        obtain ⟨k, hk, rfl⟩ := i32_of ((le0 _).mp hb0) (k := 81) (by have := (le80 _).mp hb; omega)
        have hx : f_X3_text N (nI r) (nI k) n = some (nI k, fillF (mI n 6 r (nI k)) 5 (80 * r) (80 * r + k) 32) := by
          simp [f_X3_text, f_X3_make_4, e_isPlace4 n c4, bI_t ha, c5, hb, hb0, e_lie4 N hN n c5 c6 hr (show k ≤ 80 by omega)]
        have hm : ∀ m : xN, f_X4_text N (nI r) (nI k) m = some (nI k, fillF (mI m 47 r (nI k)) 48 (80 * r) (80 * r + 80) 32) := by
          intro m
          simp [f_X4_text, e_isText, bI_t ha', hb, hb0, gdl_nI (show r < 2 ^ 31 by omega) hr, gdl0, nI_clamp (show r < 2 ^ 31 by omega), e_textL N hN _ hr]
        refine ⟨_, _, _, hx, hm _, ?_⟩
        unfold Inv cOf at *
        simp only [fillF1, fillF2, mI1, mI2, reduceIte, Nat.reduceEqDiff] at *
        exact ⟨⟨c1, c2, c3, c4, c5, c6⟩, h2, I_row_new (Or.inr rfl) h3 hr (by omega) 32, h4, h5, h6, h7, h8, h9, h10, h11⟩
      · exact ⟨-3, cF n 5, mF (cF n 5) 5, by simp [f_X3_text, f_X3_make_4, e_isPlace4 n c4, bI_t ha, c5, hb, hb0, e_refuse5], by simp [f_X4_text, e_isText, bI_t ha', hb, hb0, e_find5], Inv_F (by decide) h⟩
    · exact ⟨-1, n, n, by simp [f_X3_text, f_X3_make_4, f_X3_make_4_L16, e_isPlace4 n c4, bI_t ha, c5, hb], by simp [f_X4_text, f_X4_text_L13, e_isText, bI_t ha', hb], h⟩
  · have ha' : ¬ (0 ≤ a.toInt ∧ a.toInt ≤ 3) := by omega
    exact ⟨-1, n, n, by simp [f_X3_text, f_X3_make_4, f_X3_make_4_L16, e_isPlace4 n c4, bI_f ha], by simp [f_X4_text, f_X4_text_L13, e_isText, bI_f ha'], h⟩
/-- the reference's own: a place of a ROW -/
theorem cF1 {n : xN} {f a : Nat} (h : a ≠ 0) (h2 : a ≠ 38) : (cF n f).1 a = n.1 a := by simp [cF, mI1, h, h2]
theorem m1 {x : Int32} (h1 : -1 ≤ x.toInt) : (x - 1).toInt = x.toInt - 1 := by
  rw [i32_sub (by rw [z1]; omega) (by rw [z1]; have := i32_hi x; omega), z1]
theorem e_ref_bad (n : xN) {a : Int32} (ha : ¬ (0 ≤ a.toInt ∧ a.toInt < 6)) (i : Int32) : f_X4_refused a i n = some (-1, n) := by
  have ha' : ¬ (0 ≤ a.toInt ∧ a.toInt ≤ 5) := by omega
  simp [f_X4_refused, f_X4_refused_L55, e_isRow, bI_f ha']
theorem nIr {r : Nat} (k : Int) (hr : (r : Int) ≤ k) (hk : k < 2147483648) : 0 ≤ (nI r).toInt ∧ (nI r).toInt ≤ k := by rw [nI_toInt (by omega)]; omega
theorem e_ref_no (n : xN) {r : Nat} (hr : r < 6) (hs : ¬ 0 ≤ (n.1 45 r).toInt) (i : Int32) : f_X4_refused (nI r) i n = some (-3, mF n 1) := by
  have h0 : ¬ (0 : Int32) ≤ n.1 45 r := fun q => hs ((le0 _).mp q)
  simp [f_X4_refused, f_X4_refused_L55, e_isRow, bI_t (nIr (r := r) 5 (by omega) (by omega)), gdl_nI (show r < 2 ^ 31 by omega) hr, gdl0, nI_clamp (show r < 2 ^ 31 by omega), h0, e_find1]
theorem e_inm (i x : Int32) (h : -1 ≤ x.toInt) : f_X4_in (Int32.toInt64 i) (0 : Int64) (Int32.toInt64 (x - (1 : Int32))) = some (bI (0 ≤ i.toInt ∧ i.toInt < x.toInt)) := by
  rw [e_in, i64_of, i64_of, m1 h]
  have : (0 : Int64).toInt = 0 := rfl
  exact congrArg some (bI_c (by omega))
theorem e_ref_be (n : xN) {r : Nat} (hr : r < 6) (hs : 0 ≤ (n.1 45 r).toInt) {i : Int32} (hi : ¬ (0 ≤ i.toInt ∧ i.toInt < (n.1 45 r).toInt)) : f_X4_refused (nI r) i n = some (-3, mF n 2) := by
  have h0 : (0 : Int32) ≤ n.1 45 r := (le0 _).mpr hs
  simp [f_X4_refused, f_X4_refused_L55, e_isRow, bI_t (nIr (r := r) 5 (by omega) (by omega)), gdl_nI (show r < 2 ^ 31 by omega) hr, gdl0, nI_clamp (show r < 2 ^ 31 by omega), h0, e_find2, e_inm i _ (show -1 ≤ (n.1 45 r).toInt by omega), bI_f hi]
theorem e_ref_ok (n : xN) {r : Nat} (hr : r < 6) {i : Int32} (hi : 0 ≤ i.toInt ∧ i.toInt < (n.1 45 r).toInt) : f_X4_refused (nI r) i n = some (0, n) := by
  have h0 : (0 : Int32) ≤ n.1 45 r := (le0 _).mpr (by omega)
  simp [f_X4_refused, f_X4_refused_L55, e_isRow, bI_t (nIr (r := r) 5 (by omega) (by omega)), gdl_nI (show r < 2 ^ 31 by omega) hr, gdl0, nI_clamp (show r < 2 ^ 31 by omega), h0, e_inm i _ (show -1 ≤ (n.1 45 r).toInt by omega), bI_t hi]
set_option maxHeartbeats 1000000 in
theorem op_lay (a i v : Int32) : Op (f_X3_lay a i v) (f_X4_lay a i v) := by
  intro n h
  obtain ⟨h1, h2, h3, h4, h5, h6, h7, h8, h9, h10, h11⟩ := id h
  by_cases ha : 0 ≤ a.toInt ∧ a.toInt < 6
  · obtain ⟨r, hr, rfl⟩ := i32_of ha.1 (k := 6) (by omega)
    obtain ⟨s1, s2, s3, s4⟩ := h2 r hr
    by_cases hs : 0 ≤ (n.1 45 r).toInt
    · by_cases hi : 0 ≤ i.toInt ∧ i.toInt < (n.1 45 r).toInt
      · obtain ⟨j, hj, rfl⟩ := i32_of hi.1 (k := 40) (by omega)
        have hj2 : (j : Int) < (n.1 45 r).toInt := by have := hi.2; rw [nI_toInt (by omega)] at this; exact this
        have hx : f_X3_lay (nI r) (nI j) v n = some (1, mI (mI n 0 10 (n.1 2 (40 * r + j))) 2 (40 * r + j) v) := by
          simp [f_X3_lay, e_rc1_ok n h1.1 hr (by rw [s1]; exact hs) (by rw [s1]; exact s3) (by rw [s1]; exact hi), e_cell1 n h1.2.1 hr hj, e_setc1 _ (show (mI n 0 10 (n.1 2 (40 * r + j))).1 1 1 = 40 by simp [mI1, h1.2.1]) hr hj]
        have hm : ∀ m : xN, m.1 45 = n.1 45 → f_X4_lay (nI r) (nI j) v m = some (1, mI (mI m 46 (40 * r + j) v) 39 11 (m.1 46 (40 * r + j))) := by
          intro m em
          simp [f_X4_lay, f_X4_tell, e_ref_ok m hr (by rw [em]; exact hi), (e_ix1 hr hj).2, gdl_nI (show 40 * r + j < 2 ^ 31 by omega) (show 40 * r + j < 240 by omega), gdl0, nI_clamp (show 40 * r + j < 2 ^ 31 by omega)]
        refine ⟨_, _, _, hx, hm _ (by simp [mI1]), ?_⟩
        unfold Inv cOf at *
        simp only [mI1, mI2, reduceIte, Nat.reduceEqDiff] at *
        refine ⟨h1, I_row_put (Or.inl rfl) h2 _ v, h3, by simpa [upd] using h4, ?_, by simpa [upd] using h6, h7, by simpa [upd] using h8, by simpa [upd] using h9, by simpa [upd] using h10, by simpa [upd] using h11⟩
        exact ⟨by simp [upd, s4 j hj2], h5.2⟩
      · exact ⟨-3, cF n 2, mF (cF n 2) 2, by simp [f_X3_lay, e_rc1_be n h1.1 hr (by rw [s1]; exact hs) (by rw [s1]; exact s3) (by rw [s1]; exact hi)], by simp [f_X4_lay, e_ref_be (cF n 2) hr (by rw [cF1 (by decide) (by decide)]; exact hs) (by rw [cF1 (by decide) (by decide)]; exact hi)], Inv_F (by decide) h⟩
    · exact ⟨-3, cF n 1, mF (cF n 1) 1, by simp [f_X3_lay, e_rc1_no n h1.1 hr (by rw [s1]; exact hs)], by simp [f_X4_lay, e_ref_no (cF n 1) hr (by rw [cF1 (by decide) (by decide)]; exact hs)], Inv_F (by decide) h⟩
  · exact ⟨-1, n, n, by simp [f_X3_lay, e_rc1_bad n h1.1 ha], by simp [f_X4_lay, e_ref_bad n ha], h⟩
set_option maxHeartbeats 1000000 in
theorem op_at (a i : Int32) : Op (f_X3_at a i) (f_X4_at a i) := by
  intro n h
  obtain ⟨h1, h2, h3, h4, h5, h6, h7, h8, h9, h10, h11⟩ := id h
  by_cases ha : 0 ≤ a.toInt ∧ a.toInt < 6
  · obtain ⟨r, hr, rfl⟩ := i32_of ha.1 (k := 6) (by omega)
    obtain ⟨s1, s2, s3, s4⟩ := h2 r hr
    by_cases hs : 0 ≤ (n.1 45 r).toInt
    · by_cases hi : 0 ≤ i.toInt ∧ i.toInt < (n.1 45 r).toInt
      · obtain ⟨j, hj, rfl⟩ := i32_of hi.1 (k := 40) (by omega)
        have hj2 : (j : Int) < (n.1 45 r).toInt := by have := hi.2; rw [nI_toInt (by omega)] at this; exact this
        have hx : f_X3_at (nI r) (nI j) n = some (1, mI n 0 10 (n.1 2 (40 * r + j))) := by
          simp [f_X3_at, e_rc1_ok n h1.1 hr (by rw [s1]; exact hs) (by rw [s1]; exact s3) (by rw [s1]; exact hi), e_cell1 n h1.2.1 hr hj]
        have hm : ∀ m : xN, m.1 45 = n.1 45 → f_X4_at (nI r) (nI j) m = some (1, mI m 39 11 (m.1 46 (40 * r + j))) := by
          intro m em
          simp [f_X4_at, f_X4_at_L30, f_X4_tell, e_ref_ok m hr (by rw [em]; exact hi), (e_ix1 hr hj).2, gdl_nI (show 40 * r + j < 2 ^ 31 by omega) (show 40 * r + j < 240 by omega), gdl0, nI_clamp (show 40 * r + j < 2 ^ 31 by omega)]
        refine ⟨_, _, _, hx, hm _ (by simp [mI1]), ?_⟩
        unfold Inv cOf at *
        simp only [mI1, mI2, reduceIte, Nat.reduceEqDiff] at *
        refine ⟨h1, h2, h3, by simpa [upd] using h4, ?_, by simpa [upd] using h6, h7, by simpa [upd] using h8, by simpa [upd] using h9, by simpa [upd] using h10, by simpa [upd] using h11⟩
        exact ⟨by simp [upd, s4 j hj2], h5.2⟩
      · exact ⟨-3, cF n 2, mF (cF n 2) 2, by simp [f_X3_at, e_rc1_be n h1.1 hr (by rw [s1]; exact hs) (by rw [s1]; exact s3) (by rw [s1]; exact hi)], by simp [f_X4_at, f_X4_at_L30, e_ref_be (cF n 2) hr (by rw [cF1 (by decide) (by decide)]; exact hs) (by rw [cF1 (by decide) (by decide)]; exact hi)], Inv_F (by decide) h⟩
    · exact ⟨-3, cF n 1, mF (cF n 1) 1, by simp [f_X3_at, e_rc1_no n h1.1 hr (by rw [s1]; exact hs)], by simp [f_X4_at, f_X4_at_L30, e_ref_no (cF n 1) hr (by rw [cF1 (by decide) (by decide)]; exact hs)], Inv_F (by decide) h⟩
  · exact ⟨-1, n, n, by simp [f_X3_at, e_rc1_bad n h1.1 ha], by simp [f_X4_at, f_X4_at_L30, e_ref_bad n ha], h⟩
set_option maxHeartbeats 1000000 in
theorem op_tear (a : Int32) : Op (f_X3_tear a) (f_X4_tear a) := by
  intro n h
  obtain ⟨h1, h2, h3, h4, h5, h6, h7, h8, h9, h10, h11⟩ := id h
  by_cases ha : 0 ≤ a.toInt ∧ a.toInt < 6
  · obtain ⟨r, hr, rfl⟩ := i32_of ha.1 (k := 6) (by omega)
    obtain ⟨s1, s2, s3, s4⟩ := h2 r hr
    by_cases hs : 0 ≤ (n.1 45 r).toInt
    · have hx : f_X3_tear (nI r) n = some (1, mI n 3 r (-1)) := by
        simp [f_X3_tear, f_X1_remove_1, e_rp1_ok n h1.1 hr (by rw [s1]; exact hs), gdl_nI (show r < 2 ^ 31 by omega) hr, gdl0, nI_clamp (show r < 2 ^ 31 by omega)]
      have hm : ∀ m : xN, m.1 45 = n.1 45 → f_X4_tear (nI r) m = some (1, mI m 45 r (-1)) := by
        intro m em
        simp [f_X4_tear, e_isRow, bI_t (nIr (r := r) 5 (by omega) (by omega)), gdl_nI (show r < 2 ^ 31 by omega) hr, gdl0, nI_clamp (show r < 2 ^ 31 by omega), em, (le0 _).mpr hs]
      refine ⟨_, _, _, hx, hm _ (by simp [mI1]), ?_⟩
      unfold Inv cOf at *
      simp only [mI1, mI2, reduceIte, Nat.reduceEqDiff] at *
      exact ⟨h1, I_row_del h2 r, h3, h4, h5, h6, h7, h8, h9, h10, h11⟩
    · refine ⟨-3, cF n 1, mF (cF n 1) 1, by simp [f_X3_tear, e_rp1_no n h1.1 hr (by rw [s1]; exact hs)], ?_, Inv_F (by decide) h⟩
      have h0 : ¬ (0 : Int32) ≤ (cF n 1).1 45 r := by rw [cF1 (by decide) (by decide), le0]; exact hs
      simp [f_X4_tear, e_isRow, bI_t (nIr (r := r) 5 (by omega) (by omega)), gdl_nI (show r < 2 ^ 31 by omega) hr, gdl0, nI_clamp (show r < 2 ^ 31 by omega), h0, e_find1]
  · have ha' : ¬ (0 ≤ a.toInt ∧ a.toInt ≤ 5) := by omega
    exact ⟨-1, n, n, by simp [f_X3_tear, e_rp1_bad n h1.1 ha], by simp [f_X4_tear, e_isRow, bI_f ha'], h⟩
set_option maxHeartbeats 1000000 in
theorem op_put (a i v : Int32) : Op (f_X3_put a i v) (f_X4_put a i v) := by
  intro n h
  obtain ⟨h1, h2, h3, h4, h5, h6, h7, h8, h9, h10, h11⟩ := id h
  obtain ⟨c1, c2, c3, c4, c5, c6⟩ := id h1
  by_cases ha : 0 ≤ a.toInt ∧ a.toInt < 4
  · obtain ⟨r, hr, rfl⟩ := i32_of ha.1 (k := 4) (by omega)
    obtain ⟨s1, s2, s3, s4⟩ := h3 r hr
    by_cases hs : 0 ≤ (n.1 47 r).toInt
    · by_cases hi : 0 ≤ i.toInt ∧ i.toInt < (n.1 47 r).toInt
      · obtain ⟨j, hj, rfl⟩ := i32_of hi.1 (k := 80) (by omega)
        have hj2 : (j : Int) < (n.1 47 r).toInt := by have := hi.2; rw [nI_toInt (by omega)] at this; exact this
        have hx : f_X3_put (nI r) (nI j) v n = some (n.1 5 (80 * r + j) + 1000, mI n 5 (80 * r + j) (Int8.toInt32 (Int32.toInt8 v))) := by
          simp [f_X3_put, e_rc4_ok n c4 hr (by rw [s1]; exact hs) (by rw [s1]; exact s3) (by rw [s1]; exact hi), e_cell4 n c5 hr hj, e_setc4 _ c5 hr hj]
        have hm : ∀ m : xN, m.1 47 = n.1 47 → f_X4_put (nI r) (nI j) v m = some (m.1 48 (80 * r + j) + 1000, mI m 48 (80 * r + j) (Int8.toInt32 (Int32.toInt8 v))) := by
          intro m em
          simp [f_X4_put, e_isText, bI_t (nIr (r := r) 3 (by omega) (by omega)), gdl_nI (show r < 2 ^ 31 by omega) hr, (e_ix4 hr hj).2, gdl_nI (show 80 * r + j < 2 ^ 31 by omega) (show 80 * r + j < 320 by omega), gdl0, nI_clamp (show r < 2 ^ 31 by omega), nI_clamp (show 80 * r + j < 2 ^ 31 by omega), em, (le0 _).mpr hs, e_inm (nI j) _ (show -1 ≤ (n.1 47 r).toInt by omega), bI_t hi]
        have e5 : n.1 5 (80 * r + j) = n.1 48 (80 * r + j) := s4 j hj2
        refine Op_mk hx (hm _ (by simp [mI1])) (by simp [mI1, e5]) ?_
        unfold Inv cOf at *
        simp only [mI1, mI2, reduceIte, Nat.reduceEqDiff] at *
        exact ⟨h1, h2, I_row_put (Or.inr rfl) h3 _ _, h4, h5, h6, h7, h8, h9, h10, h11⟩
      · refine ⟨-3, cF n 2, mF (cF n 2) 2, by simp [f_X3_put, e_rc4_be n c4 hr (by rw [s1]; exact hs) (by rw [s1]; exact s3) (by rw [s1]; exact hi)], ?_, Inv_F (by decide) h⟩
        have e47 : (cF n 2).1 47 = n.1 47 := cF1 (by decide) (by decide)
        simp [f_X4_put, e_isText, bI_t (nIr (r := r) 3 (by omega) (by omega)), gdl_nI (show r < 2 ^ 31 by omega) hr, gdl0, nI_clamp (show r < 2 ^ 31 by omega), e47, (le0 _).mpr hs, e_inm i _ (show -1 ≤ (n.1 47 r).toInt by omega), bI_f hi, e_find2]
    · refine ⟨-3, cF n 1, mF (cF n 1) 1, by simp [f_X3_put, e_rc4_no n c4 hr (by rw [s1]; exact hs)], ?_, Inv_F (by decide) h⟩
      have h0 : ¬ (0 : Int32) ≤ (cF n 1).1 47 r := by rw [cF1 (by decide) (by decide), le0]; exact hs
      simp [f_X4_put, e_isText, bI_t (nIr (r := r) 3 (by omega) (by omega)), gdl_nI (show r < 2 ^ 31 by omega) hr, gdl0, nI_clamp (show r < 2 ^ 31 by omega), h0, e_find1]
  · have ha' : ¬ (0 ≤ a.toInt ∧ a.toInt ≤ 3) := by omega
    exact ⟨-1, n, n, by simp [f_X3_put, e_rc4_bad n c4 ha], by simp [f_X4_put, e_isText, bI_f ha'], h⟩
