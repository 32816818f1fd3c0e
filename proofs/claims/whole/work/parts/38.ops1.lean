/-! ===== promises 12, 15, 21 to 23, 28: thing, border, value, cost, holds, tight ===== -/
/-- what is on; the borders; as both sides have them -/
theorem On_of {n : xN} (h : Inv n) {T C : Nat} (hc : Crt n T C) : ∃ o, o < 2 ^ C ∧ n.1 40 1 = nI o ∧ n.1 19 1 = nI o ∧ (∀ b, b < 8 → n.1 20 b = bdM (n.1 40) b) := by
  obtain ⟨-, -, -, -, -, -, -, ⟨e1, e2, e3, dn, hd, ed, hs, -⟩, -⟩ := h
  obtain ⟨⟨o, ho, eo⟩, -⟩ := hs dn (Nat.le_refl _)
  have ec : cOf n = C := by
    unfold cOf
    rw [hc.2.2.2.2.1, nI_clamp (by have := hc.2.1; omega)]
  rw [ec] at ho
  have eo' : n.1 40 1 = nI o := by
    rw [← eo, snapR, if_neg (Nat.lt_irrefl _)]
  refine ⟨o, ho, eo', by rw [e1]; exact eo', fun b hb => ?_⟩
  rw [e3 b hb, bdM, Nat.zero_add]
theorem op_value (N : Nat) (hN : 10 ≤ N) (a b : Int32) : OpP (f_X3_value a b) (f_X4_value N a b) := by
  intro n h
  obtain ⟨T, C, hc⟩ := Crt_of h
  obtain ⟨hT, hC, h0, eT, eC, xT, xC, hs, hcl, hg⟩ := id hc
  by_cases ha : 0 ≤ a.toInt ∧ a.toInt < (2 ^ T : Nat)
  · by_cases hb : 0 ≤ b.toInt ∧ b.toInt < 4
    · obtain ⟨w, hw, rfl⟩ := i32_of ha.1 ha.2
      obtain ⟨t, ht, rfl⟩ := i32_of hb.1 (k := 4) (by omega)
      have h6 : 2 ^ T ≤ 2 ^ 6 := p2 hT
      have hb' : 0 ≤ (nI t).toInt ∧ (nI t).toInt ≤ 3 := by omega
      refine ⟨vS (n.1 41) T w t, ?_, ?_⟩
      · simp only [f_X3_value, e_isWayX n hT xT, bI_t ha, Option.bind_some, e_isTraitX, bI_t hb, e_valX n hT hw (show t < 5 by omega) (hs w hw t (by omega))]
        rfl
      · simp only [f_X4_value, f_X4_value_L25, e_isWayM n hT eT, bI_t ha, Option.bind_some, e_isTrait, bI_t hb', e_valueOf N hN n hT eT (show w < 2 ^ 31 by omega) (show t < 5 by omega)]
        rfl
    · have hb' : ¬ (0 ≤ b.toInt ∧ b.toInt ≤ 3) := by omega
      refine ⟨-1, ?_, ?_⟩
      · simp only [f_X3_value, f_X3_value_L18, e_isWayX n hT xT, bI_t ha, Option.bind_some, e_isTraitX, bI_f hb]; rfl
      · simp only [f_X4_value, f_X4_value_L24, f_X4_value_L25, e_isWayM n hT eT, bI_t ha, Option.bind_some, e_isTrait, bI_f hb']; rfl
  · refine ⟨-1, ?_, ?_⟩
    · simp only [f_X3_value, f_X3_value_L18, e_isWayX n hT xT, bI_f ha, Option.bind_some]; rfl
    · simp only [f_X4_value, f_X4_value_L24, f_X4_value_L25, e_isWayM n hT eT, bI_f ha, Option.bind_some]; rfl
theorem op_cost (N : Nat) (hN : 10 ≤ N) (a : Int32) : OpP (f_X3_cost a) (f_X4_cost N a) := by
  intro n h
  obtain ⟨T, C, hc⟩ := Crt_of h
  obtain ⟨hT, hC, h0, eT, eC, xT, xC, hs, hcl, hg⟩ := id hc
  by_cases ha : 0 ≤ a.toInt ∧ a.toInt < (2 ^ T : Nat)
  · obtain ⟨w, hw, rfl⟩ := i32_of ha.1 ha.2
    have h6 : 2 ^ T ≤ 2 ^ 6 := p2 hT
    have e4 := e_sumX n hT hw (show 4 < 5 by decide)
    rw [hs w hw 4 (by decide)] at e4
    refine ⟨sumS (n.1 41) w 4 T, ?_, ?_⟩
    · simp only [f_X3_cost, e_isWayX n hT xT, bI_t ha, Option.bind_some, show (4 : Int32) = nI 4 from rfl, e4]
      rfl
    · simp only [f_X4_cost, f_X4_cost_L17, e_isWayM n hT eT, bI_t ha, Option.bind_some, e_costOf N hN n hT eT (show w < 2 ^ 31 by omega)]
      rfl
  · refine ⟨-1, ?_, ?_⟩
    · simp only [f_X3_cost, e_isWayX n hT xT, bI_f ha, Option.bind_some]; rfl
    · simp only [f_X4_cost, f_X4_cost_L17, e_isWayM n hT eT, bI_f ha, Option.bind_some]; rfl
/-- both sides tell v -/
theorem Inv_told {n : xN} (h : Inv n) (v : Int32) : Inv (mI (mI n 0 10 v) 39 11 v) := by
  obtain ⟨h1, h2, h3, h4, h5, h6, h7, h8, h9, h10, h11⟩ := h
  unfold Inv cOf at *
  simp only [mI1, mI2, reduceIte, Nat.reduceEqDiff] at *
  refine ⟨h1, h2, h3, by simpa [upd] using h4, ⟨by simp [upd], h5.2⟩, by simpa [upd] using h6, h7, by simpa [upd] using h8, by simpa [upd] using h9, by simpa [upd] using h10, by simpa [upd] using h11⟩
theorem op_thing (a b : Int32) : Op (f_X3_thing a b) (f_X4_thing a b) := by
  intro n h
  obtain ⟨T, C, hc⟩ := Crt_of h
  obtain ⟨hT, hC, h0, eT, eC, xT, xC, hs, hcl, hg⟩ := id hc
  have zT : (nI T).toInt = T := nI_toInt (by omega)
  have z5 : (5 : Int32).toInt = 5 := rfl
  have e4 : f_X4_in (Int32.toInt64 b) (0 : Int64) (4 : Int64) = some (bI (0 ≤ b.toInt ∧ b.toInt < 5)) := by
    rw [e_in, i64_of]
    exact congrArg some (bI_c (by show 0 ≤ b.toInt ∧ b.toInt ≤ 4 ↔ _; omega))
  by_cases ha : 0 ≤ a.toInt ∧ a.toInt < T
  · have ea : f_X4_in (Int32.toInt64 a) (0 : Int64) (Int32.toInt64 (nI T - 1)) = some 1 := by
      rw [e_inm a _ (by omega), bI_t (by rw [zT]; exact ha)]
    have a1 : ¬ a < 0 := by rw [i32_lt, z0]; omega
    have a2 : ¬ nI T ≤ a := by rw [i32_le, zT]; omega
    by_cases hb : 0 ≤ b.toInt ∧ b.toInt < 5
    · obtain ⟨i, hi, rfl⟩ := i32_of ha.1 ha.2
      obtain ⟨w, hw, rfl⟩ := i32_of hb.1 (k := 5) (by omega)
      have b1 : ¬ nI w < 0 := by rw [i32_lt, z0]; omega
      have b2 : nI w < 5 := by rw [i32_lt, z5]; omega
      have i1 : nI i * (5 : Int32) + nI w = nI (5 * i + w) := by rw [show (5 : Int32) = nI 5 from rfl, pk_mul, nI_add, Nat.mul_comm]
      have i2 : (5 : Int32) * nI i + nI w = nI (5 * i + w) := by rw [show (5 : Int32) = nI 5 from rfl, pk_mul, nI_add]
      have hx : f_X3_thing (nI i) (nI w) n = some (1, mI n 0 10 (n.1 8 (5 * i + w))) := by
        simp only [f_X3_thing, xT, if_neg a1, if_neg a2, if_neg b1, if_pos b2, i1, gdl_nI (show 5 * i + w < 2 ^ 31 by omega) (show 5 * i + w < 30 by omega), gdl0, nI_clamp (show 5 * i + w < 2 ^ 31 by omega)]
      have hm : ∀ m : xN, m.1 39 1 = n.1 39 1 → f_X4_thing (nI i) (nI w) m = some (1, mI m 39 11 (m.1 41 (5 * i + w))) := by
        intro m em
        simp only [f_X4_thing, f_X4_thing_L46, f_X4_tell, em, eT, ea, e4, bI_t hb, Option.bind_some, i2, gdl_nI (show 5 * i + w < 2 ^ 31 by omega) (show 5 * i + w < 30 by omega), gdl0, nI_clamp (show 5 * i + w < 2 ^ 31 by omega)]
        rfl
      refine Op_mk hx (hm _ (by simp [mI1])) rfl ?_
      have := Inv_told h (n.1 41 (5 * i + w))
      rw [← (hg i hi w hw).1] at this
      simp only [mI1, reduceIte, Nat.reduceEqDiff, ← (hg i hi w hw).1]
      exact this
    · refine ⟨-1, n, n, ?_, ?_, h⟩
      · simp only [f_X3_thing, f_X3_thing_L24, xT, if_neg a1, if_neg a2]
        by_cases b1 : b < 0
        · rw [if_pos b1]
        · rw [if_neg b1, if_neg (by rw [i32_lt, z0] at b1; rw [i32_lt, z5]; omega)]
      · simp only [f_X4_thing, f_X4_thing_L45, f_X4_thing_L46, eT, ea, e4, bI_f hb, Option.bind_some]
        rfl
  · have ea : f_X4_in (Int32.toInt64 a) (0 : Int64) (Int32.toInt64 (nI T - 1)) = some 0 := by
      rw [e_inm a _ (by omega), bI_f (by rw [zT]; exact ha)]
    refine ⟨-1, n, n, ?_, ?_, h⟩
    · simp only [f_X3_thing, f_X3_thing_L24, xT]
      by_cases a1 : a < 0
      · rw [if_pos a1]
      · rw [if_neg a1, if_pos (by rw [i32_lt, z0] at a1; rw [i32_le, zT]; omega)]
    · simp only [f_X4_thing, f_X4_thing_L45, f_X4_thing_L46, eT, ea, Option.bind_some]
      rfl
theorem op_holds (N : Nat) (hN : 10 ≤ N) (a : Int32) : Op (f_X3_holds N a) (f_X4_holds N a) := by
  intro n h
  obtain ⟨T, C, hc⟩ := Crt_of h
  obtain ⟨o, ho, eo, xo, hbd⟩ := On_of h hc
  obtain ⟨hT, hC, h0, eT, eC, xT, xC, hs, hcl, hg⟩ := id hc
  have h8 := p8 hC
  by_cases ha : 0 ≤ a.toInt ∧ a.toInt < (2 ^ T : Nat)
  · obtain ⟨w, hw, rfl⟩ := i32_of ha.1 ha.2
    have h6 : 2 ^ T ≤ 2 ^ 6 := p2 hT
    have hl := HN_lt n (bdM (n.1 40)) T C w
    have eH : HN n (n.1 20) T C w = HN n (bdM (n.1 40)) T C w := HN_c hc hbd
    have hx : f_X3_holds N (nI w) n = some (nI (HN n (bdM (n.1 40)) T C w), mI n 0 10 (bI (HN n (bdM (n.1 40)) T C w &&& o = o))) := by
      simp only [f_X3_holds, f_X3_holds_L49, e_isWayX n hT xT, bI_t ha, Option.bind_some, e_heldBy20 N hN n hc hw, eH, xo, e_isMet (show HN n (bdM (n.1 40)) T C w < 2 ^ 31 by omega) (show o < 2 ^ 31 by omega), bI_0]
      by_cases q : HN n (bdM (n.1 40)) T C w &&& o = o
      · simp [q, bI]
      · simp [q, bI]
    have hm : ∀ v, f_X4_holds N (nI w) (mI n 0 10 v) = some (nI (HN n (bdM (n.1 40)) T C w), mI (mI n 0 10 v) 39 11 (bI (HN n (bdM (n.1 40)) T C w &&& o = o))) := by
      intro v
      have hc1 : Crt (mI n 0 10 v) T C := Crt_keep hc (by simp [mI1]) (by simp [mI1]) (by simp [mI1]) (by simp [mI1]) (by simp [mI1]) (by simp [mI1]) (by simp [mI1]) (by simp [mI1]) (by simp [mI1]) (by simp [mI1]) (by simp [mI1])
      have hc2 : ∀ z, Crt (mI (mI n 0 10 v) 39 11 z) T C := fun z => Crt_keep hc (by simp [mI1, upd]) (by simp [mI1]) (by simp [mI1]) (by simp [mI1]) (by simp [mI1]) (by simp [mI1]) (by simp [mI1]) (by simp [mI1]) (by simp [mI1]) (by simp [mI1]) (by simp [mI1])
      have eG := e_goodM N hN (mI n 0 10 v) hc1 (show w < 2 ^ 31 by omega) (o := o) (by simp [mI1, eo]) (by omega)
      have eB : ∀ z, f_X4_heldBy N (nI w) (mI (mI n 0 10 v) 39 11 z) = some (nI (HN n (bdM (n.1 40)) T C w)) := by
        intro z
        rw [e_heldByM N hN _ (hc2 z) (show w < 2 ^ 31 by omega)]
        rfl
      have eH2 : HN (mI n 0 10 v) (bdM ((mI n 0 10 v).1 40)) T C w = HN n (bdM (n.1 40)) T C w := rfl
      rw [eH2] at eG
      simp only [f_X4_holds, f_X4_holds_L24, e_isWayM _ hT hc1.2.2.2.1, bI_t ha, Option.bind_some, eG, bI_0, eB]
      by_cases q : HN n (bdM (n.1 40)) T C w &&& o = o
      · simp [q, bI]
      · simp [q, bI]
    exact Op_mk hx (hm _) rfl (Inv_told h _)
  · refine ⟨-1, n, n, ?_, ?_, h⟩
    · simp only [f_X3_holds, e_isWayX n hT xT, bI_f ha, Option.bind_some]; rfl
    · simp only [f_X4_holds, e_isWayM n hT eT, bI_f ha, Option.bind_some]; rfl
theorem e_inI (a : Int32) (lo hi : Int64) : f_X4_in (Int32.toInt64 a) lo hi = some (bI (lo.toInt ≤ a.toInt ∧ a.toInt ≤ hi.toInt)) := by rw [e_in, i64_of]
theorem op_border (a b : Int32) : OpP (f_X3_border a b) (f_X4_border a b) := by
  intro n h
  obtain ⟨T, C, hc⟩ := Crt_of h
  obtain ⟨o, ho, eo, xo, hbd⟩ := On_of h hc
  have e4 : f_X4_in (Int32.toInt64 b) (0 : Int64) (1 : Int64) = some (bI (0 ≤ b.toInt ∧ b.toInt ≤ 1)) := by rw [e_inI]; rfl
  have eF : f_X3_isFlag b = some (bI (0 ≤ b.toInt ∧ b.toInt ≤ 1)) := by
    unfold f_X3_isFlag f_X3_isFlag_L9 f_X3_isFlag_L14
    simp only [i32_eq, z0, z1]
    by_cases q0 : b.toInt = 0
    · rw [if_pos q0, bI_t (by omega)]; rfl
    · rw [if_neg q0]
      by_cases q1 : b.toInt = 1
      · rw [if_pos q1, bI_t (by omega)]; rfl
      · rw [if_neg q1, bI_f (by omega)]; rfl
  by_cases ha : 0 ≤ a.toInt ∧ a.toInt < 4
  · have ha' : 0 ≤ a.toInt ∧ a.toInt ≤ 3 := by omega
    by_cases hb : 0 ≤ b.toInt ∧ b.toInt ≤ 1
    · obtain ⟨t, ht, rfl⟩ := i32_of ha.1 (k := 4) (by omega)
      obtain ⟨w, hw, rfl⟩ := i32_of hb.1 (k := 2) (by omega)
      refine ⟨bdM (n.1 40) (2 * t + w), ?_, ?_⟩
      · simp only [f_X3_border, e_isTraitX, bI_t ha, eF, bI_t hb, Option.bind_some, show (2 : Int32) = nI 2 from rfl, pk_mul, nI_add, gdl_nI (show 2 * t + w < 2 ^ 31 by omega) (show 2 * t + w < 8 by omega), gdl0, nI_clamp (show 2 * t + w < 2 ^ 31 by omega), hbd (2 * t + w) (by omega)]
        rfl
      · simp only [f_X4_border, f_X4_border_L33, e_isTrait, bI_t ha', e4, bI_t hb, Option.bind_some, show (2 : Int32) = nI 2 from rfl, pk_mul, nI_add, Nat.add_assoc, gdl_nI (show 2 + (2 * t + w) < 2 ^ 31 by omega) (show 2 + (2 * t + w) < 1480 by omega), gdl0, nI_clamp (show 2 + (2 * t + w) < 2 ^ 31 by omega), bdM]
        rfl
    · refine ⟨-1, ?_, ?_⟩
      · simp only [f_X3_border, f_X3_border_L14, e_isTraitX, bI_t ha, eF, bI_f hb, Option.bind_some]; rfl
      · simp only [f_X4_border, f_X4_border_L32, f_X4_border_L33, e_isTrait, bI_t ha', e4, bI_f hb, Option.bind_some]; rfl
  · have ha' : ¬ (0 ≤ a.toInt ∧ a.toInt ≤ 3) := by omega
    refine ⟨-1, ?_, ?_⟩
    · simp only [f_X3_border, f_X3_border_L14, e_isTraitX, bI_f ha, Option.bind_some]; rfl
    · simp only [f_X4_border, f_X4_border_L32, f_X4_border_L33, e_isTrait, bI_f ha', Option.bind_some]; rfl
