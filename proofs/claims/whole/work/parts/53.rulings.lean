/-! ===== rulings ===== -/
def tRl (n : xN) (r i : Nat) : Int32 := clL n r (3 * i)
def vRl (n : xN) (r i : Nat) : Int32 := clL n r (3 * i + 1)
def fRl (n : xN) (r i : Nat) : Int32 := clL n r (3 * i + 2)
abbrev okRp (n : xN) (r i : Nat) : Prop := (0 ≤ (tRl n r i).toInt ∧ (tRl n r i).toInt < 4) ∧ (0 ≤ (vRl n r i).toInt ∧ (vRl n r i).toInt ≤ 5) ∧ (fRl n r i = 0 ∨ fRl n r i = 1)
def okR (n : xN) (r i : Nat) : Bool := decide (okRp n r i)
theorem e_isValue (a : Int32) : f_X3_isValue a = some (bI (0 ≤ a.toInt ∧ a.toInt ≤ 5)) := by
  unfold f_X3_isValue f_X3_isValue_L13 f_X3_isValue_L14
  have z5 : (5 : Int32).toInt = 5 := rfl
  simp only [i32_lt, z0, z5]
  by_cases h1 : a.toInt < 0
  · rw [if_pos h1, bI_f (by omega)]; rfl
  · rw [if_neg h1]
    by_cases h2 : 5 < a.toInt
    · rw [if_pos h2, bI_f (by omega)]; rfl
    · rw [if_neg h2, bI_t (by omega)]; rfl
/-- a cell of a ruling, on each side -/
theorem e_cR {n : xN} (h11 : n.1 1 1 = 40) {r s i w : Nat} (hr : r < 6) (hs : s ≤ 40) (ec : ∀ i, i < s → n.1 2 (40 * r + i) = n.1 46 (40 * r + i)) (hi : i < s / 3) (hw : w < 3) : f_X1_cellOf_1 (nI r) (nI (3 * i + w)) n = some (clL n r (3 * i + w)) := by
  rw [e_cell1 n h11 hr (by omega), ec _ (by omega)]; rfl
theorem e_rule (n : xN) {r i w : Nat} (hr : r < 6) (hi : i < 13) (hw : w < 3) : f_X4_rule (nI r) (nI i) (nI w) n = some (clL n r (3 * i + w)) := by
  unfold f_X4_rule
  rw [e_3i, (e_ix1 hr (show 3 * i < 40 by omega)).2, nI_add, gdl_nI (by omega) (by omega), gdl0, nI_clamp (by omega), Nat.add_assoc]; rfl
set_option maxHeartbeats 1000000 in
theorem e_refR (N : Nat) (hN : 100 ≤ N) {n : xN} (h : Inv n) {r s : Nat} (hr : r < 6) (hs : s ≤ 40) (e3 : n.1 3 r = nI s) (ec : ∀ i, i < s → n.1 2 (40 * r + i) = n.1 46 (40 * r + i)) :
    f_X3_refusedRulings N (nI r) n = if s % 3 = 0 then (if andA (okR n r) (s / 3) = true then some (0, n) else some (-3, cF n 3)) else some (-3, cF n 5) := by
  have h1 := h.1
  have hs3 : 0 ≤ (n.1 3 r).toInt := by rw [e3, nI_toInt (by omega)]; omega
  unfold f_X3_refusedRulings
  rw [e_rp1_ok n h1.1 hr hs3, Option.bind_some, if_pos rfl, e_size1 n hr, Option.bind_some, gdlT nz3, gdl0, e3, e_m3 hs]
  by_cases h2 : s % 3 = 0
  · rw [if_pos h2, if_pos (by rw [h2]; rfl)]
    have key := eq_forR (rc := f_X3_refusedRulings_L40 N) (body := f_X3_refusedRulings_L40b N) (fun f i (_ : Unit) => f (nI r) (nI s) i n) (fun _ => rfl) (s / 3) (fun _ => ()) (fun i => if allR (okR n r) (s / 3) (s / 3 - i) = true then some (0, n) else some (-3, cF n 3)) ?_ ?_ N 0 (Nat.zero_le _) (by omega)
    · rw [← allR_A]; exact key
    · intro f i hi hk
      show f_X3_refusedRulings_L40b N f (nI r) (nI s) (nI i) n = _
      have hk2 : f (nI r) (nI s) (nI (i + 1)) n = _ := hk
      have c0 : f_X1_cellOf_1 (nI r) (nI (3 * i)) n = some (clL n r (3 * i + 0)) := e_cR (w := 0) h1.2.1 hr hs ec hi (by omega)
      unfold f_X3_refusedRulings_L40b f_X3_refusedRulings_L110 f_X3_refusedRulings_L111
      rw [gdlT nz3, gdl0, e_d3 hs, if_neg (by rw [nI_leI (by omega) (by omega)]; omega), e_3i, nI_1, nI_1, e_n2, c0, Option.bind_some, e_isTraitX, Option.bind_some, e_cR (w := 1) h1.2.1 hr hs ec hi (by omega), Option.bind_some, e_isValue, Option.bind_some, e_cR (w := 2) h1.2.1 hr hs ec hi (by omega), Option.bind_some, e_isFlag, Option.bind_some, e_refuse3, Option.bind_some, allR_s _ hi, hk2, if_pos rfl, if_neg (show ¬ (1 : Int32) = 0 by decide)]
      by_cases a : okRp n r i
      · have e : okR n r i = true := decide_eq_true a
        rw [bI_t (show (0 ≤ (clL n r (3 * i + 0)).toInt ∧ (clL n r (3 * i + 0)).toInt < 4) from a.1), if_neg (by decide), bI_t (show (0 ≤ (clL n r (3 * i + 1)).toInt ∧ (clL n r (3 * i + 1)).toInt ≤ 5) from a.2.1), if_neg (by decide), bI_t (show (clL n r (3 * i + 2) = 0 ∨ clL n r (3 * i + 2) = 1) from a.2.2), if_neg (by decide), e, Bool.true_and]
      · have e : okR n r i = false := decide_eq_false a
        rw [e]
        by_cases a1 : 0 ≤ (clL n r (3 * i + 0)).toInt ∧ (clL n r (3 * i + 0)).toInt < 4
        · rw [bI_t a1, if_neg (by decide)]
          by_cases a2 : 0 ≤ (clL n r (3 * i + 1)).toInt ∧ (clL n r (3 * i + 1)).toInt ≤ 5
          · rw [bI_t a2, if_neg (by decide), bI_f (show ¬ (clL n r (3 * i + 2) = 0 ∨ clL n r (3 * i + 2) = 1) from fun z => a ⟨a1, a2, z⟩), if_pos rfl]; rfl
          · rw [bI_f a2, if_pos rfl]; rfl
        · rw [bI_f a1, if_pos rfl]; rfl
    · intro f
      show f_X3_refusedRulings_L40b N f (nI r) (nI s) (nI (s / 3)) n = _
      unfold f_X3_refusedRulings_L40b
      rw [gdlT nz3, gdl0, e_d3 hs, if_pos (by rw [nI_leI (by omega) (by omega)]; omega), Nat.sub_self]; rfl
  · rw [if_neg h2, if_neg (nI_ne0 (by omega) (by omega)), e_refuse5, Option.bind_some]
theorem e_in05 (a : Int32) : f_X4_in (Int32.toInt64 a) 0 5 = some (bI (0 ≤ a.toInt ∧ a.toInt ≤ 5)) := by rw [e_inI]; rfl
set_option maxHeartbeats 1000000 in
theorem e_noR (N : Nat) (hN : 100 ≤ N) (n : xN) {r s : Nat} (hr : r < 6) (hs : s ≤ 40) (e3 : n.1 45 r = nI s) :
    f_X4_noRulings N (nI r) n = if s % 3 = 0 then (if andA (okR n r) (s / 3) = true then some (0, n) else some (-3, mF n 3)) else some (-3, mF n 5) := by
  unfold f_X4_noRulings
  rw [gdl_nI (by omega) hr, gdl0, nI_clamp (by omega), e3, if_pos (nI_pos' (by omega)), gdl_nI (by omega) hr, gdlT nz3, gdl0, e_m3 hs]
  by_cases h2 : s % 3 = 0
  · rw [if_pos h2, if_pos (by rw [h2]; rfl)]
    have key := eq_forG (rc := f_X4_noRulings_L36 N) (body := f_X4_noRulings_L36b N) (fun f i (s : Int32) => f (nI r) s i n) (fun _ => rfl) 0 (s / 3) (fun i => bI (andA (okR n r) i = true)) (if andA (okR n r) (s / 3) = true then some (0, n) else some (-3, mF n 3)) ?_ ?_ N 0 (Nat.le_refl _) (Nat.zero_le _) (by omega)
    · exact key
    · intro f i _ hi
      show f_X4_noRulings_L36b N f (nI r) (bI (andA (okR n r) i = true)) (nI i) n = f (nI r) (bI ((andA (okR n r) i && okR n r i) = true)) (nI (i + 1)) n
      unfold f_X4_noRulings_L36b f_X4_noRulings_L103 f_X4_noRulings_L104
      rw [gdl_nI (by omega) hr, gdlT nz3, gdl0, nI_clamp (by omega), e3, e_d3 hs, if_neg (by rw [nI_leI (by omega) (by omega)]; omega), show (0 : Int32) = nI 0 from rfl, show (1 : Int32) = nI 1 from rfl, show (2 : Int32) = nI 2 from rfl, e_rule n hr (by omega) (by omega), Option.bind_some, e_isTrait, Option.bind_some, e_rule n hr (by omega) (by omega), Option.bind_some, e_in05, Option.bind_some, e_rule n hr (by omega) (by omega), Option.bind_some, e_in01, Option.bind_some, nI_add]
      cases ha : andA (okR n r) i
      · rfl
      · rw [bI_t rfl, if_neg (show ¬ (1 : Int32) = nI 0 by decide), Bool.true_and]
        by_cases a : okRp n r i
        · have e : okR n r i = true := decide_eq_true a
          have a0 : 0 ≤ (clL n r (3 * i + 0)).toInt ∧ (clL n r (3 * i + 0)).toInt ≤ 3 := by have := a.1; unfold tRl at this; rw [Nat.add_zero]; omega
          rw [bI_t a0, if_neg (show ¬ (1 : Int32) = nI 0 by decide), bI_t (show (0 ≤ (clL n r (3 * i + 1)).toInt ∧ (clL n r (3 * i + 1)).toInt ≤ 5) from a.2.1), if_neg (show ¬ (1 : Int32) = nI 0 by decide), bI_t (show (clL n r (3 * i + 2) = 0 ∨ clL n r (3 * i + 2) = 1) from a.2.2), if_neg (show ¬ (1 : Int32) = nI 0 by decide), e]; rfl
        · have e : okR n r i = false := decide_eq_false a
          rw [e]
          by_cases a1 : 0 ≤ (clL n r (3 * i + 0)).toInt ∧ (clL n r (3 * i + 0)).toInt ≤ 3
          · rw [bI_t a1, if_neg (show ¬ (1 : Int32) = nI 0 by decide)]
            by_cases a2 : 0 ≤ (clL n r (3 * i + 1)).toInt ∧ (clL n r (3 * i + 1)).toInt ≤ 5
            · rw [bI_t a2, if_neg (show ¬ (1 : Int32) = nI 0 by decide), bI_f (show ¬ (clL n r (3 * i + 2) = 0 ∨ clL n r (3 * i + 2) = 1) from fun z => a ⟨by unfold tRl; rw [Nat.add_zero] at a1; omega, a2, z⟩), if_pos (show (0 : Int32) = nI 0 from rfl)]; rfl
            · rw [bI_f a2, if_pos (show (0 : Int32) = nI 0 from rfl)]; rfl
          · rw [bI_f a1, if_pos (show (0 : Int32) = nI 0 from rfl)]; rfl
    · intro f
      show f_X4_noRulings_L36b N f (nI r) (bI (andA (okR n r) (s / 3) = true)) (nI (s / 3)) n = _
      unfold f_X4_noRulings_L36b f_X4_noRulings_L124
      rw [gdl_nI (by omega) hr, gdlT nz3, gdl0, nI_clamp (by omega), e3, e_d3 hs, if_pos (by rw [nI_leI (by omega) (by omega)]; omega), e_find3, Option.bind_some]
      cases andA (okR n r) (s / 3) <;> rfl
  · rw [if_neg h2, if_neg (nI_ne0 (by omega) (by omega)), e_find5, Option.bind_some]
/-- what is refused of rulings is refused alike -/
theorem rul (N : Nat) (hN : 100 ≤ N) (a : Int32) {n : xN} (h : Inv n) (KX KM : xN → Option (Int32 × xN))
    (hk : ∀ r s, a = nI r → r < 6 → s ≤ 40 → s % 3 = 0 → n.1 45 r = nI s → n.1 3 r = nI s → (∀ i, i < s → n.1 2 (40 * r + i) = n.1 46 (40 * r + i)) → andA (okR n r) (s / 3) = true → ∃ x n1 n2, KX n = some (x, n1) ∧ KM n1 = some (x, n2) ∧ Inv n2 ∧ ∀ b, b ≠ 0 → n1.1 b = n.1 b) :
    ∃ x n1 n2, Option.bind (f_X3_refusedRulings N a n) (fun r2 => if r2.1 = 0 then KX r2.2 else some (r2.1, r2.2)) = some (x, n1) ∧ Option.bind (f_X4_isRow a) (fun r1 => if r1 = 0 then some (-1, n1) else Option.bind (f_X4_noRulings N a n1) (fun r11 => if r11.1 = 0 then KM r11.2 else some (r11.1, r11.2))) = some (x, n2) ∧ Inv n2 := by
  have h1 := h.1
  by_cases hb : 0 ≤ a.toInt ∧ a.toInt < 6
  · have hb' : 0 ≤ a.toInt ∧ a.toInt ≤ 5 := by omega
    obtain ⟨r, hr, rfl⟩ := i32_of (k := 6) hb.1 (by omega)
    have s1 := (h.2.1 r hr).1
    by_cases hs0 : 0 ≤ (n.1 45 r).toInt
    · obtain ⟨s, hs, e45, e3, ec⟩ := Row_of h hr hs0
      by_cases h2 : s % 3 = 0
      · by_cases hj : andA (okR n r) (s / 3) = true
        · obtain ⟨x, n1, n2, hx, hm, hi, hs1⟩ := hk r s rfl hr hs h2 e45 e3 ec hj
          have eA : okR n1 r = okR n r := funext fun i => by unfold okR okRp tRl vRl fRl clL; simp only [hs1 46 (by decide)]
          refine ⟨x, n1, n2, ?_, ?_, hi⟩
          · rw [e_refR N hN h hr hs e3 ec, if_pos h2, if_pos hj, Option.bind_some, if_pos rfl, hx]
          · rw [e_isRow, Option.bind_some, bI_t hb', if_neg (by decide), e_noR N hN n1 hr hs (by rw [hs1 _ (by decide)]; exact e45), if_pos h2, eA, if_pos hj, Option.bind_some, if_pos rfl, hm]
        · have eA : okR (cF n 3) r = okR n r := funext fun i => by unfold okR okRp tRl vRl fRl clL; simp only [cF1 (n := n) (f := 3) (show 46 ≠ 0 by decide) (by decide)]
          refine ⟨-3, cF n 3, mF (cF n 3) 3, ?_, ?_, Inv_F (by decide) h⟩
          · rw [e_refR N hN h hr hs e3 ec, if_pos h2, if_neg hj, Option.bind_some, if_neg (show ¬ (-3 : Int32) = 0 by decide)]
          · rw [e_isRow, Option.bind_some, bI_t hb', if_neg (by decide), e_noR N hN _ hr hs (by rw [cF1 (by decide) (by decide)]; exact e45), if_pos h2, eA, if_neg hj, Option.bind_some, if_neg (show ¬ (-3 : Int32) = 0 by decide)]
      · refine ⟨-3, cF n 5, mF (cF n 5) 5, ?_, ?_, Inv_F (by decide) h⟩
        · rw [e_refR N hN h hr hs e3 ec, if_neg h2, Option.bind_some, if_neg (show ¬ (-3 : Int32) = 0 by decide)]
        · rw [e_isRow, Option.bind_some, bI_t hb', if_neg (by decide), e_noR N hN _ hr hs (by rw [cF1 (by decide) (by decide)]; exact e45), if_neg h2, Option.bind_some, if_neg (show ¬ (-3 : Int32) = 0 by decide)]
    · refine ⟨-3, cF n 1, mF (cF n 1) 1, ?_, ?_, Inv_F (by decide) h⟩
      · unfold f_X3_refusedRulings
        rw [e_rp1_no n h1.1 hr (by rw [s1]; exact hs0), Option.bind_some, if_neg (show ¬ (-3 : Int32) = 0 by decide), Option.bind_some, if_neg (show ¬ (-3 : Int32) = 0 by decide)]
      · unfold f_X4_noRulings
        have h0 : ¬ (0 : Int32) ≤ (cF n 1).1 45 r := by rw [cF1 (by decide) (by decide), le0]; exact hs0
        rw [e_isRow, Option.bind_some, bI_t hb', if_neg (by decide), gdl_nI (by omega) hr, gdl0, nI_clamp (by omega), if_neg h0, e_find1, Option.bind_some, Option.bind_some, if_neg (show ¬ (-3 : Int32) = 0 by decide)]
  · refine ⟨-1, n, n, ?_, ?_, h⟩
    · unfold f_X3_refusedRulings
      rw [e_rp1_bad n h1.1 hb, Option.bind_some, if_neg (show ¬ (-1 : Int32) = 0 by decide), Option.bind_some, if_neg (show ¬ (-1 : Int32) = 0 by decide)]
    · rw [e_isRow, Option.bind_some, bI_f (by omega), if_pos rfl]
