/-! ===== promise 42: judged ===== -/
theorem Crt_cF {n : xN} {T C f : Nat} (hc : Crt n T C) : Crt (cF n f) T C := Crt_keep hc (by simp [cF, mI1]) (by simp [cF, mI1]) (by simp [cF, mI1]) (by simp [cF, mI1]) (by simp [cF, mI1]) (by simp [cF, mI1]) (by simp [cF, mI1]) (by simp [cF, mI1]) (by simp [cF, mI1]) (by simp [cF, mI1]) (by simp [cF, mI1])
set_option maxHeartbeats 2000000 in
theorem op_judged (N : Nat) (hN : 100 ≤ N) (a b : Int32) : Op (f_X3_judged N a b) (f_X4_judged N a b) := by
  intro n h
  obtain ⟨T, C, hc⟩ := Crt_of h
  obtain ⟨o, ho, eo, xo, hbd⟩ := On_of h hc
  have h1 := h.1
  have hC := hc.2.1
  by_cases ha : 0 ≤ a.toInt ∧ a.toInt < C
  · obtain ⟨k, hk, rfl⟩ := i32_of (k := C) ha.1 ha.2
    by_cases hb : 0 ≤ b.toInt ∧ b.toInt < 6
    · have hb' : 0 ≤ b.toInt ∧ b.toInt ≤ 5 := by omega
      obtain ⟨r, hr, rfl⟩ := i32_of (k := 6) hb.1 (by omega)
      have s1 := (h.2.1 r hr).1
      by_cases hs0 : 0 ≤ (n.1 45 r).toInt
      · obtain ⟨s, hs, e45, e3, ec⟩ := Row_of h hr hs0
        have le : (0 : Int32) ≤ nI s := nI_pos' (by omega)
        by_cases h2 : s % 2 = 0
        · by_cases hj : andA (okJ n T r) (s / 2) = true
          · obtain ⟨-, -, -, kt, k43, k11, -, -, -, -⟩ := hc.2.2.2.2.2.2.2.2.1 k hk
            have ht0 : Trl n (tr n k) (tri n) := ⟨fun b hb => tri1 hb, rfl, fun b hb _ _ => by rw [tri37 hb, hbd b hb]⟩
            obtain ⟨u', hu', ex⟩ := jud_outX N hN hc hk kt hr hs e3 h1.2.1 ec hj 5 N (by omega) (by omega) (0, -9) (tri n) ht0
            have hx : f_X3_judged N (nI k) (nI r) n = some (((alL 6 5).foldr (stX (jP n T r k (tr n k) s) g10) (0, -9)).1, mI u' 0 10 ((alL 6 5).foldr (stX (jP n T r k (tr n k) s) g10) (0, -9)).2) := by
              unfold f_X3_judged
              rw [e_isClX n hC hc.2.2.2.2.2.2.1, Option.bind_some, bI_t ha, if_neg (by decide), e_refJ N hN h hc hr hs e3 ec, if_pos h2, if_pos hj, Option.bind_some, if_pos rfl, e_trial, Option.bind_some, gdl_nI (by omega) (show k < 8 by omega), gdl0, nI_clamp (by omega), tri1 (by decide), k11]
              exact ex
            have hu : ∀ v, Inv (mI (mI u' 0 10 v) 39 11 v) := fun v => Inv_told (Inv_same h (fun b hb => hu'.1 b (by omega)) (fun k _ => by rw [hu'.1 _ (by decide)]) hu'.2.1) v
            have hm : ∀ m : xN, (∀ b, b ≠ 0 → b ≠ 37 → m.1 b = n.1 b) → f_X4_judged N (nI k) (nI r) m = some (((alL 6 5).foldl (stM (jP n T r k (tr n k) s) g10) (0, -9)).1, mI m 39 11 ((alL 6 5).foldl (stM (jP n T r k (tr n k) s) g10) (0, -9)).2) := by
              intro m em
              have hcm : Crt m T C := Crt_keep hc ⟨by rw [em _ (by decide) (by decide)], by rw [em _ (by decide) (by decide)]⟩ (em _ (by decide) (by decide)) (em _ (by decide) (by decide)) (em _ (by decide) (by decide)) (em _ (by decide) (by decide)) (em _ (by decide) (by decide)) (em _ (by decide) (by decide)) (em _ (by decide) (by decide)) (em _ (by decide) (by decide)) (em _ (by decide) (by decide)) (em _ (by decide) (by decide))
              have eJ : ∀ i, okJ m T r i = okJ n T r i := fun i => by unfold okJ clL; rw [em 46 (by decide) (by decide)]
              have eA : okJ m T r = okJ n T r := funext eJ
              have eP : jP m T r k (tr n k) s = jP n T r k (tr n k) s := by
                funext x
                unfold jP
                have : jB m T r k (bd2 m (tr n k) x) = jB n T r k (bd2 n (tr n k) x) := by
                  funext i
                  unfold jB bd2 clL
                  rw [hbK_same (em _ (by decide) (by decide)) (em _ (by decide) (by decide)) (em _ (by decide) (by decide)) (em _ (by decide) (by decide)), em 46 (by decide) (by decide), em 40 (by decide) (by decide)]
                rw [this]
              have e45m : m.1 45 r = nI s := by rw [em 45 (by decide) (by decide)]; exact e45
              have ex := jud_outM N hN hcm hk kt hr hs h2 e45m (by rw [eA]; exact hj) 5 0 N (by omega) (by omega) (mI m 39 11 (-9)) ⟨fun b n1 n2 => by rw [mI1, if_neg n1], rfl, by rw [mI1, if_pos rfl]; rfl, fun j _ _ => by rw [mI1, if_neg (by decide)]⟩
              rw [eP] at ex
              unfold f_X4_judged
              rw [e_isClM m hC hcm.2.2.2.2.1, Option.bind_some, bI_t ha, if_neg (by decide), e_isRow, Option.bind_some, bI_t hb', if_neg (by decide), gdl_nI (by omega) hr, gdl0, nI_clamp (by omega), e45m, if_pos le, gdl_nI (by omega) hr, gdlT nz2, gdl0, e_m2 hs, h2, if_pos (show nI 0 = 0 from rfl), e_areJ N hN m hc.1 hcm.2.2.2.1 hr hs h2 e45m, Option.bind_some, eA, bI_t hj, if_neg (by decide), gdl_nI (by omega) (show k < 8 by omega), nI_clamp (by omega), em 43 (by decide) (by decide), k43, e_2i, show (2 : Int32) = nI 2 from rfl, nI_add, nI_1, gdl_nI (by omega) (by omega), gdl_nI (by omega) (by omega), gdl0, nI_clamp (by omega), nI_clamp (by omega)]
              exact ex
            have em : ∀ b, b ≠ 0 → b ≠ 37 → (mI u' 0 10 ((alL 6 5).foldr (stX (jP n T r k (tr n k) s) g10) (0, -9)).2).1 b = n.1 b := fun b n1 n2 => by rw [mI1, if_neg n1, hu'.1 b n2]
            have hl := alL_len 6 5
            refine Op_mk hx (hm _ em) ?_ ?_
            · rw [fold_XM _ _ (by omega)]
            · rw [fold_XM _ _ (by omega)]; exact hu _
          · have hja : ∀ i, okJ (cF n 3) T r i = okJ n T r i := fun i => by unfold okJ clL; rw [cF1 (by decide) (by decide)]
            refine ⟨-3, cF n 3, mF (cF n 3) 3, ?_, ?_, Inv_F (by decide) h⟩
            · unfold f_X3_judged
              rw [e_isClX n hC hc.2.2.2.2.2.2.1, Option.bind_some, bI_t ha, if_neg (by decide), e_refJ N hN h hc hr hs e3 ec, if_pos h2, if_neg hj, Option.bind_some, if_neg (show ¬ (-3 : Int32) = 0 by decide)]
            · unfold f_X4_judged
              have hcm : Crt (cF n 3) T C := Crt_cF hc
              have e45m : (cF n 3).1 45 r = nI s := by rw [cF1 (by decide) (by decide)]; exact e45
              rw [e_isClM _ hC hcm.2.2.2.2.1, Option.bind_some, bI_t ha, if_neg (by decide), e_isRow, Option.bind_some, bI_t hb', if_neg (by decide), gdl_nI (by omega) hr, gdl0, nI_clamp (by omega), e45m, if_pos le, gdl_nI (by omega) hr, gdlT nz2, gdl0, e_m2 hs, h2, if_pos (show nI 0 = 0 from rfl), e_areJ N hN _ hc.1 hcm.2.2.2.1 hr hs h2 e45m, Option.bind_some, funext hja, bI_f hj, if_pos rfl, e_find3, Option.bind_some]
        · refine ⟨-3, cF n 5, mF (cF n 5) 5, ?_, ?_, Inv_F (by decide) h⟩
          · unfold f_X3_judged
            rw [e_isClX n hC hc.2.2.2.2.2.2.1, Option.bind_some, bI_t ha, if_neg (by decide), e_refJ N hN h hc hr hs e3 ec, if_neg h2, Option.bind_some, if_neg (show ¬ (-3 : Int32) = 0 by decide)]
          · unfold f_X4_judged
            have hcm : Crt (cF n 5) T C := Crt_cF hc
            have e45m : (cF n 5).1 45 r = nI s := by rw [cF1 (by decide) (by decide)]; exact e45
            rw [e_isClM _ hC hcm.2.2.2.2.1, Option.bind_some, bI_t ha, if_neg (by decide), e_isRow, Option.bind_some, bI_t hb', if_neg (by decide), gdl_nI (by omega) hr, gdl0, nI_clamp (by omega), e45m, if_pos le, gdl_nI (by omega) hr, gdlT nz2, gdl0, e_m2 hs, if_neg (nI_ne0 (by omega) (by omega)), e_find5, Option.bind_some]
      · refine ⟨-3, cF n 1, mF (cF n 1) 1, ?_, ?_, Inv_F (by decide) h⟩
        · unfold f_X3_judged f_X3_refusedJudgements
          rw [e_isClX n hC hc.2.2.2.2.2.2.1, Option.bind_some, bI_t ha, if_neg (by decide), e_rp1_no n h1.1 hr (by rw [s1]; exact hs0), Option.bind_some, if_neg (show ¬ (-3 : Int32) = 0 by decide), Option.bind_some, if_neg (show ¬ (-3 : Int32) = 0 by decide)]
        · unfold f_X4_judged
          have hcm : Crt (cF n 1) T C := Crt_cF hc
          have h0 : ¬ (0 : Int32) ≤ (cF n 1).1 45 r := by rw [cF1 (by decide) (by decide), le0]; exact hs0
          rw [e_isClM _ hC hcm.2.2.2.2.1, Option.bind_some, bI_t ha, if_neg (by decide), e_isRow, Option.bind_some, bI_t hb', if_neg (by decide), gdl_nI (by omega) hr, gdl0, nI_clamp (by omega), if_neg h0, e_find1, Option.bind_some]
    · refine ⟨-1, n, n, ?_, ?_, h⟩
      · unfold f_X3_judged f_X3_refusedJudgements
        rw [e_isClX n hC hc.2.2.2.2.2.2.1, Option.bind_some, bI_t ha, if_neg (by decide), e_rp1_bad n h1.1 hb, Option.bind_some, if_neg (show ¬ (-1 : Int32) = 0 by decide), Option.bind_some, if_neg (show ¬ (-1 : Int32) = 0 by decide)]
      · unfold f_X4_judged f_X4_judged_L15
        rw [e_isClM n hC hc.2.2.2.2.1, Option.bind_some, bI_t ha, if_neg (by decide), e_isRow, Option.bind_some, bI_f (by omega), if_pos rfl]
  · refine ⟨-1, n, n, ?_, ?_, h⟩
    · unfold f_X3_judged
      rw [e_isClX n hC hc.2.2.2.2.2.2.1, Option.bind_some, bI_f ha, if_pos rfl]
    · unfold f_X4_judged f_X4_judged_L15
      rw [e_isClM n hC hc.2.2.2.2.1, Option.bind_some, bI_f ha, if_pos rfl]
