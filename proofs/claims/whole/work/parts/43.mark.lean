/-! ===== promises 14, 39: mark, worth ===== -/
theorem Bd_of {n : xN} (h : Inv n) : ∀ t, t < 4 → ∃ a b : Nat, a < b ∧ b ≤ 5 ∧ bdM (n.1 40) (2 * t) = nI a ∧ bdM (n.1 40) (2 * t + 1) = nI b := by
  obtain ⟨-, -, -, -, -, -, -, ⟨e1, e2, e3, dn, hd, ed, hs, -⟩, -⟩ := h
  intro t ht
  obtain ⟨-, hb⟩ := hs dn (Nat.le_refl _)
  obtain ⟨a, b, h1, h2, h3, h4⟩ := hb t ht
  rw [snapR, if_neg (Nat.lt_irrefl _)] at h3 h4
  refine ⟨a, b, h1, h2, ?_, ?_⟩
  · rw [← h3, bdM, show 2 + 2 * t = 0 + 1 + (1 + 2 * t) by omega]
  · rw [← h4, bdM, show 2 + (2 * t + 1) = 0 + 1 + (2 + 2 * t) by omega]
theorem e_upX (n : xN) {t : Nat} (ht : t < 4) : f_X2_upperOf_19 (nI t) n = some (n.1 20 (2 * t + 1)) := by
  unfold f_X2_upperOf_19
  rw [show (2 : Int32) * nI t = nI (2 * t) from pk_mul 2 t, nI_1, gdl_nI (by omega) (by omega), gdl0, nI_clamp (by omega)]
theorem e_loX (n : xN) {t : Nat} (ht : t < 4) : f_X2_lowerOf_19 (nI t) n = some (n.1 20 (2 * t)) := by
  unfold f_X2_lowerOf_19
  rw [show (2 : Int32) * nI t = nI (2 * t) from pk_mul 2 t, gdl_nI (by omega) (by omega), gdl0, nI_clamp (by omega)]
theorem e_makers (N : Nat) (hN : 100 ≤ N) (n : xN) {T C t : Nat} (hc : Crt n T C) (hbd : ∀ b, b < 8 → n.1 20 b = bdM (n.1 40) b) (ht : t < 4) : f_X3_makersOf N (nI t) n = some (nI (cnt (fun i => decide (bdM (n.1 40) (2 * t + 1) ≤ vS (n.1 41) T (2 ^ i) t)) T)) := by
  have hT := hc.1
  unfold f_X3_makersOf
  have key := eq_forG (rc := f_X3_makersOf_L4 N n) (body := f_X3_makersOf_L4b N n) (fun f i (s : Int32) => f (nI t) s i) (fun _ => rfl) 0 T (fun i => nI (cnt (fun i => decide (bdM (n.1 40) (2 * t + 1) ≤ vS (n.1 41) T (2 ^ i) t)) i)) (some (nI (cnt (fun i => decide (bdM (n.1 40) (2 * t + 1) ≤ vS (n.1 41) T (2 ^ i) t)) T))) ?_ ?_ N 0 (Nat.le_refl _) (Nat.zero_le _) (by omega)
  · exact key
  · intro f i _ hi
    unfold f_X3_makersOf_L4b f_X3_makersOf_L40
    have hw : 2 ^ i < 2 ^ T := Nat.pow_lt_pow_right (by decide) hi
    rw [hc.2.2.2.2.2.1, if_neg (by rw [nI_leI (by omega) (by omega)]; omega), sh1 (by omega), e_valX n hT hw (show t < 5 by omega) (hc.2.2.2.2.2.2.2.1 _ hw t (by omega)), Option.bind_some, e_upX n ht, Option.bind_some, hbd (2 * t + 1) (by omega), nI_1, cnt]
    by_cases q : bdM (n.1 40) (2 * t + 1) ≤ vS (n.1 41) T (2 ^ i) t
    · rw [if_neg ((nlt_le _ _).mpr q), if_pos (by simp [q]), nI_1]
    · rw [if_pos ((nle_lt _ _).mp q), if_neg (by simp [q])]; rfl
  · intro f
    unfold f_X3_makersOf_L4b
    rw [hc.2.2.2.2.2.1, if_pos (by rw [nI_leI (by omega) (by omega)]; omega)]
theorem e_muchA (N : Nat) (hN : 100 ≤ N) (n : xN) {T C t : Nat} (hc : Crt n T C) (ht : t < 4) : f_X4_muchAlone N (nI t) n = some (nI (cnt (fun i => decide (bdM (n.1 40) (2 * t + 1) ≤ vS (n.1 41) T (2 ^ i) t)) T)) := by
  have hT := hc.1
  unfold f_X4_muchAlone
  have key := eq_forG (rc := f_X4_muchAlone_L4 N n) (body := f_X4_muchAlone_L4b N n) (fun f i (s : Int32) => f (nI t) s i) (fun _ => rfl) 0 T (fun i => nI (cnt (fun i => decide (bdM (n.1 40) (2 * t + 1) ≤ vS (n.1 41) T (2 ^ i) t)) i)) (some (nI (cnt (fun i => decide (bdM (n.1 40) (2 * t + 1) ≤ vS (n.1 41) T (2 ^ i) t)) T))) ?_ ?_ N 0 (Nat.le_refl _) (Nat.zero_le _) (by omega)
  · exact key
  · intro f i _ hi
    unfold f_X4_muchAlone_L4b f_X4_muchAlone_L29
    have hw : 2 ^ i ≤ 2 ^ 6 := p2 (by omega)
    rw [hc.2.2.2.1, if_neg (by rw [nI_leI (by omega) (by omega)]; omega), sh1 (by omega), e_isMuch N (by omega) n hT hc.2.2.2.1 (by omega) ht, Option.bind_some, nI_1, cnt]
    by_cases q : bdM (n.1 40) (2 * t + 1) ≤ vS (n.1 41) T (2 ^ i) t
    · rw [bI_t q, if_neg (by decide), if_pos (by simp [q]), nI_1]
    · rw [bI_f q, if_pos rfl, if_neg (by simp [q]), Int32.add_zero]; rfl
  · intro f
    unfold f_X4_muchAlone_L4b
    rw [hc.2.2.2.1, if_pos (by rw [nI_leI (by omega) (by omega)]; omega)]
theorem e_littleX (N : Nat) (hN : 100 ≤ N) (n : xN) {T C t : Nat} (hc : Crt n T C) (hbd : ∀ b, b < 8 → n.1 20 b = bdM (n.1 40) b) (ht : t < 4) : f_X3_littleWays N (nI t) n = some (nI (cnt (fun w => decide (vS (n.1 41) T w t ≤ bdM (n.1 40) (2 * t))) (2 ^ T))) := by
  have h6 : 2 ^ T ≤ 2 ^ 6 := p2 hc.1
  unfold f_X3_littleWays
  have key := eq_forG (rc := f_X3_littleWays_L4 N n) (body := f_X3_littleWays_L4b N n) (fun f i (s : Int32) => f (nI t) s i) (fun _ => rfl) 0 (2 ^ T) (fun i => nI (cnt (fun w => decide (vS (n.1 41) T w t ≤ bdM (n.1 40) (2 * t))) i)) (some (nI (cnt (fun w => decide (vS (n.1 41) T w t ≤ bdM (n.1 40) (2 * t))) (2 ^ T)))) ?_ ?_ N 0 (Nat.le_refl _) (Nat.zero_le _) (by omega)
  · exact key
  · intro f i _ hi
    unfold f_X3_littleWays_L4b f_X3_littleWays_L38
    rw [e_waysX _ hc.1 hc.2.2.2.2.2.1, Option.bind_some, if_neg (by rw [nI_leI (by omega) (by omega)]; omega), e_valX n hc.1 hi (show t < 5 by omega) (hc.2.2.2.2.2.2.2.1 _ hi t (by omega)), Option.bind_some, e_loX n ht, Option.bind_some, hbd (2 * t) (by omega), nI_1, cnt]
    by_cases q : vS (n.1 41) T i t ≤ bdM (n.1 40) (2 * t)
    · rw [if_neg ((nlt_le _ _).mpr q), if_pos (by simp [q]), nI_1]
    · rw [if_pos ((nle_lt _ _).mp q), if_neg (by simp [q])]; rfl
  · intro f
    unfold f_X3_littleWays_L4b
    rw [e_waysX _ hc.1 hc.2.2.2.2.2.1, Option.bind_some, if_pos (by rw [nI_leI (by omega) (by omega)]; omega)]
theorem e_littleM (N : Nat) (hN : 100 ≤ N) (n : xN) {T C t : Nat} (hc : Crt n T C) (ht : t < 4) : f_X4_littleMany N (nI t) n = some (nI (cnt (fun w => decide (vS (n.1 41) T w t ≤ bdM (n.1 40) (2 * t))) (2 ^ T))) := by
  have h6 : 2 ^ T ≤ 2 ^ 6 := p2 hc.1
  unfold f_X4_littleMany
  have key := eq_forG (rc := f_X4_littleMany_L4 N n) (body := f_X4_littleMany_L4b N n) (fun f i (s : Int32) => f (nI t) s i) (fun _ => rfl) 0 (2 ^ T) (fun i => nI (cnt (fun w => decide (vS (n.1 41) T w t ≤ bdM (n.1 40) (2 * t))) i)) (some (nI (cnt (fun w => decide (vS (n.1 41) T w t ≤ bdM (n.1 40) (2 * t))) (2 ^ T)))) ?_ ?_ N 0 (Nat.le_refl _) (Nat.zero_le _) (by omega)
  · exact key
  · intro f i _ hi
    unfold f_X4_littleMany_L4b f_X4_littleMany_L27
    rw [e_waysM _ hc.1 hc.2.2.2.1, Option.bind_some, if_neg (by rw [nI_leI (by omega) (by omega)]; omega), e_isLittle N (by omega) n hc.1 hc.2.2.2.1 (by omega) ht, Option.bind_some, nI_1, cnt]
    by_cases q : vS (n.1 41) T i t ≤ bdM (n.1 40) (2 * t)
    · rw [bI_t q, if_neg (by decide), if_pos (by simp [q]), nI_1]
    · rw [bI_f q, if_pos rfl, if_neg (by simp [q]), Int32.add_zero]; rfl
  · intro f
    unfold f_X4_littleMany_L4b
    rw [e_waysM _ hc.1 hc.2.2.2.1, Option.bind_some, if_pos (by rw [nI_leI (by omega) (by omega)]; omega)]
def ofK (a b : Nat) : Bool := decide (a = b) || ((decide (b = 1) && decide (a = 4)) || (decide (b = 2) && decide (a = 5)))
theorem e_ofKX (n : xN) {a b : Nat} (ha : a ≤ 5) (h1 : 1 ≤ b) (h5 : b ≤ 5) : f_X3_isOfKind (nI a) (nI b) n = some (bI (ofK a b = true)) := by
  rcases (show a = 0 ∨ a = 1 ∨ a = 2 ∨ a = 3 ∨ a = 4 ∨ a = 5 by omega) with rfl | rfl | rfl | rfl | rfl | rfl <;> rcases (show b = 1 ∨ b = 2 ∨ b = 3 ∨ b = 4 ∨ b = 5 by omega) with rfl | rfl | rfl | rfl | rfl <;> rfl
theorem e_ofKM (n : xN) {k a b : Nat} (hk : k < 8) (ea : n.1 42 k = nI a) (ha : a ≤ 5) (h1 : 1 ≤ b) (h5 : b ≤ 5) : f_X4_isOf (nI k) (nI b) n = some (bI (ofK a b = true)) := by
  unfold f_X4_isOf f_X4_isOf_L25 f_X4_isOf_L40 f_X4_isOf_L44 f_X4_isOf_L45
  rw [gdl_nI (by omega) hk, gdl_nI (by omega) hk, gdl_nI (by omega) hk, gdl0, gdl0, gdl0, nI_clamp (by omega), ea]
  rcases (show a = 0 ∨ a = 1 ∨ a = 2 ∨ a = 3 ∨ a = 4 ∨ a = 5 by omega) with rfl | rfl | rfl | rfl | rfl | rfl <;> rcases (show b = 1 ∨ b = 2 ∨ b = 3 ∨ b = 4 ∨ b = 5 by omega) with rfl | rfl | rfl | rfl | rfl <;> rfl
set_option maxHeartbeats 2000000 in
theorem op_mark (N : Nat) (hN : 100 ≤ N) (a b : Int32) : Op (f_X3_mark N a b) (f_X4_mark N a b) := by
  intro n h
  obtain ⟨T, C, hc⟩ := Crt_of h
  obtain ⟨o, ho, eo, xo, hbd⟩ := On_of h hc
  obtain ⟨hT, hC, h0, eT, eC, xT, xC, hs, hcl, hg⟩ := id hc
  have z5 : (5 : Int32).toInt = 5 := rfl
  have e4 : f_X4_in (Int32.toInt64 b) (1 : Int64) (5 : Int64) = some (bI (1 ≤ b.toInt ∧ b.toInt ≤ 5)) := by rw [e_inI]; rfl
  by_cases ha : 0 ≤ a.toInt ∧ a.toInt < C
  · by_cases hb : 1 ≤ b.toInt ∧ b.toInt ≤ 5
    · obtain ⟨k, hk, rfl⟩ := i32_of ha.1 ha.2
      obtain ⟨w, hw, rfl⟩ := i32_of (show 0 ≤ b.toInt by omega) (k := 6) (by omega)
      have hwi := nI_toInt (n := w) (by omega)
      obtain ⟨hka, eka, xka, ht, et, xt, eoo, hso, h25, -⟩ := hcl k hk
      have b1 : ¬ nI w < 1 := by rw [i32_lt, z1]; omega
      have b2 : nI w ≤ 5 := by rw [i32_le, z5]; omega
      by_cases q : ofK (kn n k) w = true
      · have common : ∀ v : Int32, f_X3_mark N (nI k) (nI w) n = some (v, n) → f_X4_mark N (nI k) (nI w) n = some (v, n) → ∃ r n1 n2, f_X3_mark N (nI k) (nI w) n = some (r, n1) ∧ f_X4_mark N (nI k) (nI w) n1 = some (r, n2) ∧ Inv n2 := fun v p1 p2 => ⟨v, n, n, p1, p2, h⟩
        have hX : f_X3_mark N (nI k) (nI w) n = (if Int32.toInt (nI w) < 1 ∨ 4 < Int32.toInt (nI w) then (Option.bind (f_X3_littleWays N (nI (sc n k)) n) (fun r148 => some (r148, n))) else if nI w = (1 : Int32) then (Option.bind (f_X2_upperOf_19 (nI (tr n k)) n) (fun r97 => Option.bind (f_X2_lowerOf_19 (nI (tr n k)) n) (fun r105 => some (((r97 - r105) - (1 : Int32)), n)))) else if nI w = (2 : Int32) then (Option.bind (f_X2_upperOf_19 (nI (tr n k)) n) (fun r117 => Option.bind (f_X2_upperOf_19 (nI (sc n k)) n) (fun r126 => some ((if r117 < r126 then r126 else r117), n)))) else if nI w = (3 : Int32) then (Option.bind (f_X3_makersOf N (nI (tr n k)) n) (fun r135 => some (r135, n))) else if nI w = (4 : Int32) then (Option.bind (f_X3_halfOf (nI (tr n k)) n) (fun r141 => some (r141, n))) else none) := by
          rw [f_X3_mark, e_isClX n hC xC, bI_t ha, Option.bind_some, if_neg (by decide), if_neg b1, if_pos b2, gdl_nI (by omega) (by omega), gdl0, nI_clamp (by omega), xka, e_ofKX n hka (by omega) (by omega), bI_t q, Option.bind_some, if_neg (by decide), gdl_nI (by omega) (by omega), gdl0, e_secondOf n (by omega) xt ht (by rw [eoo]; exact hso), Option.bind_some, xt]
        have hM0 : f_X4_mark N (nI k) (nI w) n = (if Int32.toInt (nI w) < 1 ∨ 4 < Int32.toInt (nI w) then (Option.bind (f_X4_littleMany N (n.1 44 k) n) (fun r164 => some (r164, n))) else if nI w = (1 : Int32) then (Option.bind (f_X4_upperOf (nI (tr n k)) n) (fun r78 => Option.bind (f_X4_lowerOf (nI (tr n k)) n) (fun r83 => some (((r78 - r83) - (1 : Int32)), n)))) else if nI w = (2 : Int32) then (Option.bind (f_X4_upperOf (nI (tr n k)) n) (fun r92 => (Option.bind (f_X4_upperOf (n.1 44 k) n) (fun r102 => if r92 ≤ r102 then ((Option.bind (f_X4_upperOf (n.1 44 k) n) (fun r123 => f_X4_mark_L126 N r123 n))) else Option.bind (f_X4_upperOf (nI (tr n k)) n) (fun r110 => f_X4_mark_L126 N r110 n))))) else if nI w = (3 : Int32) then (Option.bind (f_X4_muchAlone N (nI (tr n k)) n) (fun r129 => some (r129, n))) else if nI w = (4 : Int32) then (Option.bind (f_X4_half (nI (tr n k)) n) (fun r136 => Option.bind (f_X4_isBetween r136 (nI (tr n k)) n) (fun r140 => if r140 = (0 : Int32) then f_X4_mark_L156 N (-9 : Int32) n else Option.bind (f_X4_half (nI (tr n k)) n) (fun r148 => f_X4_mark_L156 N r148 n)))) else none) := by
          have g8 : ∀ (x : Option (Int32 × xN)), gdl [inb (nI k) 8] x = x := fun x => by rw [gdl_nI (by omega) (by omega), gdl0]
          rw [f_X4_mark, e_isClM n hC eC, bI_t ha, Option.bind_some, if_neg (by decide), e4, bI_t hb, Option.bind_some, if_neg (by decide), e_ofKM n (show k < 8 by omega) eka hka (by omega) (by omega), bI_t q, Option.bind_some, if_neg (by decide)]
          simp only [g8, nI_clamp (show k < 2 ^ 31 by omega), et]
        obtain ⟨lo, up, hlu, hu5, elo, eup⟩ := Bd_of h (tr n k) ht
        rcases (show w = 1 ∨ w = 2 ∨ w = 3 ∨ w = 4 ∨ w = 5 by omega) with rfl | rfl | rfl | rfl | rfl
        · refine common (bdM (n.1 40) (2 * tr n k + 1) - bdM (n.1 40) (2 * tr n k) - 1) ?_ ?_
          · rw [hX, if_neg (by decide), if_pos (by decide), e_upX n ht, Option.bind_some, e_loX n ht, Option.bind_some, hbd _ (by omega), hbd _ (by omega)]
          · rw [hM0, if_neg (by decide), if_pos (by decide), e_upperM n ht, Option.bind_some, e_lowerM n ht, Option.bind_some]
        · have hk2 : kn n k = 2 ∨ kn n k = 5 := by
            simp only [ofK, Bool.or_eq_true, Bool.and_eq_true, decide_eq_true_eq] at q
            omega
          obtain ⟨q1, q2⟩ := h25 hk2
          refine common (if bdM (n.1 40) (2 * tr n k + 1) < bdM (n.1 40) (2 * sc n k + 1) then bdM (n.1 40) (2 * sc n k + 1) else bdM (n.1 40) (2 * tr n k + 1)) ?_ ?_
          · rw [hX, if_neg (by decide), if_neg (by decide), if_pos (by decide), e_upX n ht, Option.bind_some, e_upX n q2, Option.bind_some, hbd _ (by omega), hbd _ (by omega)]
          · rw [hM0, if_neg (by decide), if_neg (by decide), if_pos (by decide), q1, e_upperM n ht, Option.bind_some, e_upperM n q2, Option.bind_some]
            unfold f_X4_mark_L126
            by_cases r : bdM (n.1 40) (2 * tr n k + 1) < bdM (n.1 40) (2 * sc n k + 1)
            · rw [if_pos r, if_pos (by rw [i32_lt] at r; rw [i32_le]; omega)]; rfl
            · rw [if_neg r]
              by_cases r2 : bdM (n.1 40) (2 * tr n k + 1) ≤ bdM (n.1 40) (2 * sc n k + 1)
              · rw [if_pos r2]
                have : bdM (n.1 40) (2 * sc n k + 1) = bdM (n.1 40) (2 * tr n k + 1) := by
                  rw [i32_lt] at r; rw [i32_le] at r2; rw [i32_eq]; omega
                rw [this]; rfl
              · rw [if_neg r2]; rfl
        · refine common (nI (cnt (fun i => decide (bdM (n.1 40) (2 * tr n k + 1) ≤ vS (n.1 41) T (2 ^ i) (tr n k))) T)) ?_ ?_
          · rw [hX, if_neg (by decide), if_neg (by decide), if_neg (by decide), if_pos (by decide), e_makers N hN n hc hbd ht, Option.bind_some]
          · rw [hM0, if_neg (by decide), if_neg (by decide), if_neg (by decide), if_pos (by decide), e_muchA N hN n hc ht, Option.bind_some]
        · have hh : (bdM (n.1 40) (2 * tr n k) + bdM (n.1 40) (2 * tr n k + 1)) / 2 = nI ((lo + up) / 2) := by
            rw [elo, eup, nI_add, show (2 : Int32) = nI 2 from rfl, pk_div (by omega) (by decide) (by decide)]
          refine common (if (lo + up) / 2 ≤ lo then -9 else nI ((lo + up) / 2)) ?_ ?_
          · rw [hX, if_neg (by decide), if_neg (by decide), if_neg (by decide), if_neg (by decide), if_pos (by decide), f_X3_halfOf, e_loX n ht, Option.bind_some, e_upX n ht, Option.bind_some, gdlT (by decide), gdl0, Option.bind_some, hbd _ (by omega), hbd _ (by omega), hh, elo]
            unfold f_X3_halfOf_L38
            by_cases r : (lo + up) / 2 ≤ lo
            · rw [if_pos ((nI_leI (by omega) (by omega)).mpr r), if_pos r]; rfl
            · rw [if_neg (fun z => r ((nI_leI (by omega) (by omega)).mp z)), if_neg r]; rfl
          · rw [hM0, if_neg (by decide), if_neg (by decide), if_neg (by decide), if_neg (by decide), if_pos (by decide), e_half n ht, Option.bind_some, e_isBetween n ht, Option.bind_some, Option.bind_some, hh, elo, eup]
            unfold f_X4_mark_L156
            by_cases r : (lo + up) / 2 ≤ lo
            · rw [bI_f (fun z => by have := (nI_ltI (by omega) (by omega)).mp z.1; omega), if_pos rfl, if_pos r]
            · rw [bI_t ⟨(nI_ltI (by omega) (by omega)).mpr (by omega), (nI_ltI (by omega) (by omega)).mpr (by omega)⟩, if_neg (by decide), if_neg r]
        · have hk2 : kn n k = 2 ∨ kn n k = 5 := by
            simp only [ofK, Bool.or_eq_true, Bool.and_eq_true, decide_eq_true_eq] at q
            omega
          obtain ⟨q1, q2⟩ := h25 hk2
          refine common (nI (cnt (fun w => decide (vS (n.1 41) T w (sc n k) ≤ bdM (n.1 40) (2 * sc n k))) (2 ^ T))) ?_ ?_
          · rw [hX, if_pos (by decide), e_littleX N hN n hc hbd q2, Option.bind_some]
          · rw [hM0, if_pos (by decide), q1, e_littleM N hN n hc q2, Option.bind_some]
      · refine ⟨-3, cF n 3, mF (cF n 3) 3, ?_, ?_, Inv_F (by decide) h⟩
        · rw [f_X3_mark, e_isClX n hC xC, bI_t ha, Option.bind_some, if_neg (by decide), if_neg b1, if_pos b2, gdl_nI (by omega) (by omega), gdl0, nI_clamp (by omega), xka, e_ofKX n hka (by omega) (by omega), bI_f q, Option.bind_some, if_pos rfl, e_refuse3]
          rfl
        · have c39 : (cF n 3).1 39 = n.1 39 := cF1 (by decide) (by decide)
          have c42 : (cF n 3).1 42 = n.1 42 := cF1 (by decide) (by decide)
          rw [f_X4_mark, e_isClM _ hC (by rw [c39]; exact eC), bI_t ha, Option.bind_some, if_neg (by decide), e4, bI_t hb, Option.bind_some, if_neg (by decide), e_ofKM _ (show k < 8 by omega) (by rw [c42]; exact eka) hka (by omega) (by omega), bI_f q, Option.bind_some, if_pos rfl, e_find3]
          rfl
    · refine ⟨-1, n, n, ?_, ?_, h⟩
      · rw [f_X3_mark, e_isClX n hC xC, bI_t ha, Option.bind_some, if_neg (by decide)]
        by_cases q : b < 1
        · rw [if_pos q]; rfl
        · rw [if_neg q, if_neg (by rw [i32_lt, z1] at q; rw [i32_le, z5]; omega)]; rfl
      · rw [f_X4_mark, e_isClM _ hC eC, bI_t ha, Option.bind_some, if_neg (by decide), e4, bI_f hb, Option.bind_some, if_pos rfl]; rfl
  · refine ⟨-1, n, n, ?_, ?_, h⟩
    · rw [f_X3_mark, e_isClX n hC xC, bI_f ha, Option.bind_some, if_pos rfl]; rfl
    · rw [f_X4_mark, e_isClM _ hC eC, bI_f ha, Option.bind_some, if_pos rfl]; rfl
