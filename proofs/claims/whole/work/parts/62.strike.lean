/-! ===== promises 16, 17: strike, move ===== -/
theorem nat_or_xor {o k : Nat} (h : o.testBit k = false) : o ||| 2 ^ k = o ^^^ 2 ^ k := by
  apply Nat.eq_of_testBit_eq
  intro j
  rw [Nat.testBit_or, Nat.testBit_xor, Nat.testBit_two_pow]
  by_cases e : k = j
  · subst e; rw [h]; simp
  · simp [e]
theorem rmv_xor {o k : Nat} (h : o.testBit k = false) : rmv (o ^^^ 2 ^ k) k = o := by
  apply Nat.eq_of_testBit_eq
  intro j
  rw [rmv_tb, Nat.testBit_xor, Nat.testBit_two_pow]
  by_cases e : k = j
  · subst e; rw [h]; simp
  · have : ¬ j = k := fun z => e z.symm
    simp [e, this]
theorem rmv_or {o k : Nat} (h : o.testBit k = true) : rmv o k ||| 2 ^ k = o := by
  apply Nat.eq_of_testBit_eq
  intro j
  rw [Nat.testBit_or, rmv_tb, Nat.testBit_two_pow]
  by_cases e : k = j
  · subst e; rw [h]; simp
  · have : ¬ j = k := fun z => e z.symm
    simp [e, this]
theorem e_isOn (n : xN) {o k : Nat} (xo : n.1 19 1 = nI o) (ho : o < 2 ^ 31) (hk : k < 32) : f_X2_isOn_19 (nI k) n = some (bI (o.testBit k = true)) := by
  unfold f_X2_isOn_19
  rw [xo, e_hasBit ho hk, Option.bind_some, gdl_bI, gdl0]
theorem okB8 {C : Nat} {row : Nat → Int32} (h : okSnap C (fun j => row (1 + j))) : ∀ t, t < 4 → ∃ a b : Nat, a < b ∧ b ≤ 5 ∧ row (2 + 2 * t) = nI a ∧ row (3 + 2 * t) = nI b := by
  intro t ht
  obtain ⟨a, b, h1, h2, h3, h4⟩ := h.2 t ht
  refine ⟨a, b, h1, h2, ?_, ?_⟩
  · rw [← h3, show 2 + 2 * t = 1 + (1 + 2 * t) by omega]
  · rw [← h4, show 3 + 2 * t = 1 + (2 + 2 * t) by omega]
theorem snap_now {n : xN} {T C : Nat} (h : Inv n) (hc : Crt n T C) : okSnap C (fun j => n.1 40 (1 + j)) := by
  have e := cOf_c hc
  obtain ⟨-, -, -, -, -, -, -, ⟨h1, h2, h3, dn, hdn, e0, hok, -⟩, -⟩ := h
  rw [e] at hok
  refine okS_c (fun j hj => ?_) (hok dn (Nat.le_refl _))
  unfold snapR
  rw [if_neg (by omega), show 0 + 1 + j = 1 + j by omega]
/-- the new row behind a deed -/
theorem kp_row {m : xN} {dn q : Nat} {v : Int32} (hd : dn < 40) (h1 : 1 ≤ q) (h9 : q ≤ 9) :
    (mI (mI (kpI m dn 9) 40 0 (nI (dn + 1))) 40 q v).1 40 0 = nI (dn + 1) ∧ (∀ d, d < dn → ∀ j, j < 9 → (mI (mI (kpI m dn 9) 40 0 (nI (dn + 1))) 40 q v).1 40 (10 + 9 * d + j) = m.1 40 (10 + 9 * d + j)) ∧ (∀ j, j < 9 → (mI (mI (kpI m dn 9) 40 0 (nI (dn + 1))) 40 q v).1 40 (10 + 9 * dn + j) = m.1 40 (1 + j)) ∧ (mI (mI (kpI m dn 9) 40 0 (nI (dn + 1))) 40 q v).1 40 q = v ∧ (∀ j, j < 9 → 1 + j ≠ q → (mI (mI (kpI m dn 9) 40 0 (nI (dn + 1))) 40 q v).1 40 (1 + j) = m.1 40 (1 + j)) ∧ (∀ p, 370 ≤ p → (mI (mI (kpI m dn 9) 40 0 (nI (dn + 1))) 40 q v).1 40 p = m.1 40 p) := by
  have e : ∀ p, (mI (mI (kpI m dn 9) 40 0 (nI (dn + 1))) 40 q v).1 40 p = if p = q then v else if p = 0 then nI (dn + 1) else if 10 + 9 * dn ≤ p ∧ p < 10 + 9 * dn + 9 then m.1 40 (p - (9 + 9 * dn)) else m.1 40 p := by
    intro p
    rw [mI1, if_pos rfl, mI1, if_pos rfl, kpI1, if_pos rfl]
    rfl
  refine ⟨?_, fun d hd1 j hj => ?_, fun j hj => ?_, ?_, fun j hj hne => ?_, fun p hp => ?_⟩
  · rw [e, if_neg (by omega), if_pos rfl]
  · rw [e, if_neg (by omega), if_neg (by omega), if_neg (by omega)]
  · rw [e, if_neg (by omega), if_neg (by omega), if_pos (by omega), show 10 + 9 * dn + j - (9 + 9 * dn) = 1 + j by omega]
  · rw [e, if_pos rfl]
  · rw [e, if_neg hne, if_neg (by omega), if_neg (by omega)]
  · rw [e, if_neg (by omega), if_neg (by omega), if_neg (by omega)]
theorem kpI2 {m : xN} {dn i b : Nat} (h : b ≠ 40) : (kpI m dn i).1 b = m.1 b := by rw [kpI1, if_neg h]
set_option maxHeartbeats 2000000 in
theorem op_strike (N : Nat) (hN : 100 ≤ N) (a b : Int32) : Op (f_X3_strike a b) (f_X4_strike N a b) := by
  intro n h
  obtain ⟨T, C, hc⟩ := Crt_of h
  obtain ⟨o, ho, eo, xo, hbd⟩ := On_of h hc
  obtain ⟨dn, hdn, e0, x0⟩ := Dn_of h
  have h8 := p8 hc.2.1
  have hC := hc.2.1
  by_cases ha : 0 ≤ a.toInt ∧ a.toInt < C
  · obtain ⟨k, hk, rfl⟩ := i32_of (k := C) ha.1 ha.2
    by_cases hb : b = 0 ∨ b = 1
    · have hst : ∀ m : xN, m.1 40 1 = nI o → m.1 39 3 = nI C → f_X4_strike N (nI k) b m = if bI (o.testBit k = true) = (if b = 0 then 1 else 0) then some (-4, m) else gdl [inb 0 1480] (if (m.1 40 0) = 40 then some (-2, m) else Option.bind (f_X4_keepPast N m) (fun r60 => Option.bind (f_X4_bits N ((mI r60 40 1 ((r60.1 40 1) ^^^ ((1 : Int32) <<< (nI k &&& 31)))).1 40 1)) (fun r81 => some (r81, mI r60 40 1 ((r60.1 40 1) ^^^ ((1 : Int32) <<< (nI k &&& 31))))))) := by
        intro m e1 e2
        unfold f_X4_strike f_X4_strike_L39
        rw [e_isClM m hC e2, Option.bind_some, bI_t ha, if_neg (by decide), e_in01, Option.bind_some, bI_t hb, if_neg (by decide), gdlT ib1, gdl0, tn1, tn0, e1, e_has (by omega) (by omega), Option.bind_some]
        simp only [gdlT ib1, gdl0]
        rcases hb with rfl | rfl
        · simp
        · simp
      have hsx : f_X3_strike (nI k) b n = if bI (o.testBit k = true) = (if b = 0 then 1 else 0) then some (-4, n) else if (n.1 19 2) < 40 then f_X3_strike_L69 (if b = 0 then 1 else 0) (nI k) n else some (-2, n) := by
        unfold f_X3_strike f_X3_strike_L34
        rw [e_isClX n hC hc.2.2.2.2.2.2.1, Option.bind_some, bI_t ha, if_neg (by decide), e_isFlag, Option.bind_some, bI_t hb, if_neg (by decide), e_isOn n xo (by omega) (by omega), Option.bind_some]
        rcases hb with rfl | rfl
        · simp
        · simp
      by_cases hS : bI (o.testBit k = true) = (if b = 0 then 1 else 0)
      · exact ⟨-4, n, n, by rw [hsx, if_pos hS], by rw [hst n eo hc.2.2.2.2.1, if_pos hS], h⟩
      · by_cases hF : dn = 40
        · exact ⟨-2, n, n, by rw [hsx, if_neg hS, x0, if_neg (by rw [hF]; decide)], by rw [hst n eo hc.2.2.2.2.1, if_neg hS, gdlT ib0, gdl0, e0, if_pos (by rw [hF]; decide)], h⟩
        · have hd : dn < 40 := by omega
          have hl : nI dn < 40 := by rw [show (40 : Int32) = nI 40 from rfl, nI_ltI (by omega) (by omega)]; exact hd
          have hn : ¬ nI dn = 40 := fun z => by
            have := (nI_eq (a := dn) (b := 40) (by omega) (by omega)).mp z
            omega
          have h2k : 2 ^ k < 2 ^ C := Nat.pow_lt_pow_right (by decide) hk
          have hx' : o ^^^ 2 ^ k < 2 ^ C := Nat.xor_lt_two_pow ho h2k
          let w : Int32 := bI (o.testBit k = true)
          let n1 := mI (ntF n dn (8 + nI k) w) 19 1 (nI (o ^^^ 2 ^ k))
          have hx : f_X3_strike (nI k) b n = some (nI (pcN (o ^^^ 2 ^ k) 13), n1) := by
            have hdo : f_X2_doClause_19 (nI k) (if b = 0 then 1 else 0) n = some n1 := by
              unfold f_X2_doClause_19 f_X2_doClause_19_L21
              rw [e_isOn n xo (by omega) (by omega), Option.bind_some, e_note n x0 hd, e_note n x0 hd, Option.bind_some, Option.bind_some]
              unfold f_X2_setClause_19 f_X2_setClause_19_L26
              have q1 : ∀ w, (ntF n dn (8 + nI k) w).1 19 1 = nI o := fun w => by unfold ntF; rw [mI1, if_pos rfl, upd_o (by decide), mI1, if_neg (by decide), mI1, if_neg (by decide), xo]
              rw [q1, q1, e_rmv (by omega) (by omega), sh1 (by omega), nI_or (by omega) (by omega)]
              cases hb1 : o.testBit k
              · rw [hb1] at hS
                have b0 : b = 0 := by
                  rcases hb with rfl | rfl
                  · rfl
                  · exact absurd rfl hS
                subst b0
                show (if (0 : Int32) = 0 then _ else _) = _
                rw [if_pos rfl, if_pos rfl, if_neg (by decide), Option.bind_some, nat_or_xor hb1]
                show some (mI (ntF n dn (8 + nI k) 0) 19 1 (nI (o ^^^ 2 ^ k))) = some (mI (ntF n dn (8 + nI k) (bI (o.testBit k = true))) 19 1 (nI (o ^^^ 2 ^ k)))
                rw [hb1]; rfl
              · rw [hb1] at hS
                have b1 : b = 1 := by
                  rcases hb with rfl | rfl
                  · exact absurd rfl hS
                  · rfl
                subst b1
                show (if (1 : Int32) = 0 then _ else _) = _
                rw [if_neg (by decide), if_neg (show ¬ (1 : Int32) = 0 by decide), if_pos rfl, Option.bind_some, ← xor_rmv hb1]
                show some (mI (ntF n dn (8 + nI k) 1) 19 1 (nI (o ^^^ 2 ^ k))) = some (mI (ntF n dn (8 + nI k) (bI (o.testBit k = true))) 19 1 (nI (o ^^^ 2 ^ k)))
                rw [hb1]; rfl
            rw [hsx, if_neg hS, x0, if_pos hl]
            unfold f_X3_strike_L69
            rw [hdo, Option.bind_some]
            have q2 : n1.1 19 1 = nI (o ^^^ 2 ^ k) := by show (mI _ 19 1 _).1 19 1 = _; rw [mI1, if_pos rfl, upd_s]
            rw [q2, e_bitc (by omega), Option.bind_some]
          have n1o : ∀ c, c ≠ 19 → c ≠ 21 → c ≠ 22 → n1.1 c = n.1 c := fun c h1 h2 h3 => by
            show (mI (mI (mI (mI n 21 dn _) 22 dn _) 19 2 _) 19 1 _).1 c = _
            rw [mI1, if_neg h1, mI1, if_neg h1, mI1, if_neg h3, mI1, if_neg h2]
          let n2 := mI (mI (kpI n1 dn 9) 40 0 (nI (dn + 1))) 40 1 (nI (o ^^^ 2 ^ k))
          have hm : f_X4_strike N (nI k) b n1 = some (nI (pcN (o ^^^ 2 ^ k) 13), n2) := by
            have o40 : n1.1 40 = n.1 40 := n1o 40 (by decide) (by decide) (by decide)
            have r1 : (mI (kpI n1 dn 9) 40 0 (nI (dn + 1))).1 40 1 = nI o := by rw [mI1, if_pos rfl, upd_o (by decide), kpI1, if_pos rfl, o40, if_neg (by omega), eo]
            rw [hst n1 (by rw [o40]; exact eo) (by rw [n1o 39 (by decide) (by decide) (by decide)]; exact hc.2.2.2.2.1), if_neg hS, gdlT ib0, gdl0, o40, e0, if_neg hn, e_keepPast N hN n1 (by rw [o40]; exact e0) hd, Option.bind_some, r1, sh1 (by omega), nI_xor (by omega) (by omega), mI1, if_pos rfl, upd_s, e_bits N (by omega) (by omega), Option.bind_some]
          refine ⟨_, n1, n2, hx, hm, ?_⟩
          have n2o : ∀ c, c ≠ 19 → c ≠ 21 → c ≠ 22 → c ≠ 40 → n2.1 c = n.1 c := fun c h1 h2 h3 h4 => by
            show (mI (mI (kpI n1 dn 9) 40 0 _) 40 1 _).1 c = _
            rw [mI1, if_neg h4, mI1, if_neg h4, kpI2 h4, n1o c h1 h2 h3]
          have n2x : ∀ c, c ≠ 40 → n2.1 c = n1.1 c := fun c h4 => by
            show (mI (mI (kpI n1 dn 9) 40 0 _) 40 1 _).1 c = _
            rw [mI1, if_neg h4, mI1, if_neg h4, kpI2 h4]
          obtain ⟨r0, r1, r2, r3, r4, r5⟩ := kp_row (m := n1) (q := 1) (v := nI (o ^^^ 2 ^ k)) hd (by omega) (by omega)
          have o40 : n1.1 40 = n.1 40 := n1o 40 (by decide) (by decide) (by decide)
          rw [o40] at r1 r2 r4 r5
          refine Inv_dd h (fun c hcc => n2o c (by omega) (by omega) (by omega) (by omega)) (fun c _ => by rw [n2o 39 (by decide) (by decide) (by decide) (by decide)]) rfl r5 ?_
          rw [cOf_c hc, n2x 19 (by decide), n2x 20 (by decide), n2x 21 (by decide), n2x 22 (by decide)]
          have hst0 := h.2.2.2.2.2.2.2.1
          rw [cOf_c hc] at hst0
          have s2 : n1.1 19 2 = nI (dn + 1) := by show (mI _ 19 1 _).1 19 2 = _; rw [mI1, if_pos rfl, upd_o (by decide)]; show (mI _ 19 2 _).1 19 2 = _; rw [mI1, if_pos rfl, upd_s]
          have s1 : n1.1 19 1 = nI (o ^^^ 2 ^ k) := by show (mI _ 19 1 _).1 19 1 = _; rw [mI1, if_pos rfl, upd_s]
          have s21 : n1.1 21 = upd (n.1 21) dn (8 + nI k) := by show (mI (mI (mI (mI n 21 dn _) 22 dn _) 19 2 _) 19 1 _).1 21 = _; rw [mI1, if_neg (by decide), mI1, if_neg (by decide), mI1, if_neg (by decide), mI1, if_pos rfl]
          have s22 : n1.1 22 = upd (n.1 22) dn w := by show (mI (mI (mI (mI n 21 dn _) 22 dn _) 19 2 _) 19 1 _).1 22 = _; rw [mI1, if_neg (by decide), mI1, if_neg (by decide), mI1, if_pos rfl, mI1, if_neg (by decide)]
          have e8k : (8 : Int32) + nI k = nI (8 + k) := by rw [show (8 : Int32) = nI 8 from rfl, nI_add]
          have r3' : n2.1 40 1 = nI (o ^^^ 2 ^ k) := r3
          rw [s1, s2, s21, s22]
          refine IS_deed hst0 e0 hd r0 r1 r2 r3'.symm (fun b hb => ?_) (fun d hd1 => by rw [upd_o (by omega)]) (fun d hd1 => by rw [upd_o (by omega)]) ?_ (Or.inr ⟨k, hk, by rw [upd_s, e8k], ?_, ?_, fun j hj hne => ?_⟩)
          · have := r4 (1 + b) (by omega) (by omega)
            rw [n1o 20 (by decide) (by decide) (by decide), hbd b hb]
            show n.1 40 (2 + b) = n2.1 40 (2 + b)
            rw [show 2 + b = 1 + (1 + b) by omega]
            exact this.symm
          · obtain ⟨-, hb4⟩ := snap_now h hc
            refine ⟨⟨o ^^^ 2 ^ k, hx', r3'⟩, fun t ht => ?_⟩
            obtain ⟨x, y, q1, q2, q3, q4⟩ := hb4 t ht
            exact ⟨x, y, q1, q2, (r4 (1 + 2 * t) (by omega) (by omega)).trans q3, (r4 (2 + 2 * t) (by omega) (by omega)).trans q4⟩
          · rw [upd_s]
            show bI (o.testBit k = true) = 0 ∨ bI (o.testBit k = true) = 1
            cases o.testBit k
            · exact Or.inl rfl
            · exact Or.inr rfl
          · rw [upd_s, eo]
            show nI o = setBit (n2.1 40 1) k (bI (o.testBit k = true))
            rw [r3']
            unfold setBit
            cases hb1 : o.testBit k
            · rw [if_neg (show ¬ bI (false = true) = 1 by decide), e_rmv (by omega) (by omega), rmv_xor hb1]
            · rw [if_pos (show bI (true = true) = 1 by decide), sh1 (by omega), nI_or (by omega) (by omega), xor_rmv hb1, rmv_or hb1]
          · exact (r4 j hj (by omega)).symm
    · exact ⟨-1, n, n, by unfold f_X3_strike f_X3_strike_L15; rw [e_isClX n hC hc.2.2.2.2.2.2.1, Option.bind_some, bI_t ha, if_neg (by decide), e_isFlag, Option.bind_some, bI_f hb, if_pos rfl], by unfold f_X4_strike f_X4_strike_L18; rw [e_isClM n hC hc.2.2.2.2.1, Option.bind_some, bI_t ha, if_neg (by decide), e_in01, Option.bind_some, bI_f hb, if_pos rfl], h⟩
  · exact ⟨-1, n, n, by unfold f_X3_strike f_X3_strike_L15; rw [e_isClX n hC hc.2.2.2.2.2.2.1, Option.bind_some, bI_f ha, if_pos rfl], by unfold f_X4_strike f_X4_strike_L18; rw [e_isClM n hC hc.2.2.2.2.1, Option.bind_some, bI_f ha, if_pos rfl], h⟩
