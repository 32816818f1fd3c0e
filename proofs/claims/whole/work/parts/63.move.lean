/-! ===== promise 17: move ===== -/
set_option maxHeartbeats 2000000 in
theorem op_move (N : Nat) (hN : 100 ≤ N) (a b c : Int32) : Op (f_X3_move a b c) (f_X4_move N a b c) := by
  intro n h
  obtain ⟨T, C, hc⟩ := Crt_of h
  obtain ⟨o, ho, eo, xo, hbd⟩ := On_of h hc
  obtain ⟨dn, hdn, e0, x0⟩ := Dn_of h
  have h8 := p8 hc.2.1
  by_cases ha : 0 ≤ a.toInt ∧ a.toInt < 4
  · have ha' : 0 ≤ a.toInt ∧ a.toInt ≤ 3 := by omega
    by_cases hb : okB b c
    · obtain ⟨t, ht, rfl⟩ := i32_of (k := 4) ha.1 (by omega)
      obtain ⟨w, v, hw, hv, hwv, hv4, rfl, rfl⟩ := okB_of hb
      have e20 : n.1 20 (2 * t + w) = n.1 40 (2 + (2 * t + w)) := hbd (2 * t + w) (by omega)
      have hsx : f_X3_move (nI t) (nI w) (nI v) n = if n.1 20 (2 * t + w) = nI v then some (-4, n) else if bI (stB (n.1 20) t w v) = 0 then some (-4, n) else if (n.1 19 2) < 40 then Option.bind (f_X2_doBorder_19 (nI (2 * t + w)) (nI v) n) (fun r70 => some (n.1 20 (2 * t + w), r70)) else some (-2, n) := by
        unfold f_X3_move f_X3_move_L42
        rw [e_isBorderX, Option.bind_some, bI_t ⟨ha, hb⟩, if_neg (by decide), e_at, gdl_nI (by omega) (by omega), gdl0, nI_clamp (by omega), e_belX n ht hw, Option.bind_some]
      have hst : ∀ m : xN, f_X4_move N (nI t) (nI w) (nI v) m = if bI (stB (bdM (m.1 40)) t w v) = 0 then some (-4, m) else if m.1 40 (2 + (2 * t + w)) = nI v then some (-4, m) else if m.1 40 0 = 40 then some (-2, m) else Option.bind (f_X4_keepPast N m) (fun r65 => some (m.1 40 (2 + (2 * t + w)), mI r65 40 (2 + (2 * t + w)) (nI v))) := by
        intro m
        unfold f_X4_move f_X4_move_L47
        rw [e_isTrait, Option.bind_some, bI_t ha', if_neg (by decide), e_isBorderM, Option.bind_some, bI_t hb, if_neg (by decide), e_atM, gdl_nI (by omega) (by omega), gdl0, nI_clamp (by omega), e_belM m ht hw, Option.bind_some, tn0, gdlT ib0, gdl0]
        have g1 : ∀ x : Option (Int32 × xN), gdl [inb (nI (2 + (2 * t + w))) 1480] x = x := fun x => by rw [gdl_nI (by omega) (by omega), gdl0]
        simp only [g1]
      have esb := stB_c (t := t) (w := w) (v := v) ht hbd
      by_cases hS : n.1 20 (2 * t + w) = nI v ∨ bI (stB (n.1 20) t w v) = 0
      · refine ⟨-4, n, n, ?_, ?_, h⟩
        · rw [hsx]
          by_cases z : n.1 20 (2 * t + w) = nI v
          · rw [if_pos z]
          · rw [if_neg z, if_pos (hS.resolve_left z)]
        · rw [hst, ← esb]
          by_cases z : bI (stB (n.1 20) t w v) = 0
          · rw [if_pos z]
          · rw [if_neg z, ← e20, if_pos (hS.resolve_right z)]
      · have hS1 : ¬ n.1 20 (2 * t + w) = nI v := fun z => hS (Or.inl z)
        have hS2 : ¬ bI (stB (n.1 20) t w v) = 0 := fun z => hS (Or.inr z)
        by_cases hF : dn = 40
        · exact ⟨-2, n, n, by rw [hsx, if_neg hS1, if_neg hS2, x0, if_neg (by rw [hF]; decide)], by rw [hst, ← esb, if_neg hS2, ← e20, if_neg hS1, e0, if_pos (by rw [hF]; decide)], h⟩
        · have hd : dn < 40 := by omega
          have hl : nI dn < 40 := by rw [show (40 : Int32) = nI 40 from rfl, nI_ltI (by omega) (by omega)]; exact hd
          have hn : ¬ nI dn = 40 := fun z => by
            have := (nI_eq (a := dn) (b := 40) (by omega) (by omega)).mp z
            omega
          have hsb : stB (bdM (n.1 40)) t w v := by
            rw [esb] at hS2
            by_cases z : stB (bdM (n.1 40)) t w v
            · exact z
            · exact absurd (bI_f z) hS2
          generalize hq : 2 * t + w = q at *
          have hq8 : q < 8 := by omega
          generalize hy : n.1 20 q = y at *
          let n1 := mI (ntF n dn (nI q) y) 20 q (nI v)
          have hx : f_X3_move (nI t) (nI w) (nI v) n = some (y, n1) := by
            rw [hsx, if_neg hS1, if_neg hS2, x0, if_pos hl]
            unfold f_X2_doBorder_19
            rw [gdl_nI (by omega) hq8, gdl0, nI_clamp (by omega), hy, e_note n x0 hd, Option.bind_some, gdl_nI (by omega) hq8, gdl0, Option.bind_some]
          have n1o : ∀ c, c ≠ 19 → c ≠ 20 → c ≠ 21 → c ≠ 22 → n1.1 c = n.1 c := fun c h1 h0 h2 h3 => by
            show (mI (mI (mI (mI n 21 dn _) 22 dn _) 19 2 _) 20 q _).1 c = _
            rw [mI1, if_neg h0, mI1, if_neg h1, mI1, if_neg h3, mI1, if_neg h2]
          have o40 : n1.1 40 = n.1 40 := n1o 40 (by decide) (by decide) (by decide) (by decide)
          let n2 := mI (mI (kpI n1 dn 9) 40 0 (nI (dn + 1))) 40 (2 + q) (nI v)
          have hm : f_X4_move N (nI t) (nI w) (nI v) n1 = some (y, n2) := by
            rw [hst n1, o40, ← esb, if_neg hS2, ← e20, if_neg hS1, e0, if_neg hn, e_keepPast N hN n1 (by rw [o40]; exact e0) hd, Option.bind_some]
          refine ⟨_, n1, n2, hx, hm, ?_⟩
          have n2x : ∀ c, c ≠ 40 → n2.1 c = n1.1 c := fun c h4 => by
            show (mI (mI (kpI n1 dn 9) 40 0 _) 40 (2 + q) _).1 c = _
            rw [mI1, if_neg h4, mI1, if_neg h4, kpI2 h4]
          obtain ⟨r0, r1, r2, r3, r4, r5⟩ := kp_row (m := n1) (q := 2 + q) (v := nI v) hd (by omega) (by omega)
          rw [o40] at r1 r2 r4 r5
          refine Inv_dd h (fun c hcc => by rw [n2x c (by omega), n1o c (by omega) (by omega) (by omega) (by omega)]) (fun c _ => by rw [n2x 39 (by decide), n1o 39 (by decide) (by decide) (by decide) (by decide)]) rfl r5 ?_
          rw [cOf_c hc, n2x 19 (by decide), n2x 20 (by decide), n2x 21 (by decide), n2x 22 (by decide)]
          have hst0 := h.2.2.2.2.2.2.2.1
          rw [cOf_c hc] at hst0
          have s19 : n1.1 19 = upd (n.1 19) 2 (nI (dn + 1)) := by show (mI (mI (mI (mI n 21 dn _) 22 dn _) 19 2 _) 20 q _).1 19 = _; rw [mI1, if_neg (by decide), mI1, if_pos rfl, mI1, if_neg (by decide), mI1, if_neg (by decide)]
          have s20 : n1.1 20 = upd (n.1 20) q (nI v) := by show (mI (mI (mI (mI n 21 dn _) 22 dn _) 19 2 _) 20 q _).1 20 = _; rw [mI1, if_pos rfl, mI1, if_neg (by decide), mI1, if_neg (by decide), mI1, if_neg (by decide)]
          have s21 : n1.1 21 = upd (n.1 21) dn (nI q) := by show (mI (mI (mI (mI n 21 dn _) 22 dn _) 19 2 _) 20 q _).1 21 = _; rw [mI1, if_neg (by decide), mI1, if_neg (by decide), mI1, if_neg (by decide), mI1, if_pos rfl]
          have s22 : n1.1 22 = upd (n.1 22) dn y := by show (mI (mI (mI (mI n 21 dn _) 22 dn _) 19 2 _) 20 q _).1 22 = _; rw [mI1, if_neg (by decide), mI1, if_neg (by decide), mI1, if_pos rfl, mI1, if_neg (by decide)]
          have s1 : n1.1 19 1 = nI o := by rw [s19, upd_o (by decide), xo]
          have s2 : n1.1 19 2 = nI (dn + 1) := by rw [s19, upd_s]
          have r3' : n2.1 40 (2 + q) = nI v := r3
          have r1' : n2.1 40 1 = nI o := (r4 0 (by omega) (by omega)).trans eo
          rw [s1, s2, s20, s21, s22]
          refine IS_deed hst0 e0 hd r0 r1 r2 r1'.symm (fun b hb => ?_) (fun d hd1 => by rw [upd_o (by omega)]) (fun d hd1 => by rw [upd_o (by omega)]) ?_ (Or.inl ⟨q, hq8, upd_s, ?_, fun j hj hne => ?_⟩)
          · show upd (n.1 20) q (nI v) b = n2.1 40 (2 + b)
            by_cases z : b = q
            · subst z; rw [upd_s, r3']
            · have := r4 (1 + b) (by omega) (by omega)
              rw [upd_o z, hbd b hb]
              show n.1 40 (2 + b) = n2.1 40 (2 + b)
              rw [show 2 + b = 1 + (1 + b) by omega]
              exact this.symm
          · obtain ⟨-, hb4⟩ := snap_now h hc
            refine ⟨⟨o, ho, r1'⟩, fun t' ht' => ?_⟩
            obtain ⟨x, z, q1, q2, q3, q4⟩ := hb4 t' ht'
            show ∃ a b, a < b ∧ b ≤ 5 ∧ n2.1 40 (1 + (1 + 2 * t')) = nI a ∧ n2.1 40 (1 + (2 + 2 * t')) = nI b
            have q3' : n.1 40 (1 + (1 + 2 * t')) = nI x := q3
            have q4' : n.1 40 (1 + (2 + 2 * t')) = nI z := q4
            by_cases et : t' = t
            · subst et
              have d0 : bdM (n.1 40) (2 * t') = nI x := by rw [← q3']; show n.1 40 (2 + 2 * t') = _; rw [show 2 + 2 * t' = 1 + (1 + 2 * t') by omega]
              have d1 : bdM (n.1 40) (2 * t' + 1) = nI z := by rw [← q4']; show n.1 40 (2 + (2 * t' + 1)) = _; rw [show 2 + (2 * t' + 1) = 1 + (2 + 2 * t') by omega]
              by_cases ew : w = 0
              · subst ew
                have hsb' : nI v < bdM (n.1 40) (2 * t' + 1) := hsb
                rw [d1, nI_ltI (by omega) (by omega)] at hsb'
                refine ⟨v, z, hsb', q2, ?_, ?_⟩
                · rw [show 1 + (1 + 2 * t') = 2 + q by omega]; exact r3'
                · exact (r4 (2 + 2 * t') (by omega) (by omega)).trans q4'
              · have ew1 : w = 1 := by omega
                subst ew1
                have hsb' : bdM (n.1 40) (2 * t') < nI v := hsb
                rw [d0, nI_ltI (by omega) (by omega)] at hsb'
                refine ⟨x, v, hsb', hv, ?_, ?_⟩
                · exact (r4 (1 + 2 * t') (by omega) (by omega)).trans q3'
                · rw [show 1 + (2 + 2 * t') = 2 + q by omega]; exact r3'
            · exact ⟨x, z, q1, q2, (r4 (1 + 2 * t') (by omega) (by omega)).trans q3', (r4 (2 + 2 * t') (by omega) (by omega)).trans q4'⟩
          · rw [upd_s, e20, show 1 + (1 + q) = 2 + q by omega]
          · exact (r4 j hj (by omega)).symm
    · exact ⟨-1, n, n, by unfold f_X3_move; rw [e_isBorderX, Option.bind_some, bI_f (fun z => hb z.2), if_pos rfl], by unfold f_X4_move f_X4_move_L15; rw [e_isTrait, Option.bind_some, bI_t ha', if_neg (by decide), e_isBorderM, Option.bind_some, bI_f hb, if_pos rfl], h⟩
  · exact ⟨-1, n, n, by unfold f_X3_move; rw [e_isBorderX, Option.bind_some, bI_f (fun z => ha z.1), if_pos rfl], by unfold f_X4_move f_X4_move_L15; rw [e_isTrait, Option.bind_some, bI_f (by omega), if_pos rfl], h⟩
