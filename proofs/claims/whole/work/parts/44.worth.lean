/-! ===== promises 39, 40: worth, falls ===== -/
theorem mI_id (n : xN) (a k : Nat) : mI n a k (n.1 a k) = n := by
  unfold mI
  refine Prod.ext (funext fun b => funext fun j => ?_) rfl
  simp only [va_up]
  by_cases hb : b = a
  · simp only [hb, reduceIte]
    by_cases hj : j = k
    · subst hj; rw [upd_s]
    · rw [upd_o hj]
  · simp only [hb, reduceIte]
theorem nI_xor {a b : Nat} (ha : a < 2 ^ 31) (hb : b < 2 ^ 31) : nI a ^^^ nI b = nI (a ^^^ b) := by
  apply b_ext
  intro i _
  rw [b_xor, bt_nI (by omega), bt_nI (by omega), bt_nI (Nat.lt_trans (Nat.xor_lt_two_pow ha hb) (by omega)), Nat.testBit_xor]
theorem xor_rmv {o k : Nat} (h : o.testBit k = true) : o ^^^ 2 ^ k = rmv o k := by
  apply Nat.eq_of_testBit_eq
  intro j
  rw [rmv_tb, Nat.testBit_xor, Nat.testBit_two_pow]
  by_cases e : k = j
  · subst e; simp [h]
  · have : ¬ j = k := fun q => e q.symm
    simp [e, this]
theorem xor_xor2 {o k : Nat} : (o ^^^ 2 ^ k) ^^^ 2 ^ k = o := by
  rw [Nat.xor_assoc, Nat.xor_self, Nat.xor_zero]
theorem Crt_k40 {n : xN} {T C : Nat} (hc : Crt n T C) (j : Nat) (v : Int32) : Crt (mI n 40 j v) T C := Crt_keep hc (by simp [mI1]) (by simp [mI1]) (by simp [mI1]) (by simp [mI1]) (by simp [mI1]) (by simp [mI1]) (by simp [mI1]) (by simp [mI1]) (by simp [mI1]) (by simp [mI1]) (by simp [mI1])
theorem HN_on {n : xN} {T C w : Nat} (hc : Crt n T C) (v : Int32) : HN (mI n 40 1 v) (bdM ((mI n 40 1 v).1 40)) T C w = HN n (bdM (n.1 40)) T C w := by
  have e : HN (mI n 40 1 v) (bdM ((mI n 40 1 v).1 40)) T C w = HN n (bdM ((mI n 40 1 v).1 40)) T C w := rfl
  rw [e]
  refine HN_c hc (fun b _ => ?_)
  simp only [bdM, mI1, reduceIte]
  exact upd_o (by omega)
theorem bX_best {n : xN} {T C s : Nat} (hc : Crt n T C) : (bX (fun w => sumS (n.1 41) w 4 T) (pG n T C s) 2147483647 (2 ^ T)).1 = (bM (fun w => sumS (n.1 41) w 4 T) (pG n T C s) (2 ^ T)).1 ∧ ((bX (fun w => sumS (n.1 41) w 4 T) (pG n T C s) 2147483647 (2 ^ T)).1 = -9 ∨ ∃ w, w < 2 ^ T ∧ (bX (fun w => sumS (n.1 41) w 4 T) (pG n T C s) 2147483647 (2 ^ T)).1 = nI w) := by
  have h6 : 2 ^ T ≤ 2 ^ 6 := p2 hc.1
  obtain ⟨e1, hor⟩ := bXM (fun w => sumS (n.1 41) w 4 T) (pG n T C s) 2147483647 (W := 2 ^ T) (by omega) (fun w _ => by
      obtain ⟨q, hq, eq⟩ := sumS_small hc.1 (fun i hi w hw => (hc.2.2.2.2.2.2.2.2.2 i hi w hw).2) w (show 4 < 5 by decide) T (Nat.le_refl _)
      have hT6 := hc.1
      rw [eq, i32_lt, nI_toInt (by omega)]
      have : (2147483647 : Int32).toInt = 2147483647 := by decide
      omega) (2 ^ T) (Nat.le_refl _)
  refine ⟨e1, ?_⟩
  rcases hor with ⟨a1, a2⟩ | ⟨w, hw, pw, a1, a2⟩
  · exact Or.inl (by rw [a1])
  · exact Or.inr ⟨w, hw, by rw [a1]⟩
set_option maxHeartbeats 2000000 in
theorem op_worth (N : Nat) (hN : 100 ≤ N) (a : Int32) : Op (f_X3_worth N a) (f_X4_worth N a) := by
  intro n h
  obtain ⟨T, C, hc⟩ := Crt_of h
  obtain ⟨o, ho, eo, xo, hbd⟩ := On_of h hc
  obtain ⟨hT, hC, h0, eT, eC, xT, xC, hs, hcl, hg⟩ := id hc
  have h6 : 2 ^ T ≤ 2 ^ 6 := p2 hc.1
  have h8 := p8 hC
  obtain ⟨t1, t2⟩ := T0 hc
  by_cases ha : 0 ≤ a.toInt ∧ a.toInt < C
  · obtain ⟨k, hk, rfl⟩ := i32_of ha.1 ha.2
    have hT0 : ¬ T = 0 := fun q => by have := h0 q; omega
    have g1 : ∀ (x : Option (Int32 × xN)), gdl [inb (1 : Int32) 1480] x = x := fun x => gdlT (by decide)
    have g2 : ∀ (x : Option (Int32 × xN)), gdl [inb (1 : Int32) 1480, inb (1 : Int32) 1480] x = x := fun x => by rw [gdlT (by decide), g1]
    by_cases q : o.testBit k = true
    · have hcm : Crt (mskF n T C (2 ^ T)) T C := Crt_m hc
      have xo' : (mskF n T C (2 ^ T)).1 19 1 = nI o := by rw [mskF1 (by decide), xo]
      have eo' : (mskF n T C (2 ^ T)).1 40 1 = nI o := by rw [mskF1 (by decide), eo]
      have hr : rmv o k < 2 ^ C := rmv_lt ho
      obtain ⟨e1, w1⟩ := bX_best (s := rmv o k) hc
      obtain ⟨e2, w2⟩ := bX_best (s := o) hc
      have c1 := e_cheapBy N hN n hc hbd (show rmv o k < 2 ^ 31 by omega)
      have c2 := e_cheapBy N hN n hc hbd (show o < 2 ^ 31 by omega)
      have hmx : ∀ z, HN (mI (mskF n T C (2 ^ T)) 40 1 (nI (rmv o k))) (bdM ((mI (mskF n T C (2 ^ T)) 40 1 (nI (rmv o k))).1 40)) T C z = HN n (bdM (n.1 40)) T C z := fun z => HN_on hcm _
      have m1 := (e_bestM N hN n (mI (mskF n T C (2 ^ T)) 40 1 (nI (rmv o k))) (Crt_k40 hcm _ _) (o := rmv o k) (by simp [mI1, upd]) (by omega) hmx (by simp [mI1, mskF1])).1
      have m2 := (e_bestM N hN n (mskF n T C (2 ^ T)) hcm eo' (by omega) (fun _ => rfl) (mskF1 (by decide))).1
      have ex : nI o ^^^ ((1 : Int32) <<< (nI k &&& 31)) = nI (rmv o k) := by
        have : 2 ^ k ≤ 2 ^ 8 := p2 (by omega)
        rw [sh1 (by omega), nI_xor (by omega) (by omega), xor_rmv q]
      have ex2 : nI (rmv o k) ^^^ ((1 : Int32) <<< (nI k &&& 31)) = nI o := by
        have : 2 ^ k ≤ 2 ^ 8 := p2 (by omega)
        rw [sh1 (by omega), ← xor_rmv q, nI_xor (by rw [xor_rmv q]; omega) (by omega), xor_xor2]
      have emem : mI (mI (mskF n T C (2 ^ T)) 40 1 (nI (rmv o k))) 40 1 (nI o) = mskF n T C (2 ^ T) := by
        rw [mI_mI, ← eo', mI_id]
      have eread : (mI (mskF n T C (2 ^ T)) 40 1 (nI (rmv o k))).1 40 1 = nI (rmv o k) := by simp [mI1, upd]
      have tn1 : Int32.toNatClampNeg 1 = 1 := by decide
      have hX : f_X3_worth N (nI k) n = (if (bX (fun w => sumS (n.1 41) w 4 T) (pG n T C (rmv o k)) 2147483647 (2 ^ T)).1 = -9 then some (-9, mskF n T C (2 ^ T)) else if (bX (fun w => sumS (n.1 41) w 4 T) (pG n T C o) 2147483647 (2 ^ T)).1 = -9 then some (1000, mskF n T C (2 ^ T)) else Option.bind (f_X0_sumOf_7 (bX (fun w => sumS (n.1 41) w 4 T) (pG n T C o) 2147483647 (2 ^ T)).1 4 (mskF n T C (2 ^ T))) (fun r102 => Option.bind (f_X0_sumOf_7 (bX (fun w => sumS (n.1 41) w 4 T) (pG n T C (rmv o k)) 2147483647 (2 ^ T)).1 4 (mskF n T C (2 ^ T))) (fun r111 => some (r102 - r111, mskF n T C (2 ^ T))))) := by
        rw [f_X3_worth, e_isClX n hC xC, bI_t ha, Option.bind_some, if_neg (by decide), if_neg (fun z => hT0 (t1.mp z)), f_X2_isOn_19, xo, e_hasBit (by omega) (by omega), Option.bind_some, gdl_bI, gdl0, bI_t q, Option.bind_some, if_neg (by decide), e_judge N hN n hc, Option.bind_some, xo', e_rmv (by omega) (by omega), c1, Option.bind_some, c2, Option.bind_some]
      have hM : f_X4_worth N (nI k) (mskF n T C (2 ^ T)) = (if (bM (fun w => sumS (n.1 41) w 4 T) (pG n T C (rmv o k)) (2 ^ T)).1 = -9 then some (-9, mskF n T C (2 ^ T)) else if (bM (fun w => sumS (n.1 41) w 4 T) (pG n T C o) (2 ^ T)).1 = -9 then some (1000, mskF n T C (2 ^ T)) else Option.bind (f_X4_costOf N (bM (fun w => sumS (n.1 41) w 4 T) (pG n T C o) (2 ^ T)).1 (mskF n T C (2 ^ T))) (fun r96 => Option.bind (f_X4_costOf N (bM (fun w => sumS (n.1 41) w 4 T) (pG n T C (rmv o k)) (2 ^ T)).1 (mskF n T C (2 ^ T))) (fun r101 => some (r96 - r101, mskF n T C (2 ^ T))))) := by
        rw [f_X4_worth, e_isClM _ hC hcm.2.2.2.2.1, bI_t ha, Option.bind_some, if_neg (by decide), if_neg (fun z => hT0 ((T0 hcm).2.mp z)), g1, tn1, eo', e_has (by omega) (by omega), bI_t q, Option.bind_some, if_neg (by decide), m2, Option.bind_some, g2, ex, m1, Option.bind_some, g2, eread, ex2, emem]
        rfl
      rw [← e1, ← e2] at hM
      rcases w1 with w1 | ⟨u1, hu1, w1⟩
      · rw [w1, if_pos rfl] at hX hM
        exact Op_mk hX hM rfl (Inv_m _ _ _ h)
      · rcases w2 with w2 | ⟨u2, hu2, w2⟩
        · rw [w1, w2, if_neg (nI_n9 (by omega)), if_pos rfl] at hX hM
          exact Op_mk hX hM rfl (Inv_m _ _ _ h)
        · have s1 := e_sumX (mskF n T C (2 ^ T)) hc.1 hu1 (show 4 < 5 by decide)
          have s2 := e_sumX (mskF n T C (2 ^ T)) hc.1 hu2 (show 4 < 5 by decide)
          rw [hcm.2.2.2.2.2.2.2.1 u1 hu1 4 (by decide)] at s1
          rw [hcm.2.2.2.2.2.2.2.1 u2 hu2 4 (by decide)] at s2
          rw [w1, w2, if_neg (nI_n9 (by omega)), if_neg (nI_n9 (by omega)), show (4 : Int32) = nI 4 from rfl, s2, Option.bind_some, s1, Option.bind_some] at hX
          rw [w1, w2, if_neg (nI_n9 (by omega)), if_neg (nI_n9 (by omega)), e_costOf N (by omega) _ hc.1 hcm.2.2.2.1 (by omega), Option.bind_some, e_costOf N (by omega) _ hc.1 hcm.2.2.2.1 (by omega), Option.bind_some] at hM
          exact Op_mk hX hM rfl (Inv_m _ _ _ h)
    · refine ⟨0, n, n, ?_, ?_, h⟩
      · rw [f_X3_worth, e_isClX n hC xC, bI_t ha, Option.bind_some, if_neg (by decide), if_neg (fun z => hT0 (t1.mp z)), f_X2_isOn_19, xo, e_hasBit (by omega) (by omega), Option.bind_some, gdl_bI, gdl0, bI_f q, Option.bind_some, if_pos rfl]
      · rw [f_X4_worth, e_isClM _ hC eC, bI_t ha, Option.bind_some, if_neg (by decide), if_neg (fun z => hT0 (t2.mp z)), g1, show Int32.toNatClampNeg 1 = 1 by decide, eo, e_has (by omega) (by omega), bI_f q, Option.bind_some, if_pos rfl]
  · refine ⟨-1, n, n, ?_, ?_, h⟩
    · rw [f_X3_worth, e_isClX n hC xC, bI_f ha, Option.bind_some, if_pos rfl]
    · rw [f_X4_worth, e_isClM _ hC eC, bI_f ha, Option.bind_some, if_pos rfl]
