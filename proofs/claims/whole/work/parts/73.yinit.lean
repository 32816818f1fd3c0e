/-! ===== constructors ===== -/
theorem yD0 : ∀ j, j < 8 → defaultValue (xTy 0 j) = vp_V [.int 0, .int 0, .int 0, .null, .null, .null, .null, .null] j := fun j hj => by
  rcases (show j = 0 ∨ j = 1 ∨ j = 2 ∨ j = 3 ∨ j = 4 ∨ j = 5 ∨ j = 6 ∨ j = 7 by omega) with rfl | rfl | rfl | rfl | rfl | rfl | rfl | rfl <;> rfl
theorem yD1 : ∀ j, j < 5 → defaultValue (xTy 1 j) = vp_V [.int 0, .int 0, .int 0, .null, .null] j := fun j hj => by
  rcases (show j = 0 ∨ j = 1 ∨ j = 2 ∨ j = 3 ∨ j = 4 by omega) with rfl | rfl | rfl | rfl | rfl <;> rfl
theorem yD2 : ∀ j, j < 6 → defaultValue (xTy 2 j) = vp_V [.int 0, .int 0, .int 0, .null, .null, .null] j := fun j hj => by
  rcases (show j = 0 ∨ j = 1 ∨ j = 2 ∨ j = 3 ∨ j = 4 ∨ j = 5 by omega) with rfl | rfl | rfl | rfl | rfl | rfl <;> rfl
theorem yD3 : ∀ j, j < 13 → defaultValue (xTy 3 j) = vp_V [.null, .null, .null, .null, .null, .null, .null, .null, .null, .int 0, .int 0, .long 0, .long 0] j := fun j hj => by
  rcases (show j = 0 ∨ j = 1 ∨ j = 2 ∨ j = 3 ∨ j = 4 ∨ j = 5 ∨ j = 6 ∨ j = 7 ∨ j = 8 ∨ j = 9 ∨ j = 10 ∨ j = 11 ∨ j = 12 by omega) with rfl | rfl | rfl | rfl | rfl | rfl | rfl | rfl | rfl | rfl | rfl | rfl | rfl <;> rfl
theorem yD4 : ∀ j, j < 25 → defaultValue (xTy 4 j) = vp_V [.null, .int 0, .null, .int 0, .null, .null, .null, .null, .null, .null, .null, .int 0, .long 0, .long 0, .int 0, .null, .int 0, .int 0, .int 0, .null, .int 0, .null, .int 0, .null, .null] j := fun j hj => by
  rcases (show j = 0 ∨ j = 1 ∨ j = 2 ∨ j = 3 ∨ j = 4 ∨ j = 5 ∨ j = 6 ∨ j = 7 ∨ j = 8 ∨ j = 9 ∨ j = 10 ∨ j = 11 ∨ j = 12 ∨ j = 13 ∨ j = 14 ∨ j = 15 ∨ j = 16 ∨ j = 17 ∨ j = 18 ∨ j = 19 ∨ j = 20 ∨ j = 21 ∨ j = 22 ∨ j = 23 ∨ j = 24 by omega) with rfl | rfl | rfl | rfl | rfl | rfl | rfl | rfl | rfl | rfl | rfl | rfl | rfl | rfl | rfl | rfl | rfl | rfl | rfl | rfl | rfl | rfl | rfl | rfl | rfl <;> rfl
/-- the first i places are v -/
def yF (v : Int32) (f : Nat → Int32) (i : Nat) : Nat → Int32 := fun j => if j < i then v else f j
theorem yF_0 (v : Int32) (f : Nat → Int32) : yF v f 0 = f := by
  funext j
  simp [yF]
theorem yF_s (v : Int32) (f : Nat → Int32) (i : Nat) : upd (yF v f i) i v = yF v f (i + 1) := by
  funext j
  unfold yF upd
  by_cases h : j = i
  · subst h
    simp
  · by_cases h2 : j < i
    · rw [if_neg h]
      show (if j < i then v else f j) = _
      rw [if_pos h2, if_pos (by omega)]
    · rw [if_neg h]
      show (if j < i then v else f j) = _
      rw [if_neg h2, if_neg (by omega)]
theorem yw_fill : xMs yJ7_fill_53178 cJ7_fill_53178 4 none 2 := xMs_of (p1 := 117) (p2 := 116) (p3 := 94) (by decide +kernel)
set_option maxHeartbeats 4000000 in
theorem ye_fill (D : va_G) (cI cB cS : ClassId) (a n : Nat) (hn : n < 1000) (f : Nat → Int32) (v : Int32) : yEv (S := Unit) D cI cB cS yJ7_fill_53178 cJ7_fill_53178 4 1 0 0 [.ref a, .int v] [(a, .inl (cI, n, .inl f))] (fun _ => [(a, .inl (cI, n, .inl (yF v f n)))]) := by
  refine y_met (by decide) (Nat.le_of_ble_eq_true rfl) ?_
  intro p l e R s m below meth c A C hr hlk _
  refine y_iconst (pc := 0) (n := 0) (v := 0) C (by decide +kernel) (by decide) ?_
  refine y_istore (pc := 1) (k := 2) (lv1 := [(2, .int 0), (0, .ref a), (1, .int v)]) C (by decide +kernel) (by decide) rfl ?_
  refine y_aload (pc := 2) (k := 0) C (by decide +kernel) rfl ?_
  refine y_alen (pc := 3) (v := nI n) C 0 rfl rfl (by decide +kernel) ?_
  refine y_istore (pc := 4) (k := 3) (lv1 := [(3, .int (nI n)), (2, .int 0), (0, .ref a), (1, .int v)]) C (by decide +kernel) (by decide) rfl ?_
  refine y_wk (lv1 := [(0, .ref a), (1, .int v), (2, .int (nI 0)), (3, .int (nI n))]) [2, 3, 1, 0] rfl ?_
  refine y_eq (ws1 := [(a, .inl (cI, n, .inl (yF v f 0)))]) (by rw [yF_0]) ?_
  have key : ∀ (k i : Nat), i ≤ n → n - i < k → yGo p l e R s m [Value.ref a, Value.int v].toArray below meth c D 4 A (MQ below (yQc D (fun _ : Unit => [(a, .inl (cI, n, .inl (yF v f n)))]) A) [Value.ref a, Value.int v].toArray s 0 0 A) 0 0 5 [(0, .ref a), (1, .int v), (2, .int (nI i)), (3, .int (nI n))] [] [(a, .inl (cI, n, .inl (yF v f i)))] := by
    intro k
    induction k with
    | zero => intro i _ h; exact absurd h (by omega)
    | succ k ih =>
      intro i hi hk
      refine y_iload (pc := 5) (k := 2) C (by decide +kernel) rfl ?_
      refine y_iload (pc := 6) (k := 3) C (by decide +kernel) rfl ?_
      refine y_icmp_ge (pc := 7) (off := 13) (tgt := 20) C (by decide +kernel) (by decide) (fun h => ?_) (fun h => ?_)
      · have hin : i = n := by
          rcases Nat.lt_or_ge i n with q | q
          · exact absurd h (nI_ge q (by omega))
          · omega
        subst hin
        exact y_ret C hr hlk (by decide +kernel) () [0] rfl (by decide)
      · have hin : i < n := by
          rcases Nat.lt_or_ge i n with q | q
          · exact q
          · exact absurd (nI_le q (by omega)) h
        refine y_aload (pc := 10) (k := 0) C (by decide +kernel) rfl ?_
        refine y_iload (pc := 11) (k := 2) C (by decide +kernel) rfl ?_
        refine y_iload (pc := 12) (k := 1) C (by decide +kernel) rfl ?_
        refine y_iast (pc := 13) (j := i) (ws1 := [(a, .inl (cI, n, .inl (yF v f (i + 1))))]) C 0 rfl (vp_in_nI hin (by omega)) (nI_clamp (by omega)) (by decide +kernel) (by rw [yF_s]; rfl) ?_
        refine y_iinc (pc := 14) (i := 2) (n := 1) (k := 2) (v := nI (i + 1)) (lv1 := [(2, .int (nI (i + 1))), (0, .ref a), (1, .int v), (3, .int (nI n))]) C (by decide +kernel) rfl (nI_1 i) (by decide) rfl ?_
        refine y_goto (pc := 17) (off := -12) (tgt := 5) C (by decide +kernel) (by decide) ?_
        exact y_wk [1, 2, 0, 3] rfl (ih (i + 1) (by omega) (by omega))
  exact key (n + 1) 0 (by omega) (by omega)
set_option maxHeartbeats 8000000 in
set_option maxRecDepth 100000 in
theorem ye_shelf_a (D : va_G) (cI cB cS : ClassId) (h : Nat) : yEv (S := Nat × Nat) D cI cB cS yX1_init cX1_init 4 2 2 246 [.ref h, .int 6, .int 40, .int 0] [(h, .inr (1, [.int 0, .int 0, .int 0, .null, .null]))] (fun u => [(h, .inr (1, [.int 6, .int 40, .int 0, .ref u.1, .ref u.2])), (u.1, .inl (cI, 240, .inl (fun _ => 0))), (u.2, .inl (cI, 6, .inl (yF (-1) (fun _ => 0) 6)))]) := by
  refine y_met (by decide) (Nat.le_of_ble_eq_true rfl) ?_
  intro p l e R s m below meth c A C hr hlk hin
  refine y_aload (pc := 0) (k := 0) C (by decide +kernel) rfl ?_
  refine y_obj (pc := 1) (idx := 1) C (xLk (n := 114) (by decide +kernel) rfl) (by decide +kernel) (by decide) (Nat.le_of_ble_eq_true rfl) ?_
  refine y_aload (pc := 4) (k := 0) C (by decide +kernel) rfl ?_
  refine y_iload (pc := 5) (k := 1) C (by decide +kernel) rfl ?_
  refine y_putF (pc := 6) (ci := 1) (idx := 7) (k := 0) (ws1 := [(h, .inr (1, [.int 6, .int 0, .int 0, .null, .null]))]) C (by decide) (by decide) (xLk (n := 118) (by decide +kernel) rfl) 0 rfl rfl hin rfl rfl rfl (Nat.le_of_ble_eq_true rfl) (by decide +kernel) rfl ?_
  refine y_aload (pc := 9) (k := 0) C (by decide +kernel) rfl ?_
  refine y_iload (pc := 10) (k := 2) C (by decide +kernel) rfl ?_
  refine y_putF (pc := 11) (ci := 1) (idx := 13) (k := 1) (ws1 := [(h, .inr (1, [.int 6, .int 40, .int 0, .null, .null]))]) C (by decide) (by decide) (xLk (n := 119) (by decide +kernel) rfl) 0 rfl rfl hin rfl rfl rfl (Nat.le_of_ble_eq_true rfl) (by decide +kernel) rfl ?_
  refine y_aload (pc := 14) (k := 0) C (by decide +kernel) rfl ?_
  refine y_iload (pc := 15) (k := 3) C (by decide +kernel) rfl ?_
  refine y_putF (pc := 16) (ci := 1) (idx := 16) (k := 2) (ws1 := [(h, .inr (1, [.int 6, .int 40, .int 0, .null, .null]))]) C (by decide) (by decide) (xLk (n := 121) (by decide +kernel) rfl) 0 rfl rfl hin rfl rfl rfl (Nat.le_of_ble_eq_true rfl) (by decide +kernel) rfl ?_
  refine y_aload (pc := 19) (k := 0) C (by decide +kernel) rfl ?_
  refine y_iload (pc := 20) (k := 1) C (by decide +kernel) rfl ?_
  refine y_iload (pc := 21) (k := 2) C (by decide +kernel) rfl ?_
  refine y_imul (pc := 22) (v := 240) C (by decide +kernel) (by decide) ?_
  refine y_newi (pc := 23) (N := 240) (W1 := fun q23 => [(h, .inr (1, [.int 6, .int 40, .int 0, .null, .null])), (q23, .inl (cI, 240, .inl (fun _ => 0)))]) C (by decide) (by decide) (by decide) (by decide) (by decide) (by decide +kernel) (fun _ => rfl) (fun q23 => ?_)
  refine y_putF (pc := 25) (ci := 1) (idx := 19) (k := 3) (ws1 := [(h, .inr (1, [.int 6, .int 40, .int 0, .ref q23, .null])), (q23, .inl (cI, 240, .inl (fun _ => 0)))]) C (by decide) (by decide) (xLk (n := 122) (by decide +kernel) rfl) 0 rfl rfl hin rfl rfl rfl (Nat.le_of_ble_eq_true rfl) (by decide +kernel) rfl ?_
  refine y_aload (pc := 28) (k := 0) C (by decide +kernel) rfl ?_
  refine y_iload (pc := 29) (k := 1) C (by decide +kernel) rfl ?_
  refine y_newi (pc := 30) (N := 6) (W1 := fun q30 => [(h, .inr (1, [.int 6, .int 40, .int 0, .ref q23, .null])), (q23, .inl (cI, 240, .inl (fun _ => 0))), (q30, .inl (cI, 6, .inl (fun _ => 0)))]) C (by decide) (by decide) (by decide) (by decide) (by decide) (by decide +kernel) (fun _ => rfl) (fun q30 => ?_)
  refine y_putF (pc := 32) (ci := 1) (idx := 23) (k := 4) (ws1 := [(h, .inr (1, [.int 6, .int 40, .int 0, .ref q23, .ref q30])), (q23, .inl (cI, 240, .inl (fun _ => 0))), (q30, .inl (cI, 6, .inl (fun _ => 0)))]) C (by decide) (by decide) (xLk (n := 123) (by decide +kernel) rfl) 0 rfl rfl hin rfl rfl rfl (Nat.le_of_ble_eq_true rfl) (by decide +kernel) rfl ?_
  refine y_aload (pc := 35) (k := 0) C (by decide +kernel) rfl ?_
  refine y_get (pc := 36) (ci := 1) (idx := 23) (k := 4) C (by decide) (by decide) (xLk (n := 123) (by decide +kernel) rfl) 0 rfl rfl (by decide +kernel) ?_
  refine y_iconst (pc := 39) (n := -1) (v := (-1)) C (by decide +kernel) (by decide) ?_
  refine y_callS (pc := 40) (idx := 26) (as := [.ref q30, .int (-1)]) (wc := [(q30, .inl (cI, 6, .inl (fun _ => 0)))]) (wr := [(h, .inr (1, [.int 6, .int 40, .int 0, .ref q23, .ref q30])), (q23, .inl (cI, 240, .inl (fun _ => 0)))]) (W1 := fun _ => [(h, .inr (1, [.int 6, .int 40, .int 0, .ref q23, .ref q30])), (q23, .inl (cI, 240, .inl (fun _ => 0))), (q30, .inl (cI, 6, .inl (yF (-1) (fun _ => 0) 6)))]) C (isC := [2]) (isR := [0, 1]) (ye_fill D cI cB cS q30 6 (by decide) (fun _ => 0) (-1)) yw_fill (xLk (n := 115) (by decide +kernel) rfl) (by decide) (by decide) rfl (Nat.le_of_ble_eq_true rfl) (by decide) (by decide) (by decide +kernel) rfl rfl (by decide) (by decide) (by decide) (fun _ => rfl) (fun _ => ?_)
  exact y_ret (pc := 43) C hr hlk (by decide +kernel) (q23, q30) [0, 1, 2] rfl (by decide)
set_option maxHeartbeats 8000000 in
set_option maxRecDepth 100000 in
theorem ye_shelf_b (D : va_G) (cI cB cS : ClassId) (h : Nat) : yEv (S := Nat × Nat) D cI cB cS yX1_init cX1_init 4 2 2 324 [.ref h, .int 4, .int 80, .int 32] [(h, .inr (1, [.int 0, .int 0, .int 0, .null, .null]))] (fun u => [(h, .inr (1, [.int 4, .int 80, .int 32, .ref u.1, .ref u.2])), (u.1, .inl (cI, 320, .inl (fun _ => 0))), (u.2, .inl (cI, 4, .inl (yF (-1) (fun _ => 0) 4)))]) := by
  refine y_met (by decide) (Nat.le_of_ble_eq_true rfl) ?_
  intro p l e R s m below meth c A C hr hlk hin
  refine y_aload (pc := 0) (k := 0) C (by decide +kernel) rfl ?_
  refine y_obj (pc := 1) (idx := 1) C (xLk (n := 114) (by decide +kernel) rfl) (by decide +kernel) (by decide) (Nat.le_of_ble_eq_true rfl) ?_
  refine y_aload (pc := 4) (k := 0) C (by decide +kernel) rfl ?_
  refine y_iload (pc := 5) (k := 1) C (by decide +kernel) rfl ?_
  refine y_putF (pc := 6) (ci := 1) (idx := 7) (k := 0) (ws1 := [(h, .inr (1, [.int 4, .int 0, .int 0, .null, .null]))]) C (by decide) (by decide) (xLk (n := 118) (by decide +kernel) rfl) 0 rfl rfl hin rfl rfl rfl (Nat.le_of_ble_eq_true rfl) (by decide +kernel) rfl ?_
  refine y_aload (pc := 9) (k := 0) C (by decide +kernel) rfl ?_
  refine y_iload (pc := 10) (k := 2) C (by decide +kernel) rfl ?_
  refine y_putF (pc := 11) (ci := 1) (idx := 13) (k := 1) (ws1 := [(h, .inr (1, [.int 4, .int 80, .int 0, .null, .null]))]) C (by decide) (by decide) (xLk (n := 119) (by decide +kernel) rfl) 0 rfl rfl hin rfl rfl rfl (Nat.le_of_ble_eq_true rfl) (by decide +kernel) rfl ?_
  refine y_aload (pc := 14) (k := 0) C (by decide +kernel) rfl ?_
  refine y_iload (pc := 15) (k := 3) C (by decide +kernel) rfl ?_
  refine y_putF (pc := 16) (ci := 1) (idx := 16) (k := 2) (ws1 := [(h, .inr (1, [.int 4, .int 80, .int 32, .null, .null]))]) C (by decide) (by decide) (xLk (n := 121) (by decide +kernel) rfl) 0 rfl rfl hin rfl rfl rfl (Nat.le_of_ble_eq_true rfl) (by decide +kernel) rfl ?_
  refine y_aload (pc := 19) (k := 0) C (by decide +kernel) rfl ?_
  refine y_iload (pc := 20) (k := 1) C (by decide +kernel) rfl ?_
  refine y_iload (pc := 21) (k := 2) C (by decide +kernel) rfl ?_
  refine y_imul (pc := 22) (v := 320) C (by decide +kernel) (by decide) ?_
  refine y_newi (pc := 23) (N := 320) (W1 := fun q23 => [(h, .inr (1, [.int 4, .int 80, .int 32, .null, .null])), (q23, .inl (cI, 320, .inl (fun _ => 0)))]) C (by decide) (by decide) (by decide) (by decide) (by decide) (by decide +kernel) (fun _ => rfl) (fun q23 => ?_)
  refine y_putF (pc := 25) (ci := 1) (idx := 19) (k := 3) (ws1 := [(h, .inr (1, [.int 4, .int 80, .int 32, .ref q23, .null])), (q23, .inl (cI, 320, .inl (fun _ => 0)))]) C (by decide) (by decide) (xLk (n := 122) (by decide +kernel) rfl) 0 rfl rfl hin rfl rfl rfl (Nat.le_of_ble_eq_true rfl) (by decide +kernel) rfl ?_
  refine y_aload (pc := 28) (k := 0) C (by decide +kernel) rfl ?_
  refine y_iload (pc := 29) (k := 1) C (by decide +kernel) rfl ?_
  refine y_newi (pc := 30) (N := 4) (W1 := fun q30 => [(h, .inr (1, [.int 4, .int 80, .int 32, .ref q23, .null])), (q23, .inl (cI, 320, .inl (fun _ => 0))), (q30, .inl (cI, 4, .inl (fun _ => 0)))]) C (by decide) (by decide) (by decide) (by decide) (by decide) (by decide +kernel) (fun _ => rfl) (fun q30 => ?_)
  refine y_putF (pc := 32) (ci := 1) (idx := 23) (k := 4) (ws1 := [(h, .inr (1, [.int 4, .int 80, .int 32, .ref q23, .ref q30])), (q23, .inl (cI, 320, .inl (fun _ => 0))), (q30, .inl (cI, 4, .inl (fun _ => 0)))]) C (by decide) (by decide) (xLk (n := 123) (by decide +kernel) rfl) 0 rfl rfl hin rfl rfl rfl (Nat.le_of_ble_eq_true rfl) (by decide +kernel) rfl ?_
  refine y_aload (pc := 35) (k := 0) C (by decide +kernel) rfl ?_
  refine y_get (pc := 36) (ci := 1) (idx := 23) (k := 4) C (by decide) (by decide) (xLk (n := 123) (by decide +kernel) rfl) 0 rfl rfl (by decide +kernel) ?_
  refine y_iconst (pc := 39) (n := -1) (v := (-1)) C (by decide +kernel) (by decide) ?_
  refine y_callS (pc := 40) (idx := 26) (as := [.ref q30, .int (-1)]) (wc := [(q30, .inl (cI, 4, .inl (fun _ => 0)))]) (wr := [(h, .inr (1, [.int 4, .int 80, .int 32, .ref q23, .ref q30])), (q23, .inl (cI, 320, .inl (fun _ => 0)))]) (W1 := fun _ => [(h, .inr (1, [.int 4, .int 80, .int 32, .ref q23, .ref q30])), (q23, .inl (cI, 320, .inl (fun _ => 0))), (q30, .inl (cI, 4, .inl (yF (-1) (fun _ => 0) 4)))]) C (isC := [2]) (isR := [0, 1]) (ye_fill D cI cB cS q30 4 (by decide) (fun _ => 0) (-1)) yw_fill (xLk (n := 115) (by decide +kernel) rfl) (by decide) (by decide) rfl (Nat.le_of_ble_eq_true rfl) (by decide) (by decide) (by decide +kernel) rfl rfl (by decide) (by decide) (by decide) (fun _ => rfl) (fun _ => ?_)
  exact y_ret (pc := 43) C hr hlk (by decide +kernel) (q23, q30) [0, 1, 2] rfl (by decide)
set_option maxHeartbeats 8000000 in
set_option maxRecDepth 100000 in
theorem ye_court (D : va_G) (cI cB cS : ClassId) (h : Nat) : yEv (S := Nat → Nat) D cI cB cS yX0_init cX0_init 1 1 5 374 [.ref h] [(h, .inr (0, [.int 0, .int 0, .int 0, .null, .null, .null, .null, .null]))] (fun u => [(h, .inr (0, [.int 0, .int 0, .int 0, .ref (u 0), .ref (u 1), .ref (u 2), .ref (u 3), .ref (u 4)])), ((u 0), .inl (cI, 30, .inl (fun _ => 0))), ((u 1), .inl (cI, 320, .inl (fun _ => 0))), ((u 2), .inl (cI, 8, .inl (fun _ => 0))), ((u 3), .inl (cI, 8, .inl (fun _ => 0))), ((u 4), .inl (cI, 8, .inl (fun _ => 0)))]) := by
  refine y_met (by decide) (Nat.le_of_ble_eq_true rfl) ?_
  intro p l e R s m below meth c A C hr hlk hin
  refine y_aload (pc := 0) (k := 0) C (by decide +kernel) rfl ?_
  refine y_obj (pc := 1) (idx := 3) C (xLk (n := 141) (by decide +kernel) rfl) (by decide +kernel) (by decide) (Nat.le_of_ble_eq_true rfl) ?_
  refine y_aload (pc := 4) (k := 0) C (by decide +kernel) rfl ?_
  refine y_bipush (pc := 5) (n := 30) (v := 30) C (by decide +kernel) (by decide) ?_
  refine y_newi (pc := 7) (N := 30) (W1 := fun q7 => [(h, .inr (0, [.int 0, .int 0, .int 0, .null, .null, .null, .null, .null])), (q7, .inl (cI, 30, .inl (fun _ => 0)))]) C (by decide) (by decide) (by decide) (by decide) (by decide) (by decide +kernel) (fun _ => rfl) (fun q7 => ?_)
  refine y_putF (pc := 9) (ci := 0) (idx := 9) (k := 3) (ws1 := [(h, .inr (0, [.int 0, .int 0, .int 0, .ref q7, .null, .null, .null, .null])), (q7, .inl (cI, 30, .inl (fun _ => 0)))]) C (by decide) (by decide) (xLk (n := 147) (by decide +kernel) rfl) 0 rfl rfl hin rfl rfl rfl (Nat.le_of_ble_eq_true rfl) (by decide +kernel) rfl ?_
  refine y_aload (pc := 12) (k := 0) C (by decide +kernel) rfl ?_
  refine y_sipush (pc := 13) (n := 320) (v := 320) C (by decide +kernel) (by decide) ?_
  refine y_newi (pc := 16) (N := 320) (W1 := fun q16 => [(h, .inr (0, [.int 0, .int 0, .int 0, .ref q7, .null, .null, .null, .null])), (q7, .inl (cI, 30, .inl (fun _ => 0))), (q16, .inl (cI, 320, .inl (fun _ => 0)))]) C (by decide) (by decide) (by decide) (by decide) (by decide) (by decide +kernel) (fun _ => rfl) (fun q16 => ?_)
  refine y_putF (pc := 18) (ci := 0) (idx := 15) (k := 4) (ws1 := [(h, .inr (0, [.int 0, .int 0, .int 0, .ref q7, .ref q16, .null, .null, .null])), (q7, .inl (cI, 30, .inl (fun _ => 0))), (q16, .inl (cI, 320, .inl (fun _ => 0)))]) C (by decide) (by decide) (xLk (n := 149) (by decide +kernel) rfl) 0 rfl rfl hin rfl rfl rfl (Nat.le_of_ble_eq_true rfl) (by decide +kernel) rfl ?_
  refine y_aload (pc := 21) (k := 0) C (by decide +kernel) rfl ?_
  refine y_bipush (pc := 22) (n := 8) (v := 8) C (by decide +kernel) (by decide) ?_
  refine y_newi (pc := 24) (N := 8) (W1 := fun q24 => [(h, .inr (0, [.int 0, .int 0, .int 0, .ref q7, .ref q16, .null, .null, .null])), (q7, .inl (cI, 30, .inl (fun _ => 0))), (q16, .inl (cI, 320, .inl (fun _ => 0))), (q24, .inl (cI, 8, .inl (fun _ => 0)))]) C (by decide) (by decide) (by decide) (by decide) (by decide) (by decide +kernel) (fun _ => rfl) (fun q24 => ?_)
  refine y_putF (pc := 26) (ci := 0) (idx := 18) (k := 5) (ws1 := [(h, .inr (0, [.int 0, .int 0, .int 0, .ref q7, .ref q16, .ref q24, .null, .null])), (q7, .inl (cI, 30, .inl (fun _ => 0))), (q16, .inl (cI, 320, .inl (fun _ => 0))), (q24, .inl (cI, 8, .inl (fun _ => 0)))]) C (by decide) (by decide) (xLk (n := 150) (by decide +kernel) rfl) 0 rfl rfl hin rfl rfl rfl (Nat.le_of_ble_eq_true rfl) (by decide +kernel) rfl ?_
  refine y_aload (pc := 29) (k := 0) C (by decide +kernel) rfl ?_
  refine y_bipush (pc := 30) (n := 8) (v := 8) C (by decide +kernel) (by decide) ?_
  refine y_newi (pc := 32) (N := 8) (W1 := fun q32 => [(h, .inr (0, [.int 0, .int 0, .int 0, .ref q7, .ref q16, .ref q24, .null, .null])), (q7, .inl (cI, 30, .inl (fun _ => 0))), (q16, .inl (cI, 320, .inl (fun _ => 0))), (q24, .inl (cI, 8, .inl (fun _ => 0))), (q32, .inl (cI, 8, .inl (fun _ => 0)))]) C (by decide) (by decide) (by decide) (by decide) (by decide) (by decide +kernel) (fun _ => rfl) (fun q32 => ?_)
  refine y_putF (pc := 34) (ci := 0) (idx := 21) (k := 6) (ws1 := [(h, .inr (0, [.int 0, .int 0, .int 0, .ref q7, .ref q16, .ref q24, .ref q32, .null])), (q7, .inl (cI, 30, .inl (fun _ => 0))), (q16, .inl (cI, 320, .inl (fun _ => 0))), (q24, .inl (cI, 8, .inl (fun _ => 0))), (q32, .inl (cI, 8, .inl (fun _ => 0)))]) C (by decide) (by decide) (xLk (n := 152) (by decide +kernel) rfl) 0 rfl rfl hin rfl rfl rfl (Nat.le_of_ble_eq_true rfl) (by decide +kernel) rfl ?_
  refine y_aload (pc := 37) (k := 0) C (by decide +kernel) rfl ?_
  refine y_bipush (pc := 38) (n := 8) (v := 8) C (by decide +kernel) (by decide) ?_
  refine y_newi (pc := 40) (N := 8) (W1 := fun q40 => [(h, .inr (0, [.int 0, .int 0, .int 0, .ref q7, .ref q16, .ref q24, .ref q32, .null])), (q7, .inl (cI, 30, .inl (fun _ => 0))), (q16, .inl (cI, 320, .inl (fun _ => 0))), (q24, .inl (cI, 8, .inl (fun _ => 0))), (q32, .inl (cI, 8, .inl (fun _ => 0))), (q40, .inl (cI, 8, .inl (fun _ => 0)))]) C (by decide) (by decide) (by decide) (by decide) (by decide) (by decide +kernel) (fun _ => rfl) (fun q40 => ?_)
  refine y_putF (pc := 42) (ci := 0) (idx := 24) (k := 7) (ws1 := [(h, .inr (0, [.int 0, .int 0, .int 0, .ref q7, .ref q16, .ref q24, .ref q32, .ref q40])), (q7, .inl (cI, 30, .inl (fun _ => 0))), (q16, .inl (cI, 320, .inl (fun _ => 0))), (q24, .inl (cI, 8, .inl (fun _ => 0))), (q32, .inl (cI, 8, .inl (fun _ => 0))), (q40, .inl (cI, 8, .inl (fun _ => 0)))]) C (by decide) (by decide) (xLk (n := 154) (by decide +kernel) rfl) 0 rfl rfl hin rfl rfl rfl (Nat.le_of_ble_eq_true rfl) (by decide +kernel) rfl ?_
  exact y_ret (pc := 45) C hr hlk (by decide +kernel) (fun k => [q7, q16, q24, q32, q40].getD k 0) [0, 1, 2, 3, 4, 5] rfl (by decide)
set_option maxHeartbeats 8000000 in
set_option maxRecDepth 100000 in
theorem ye_stand (D : va_G) (cI cB cS : ClassId) (h : Nat) : yEv (S := Nat → Nat) D cI cB cS yX2_init cX2_init 1 1 3 88 [.ref h] [(h, .inr (2, [.int 0, .int 0, .int 0, .null, .null, .null]))] (fun u => [(h, .inr (2, [.int 0, .int 0, .int 0, .ref (u 0), .ref (u 1), .ref (u 2)])), ((u 0), .inl (cI, 8, .inl (fun _ => 0))), ((u 1), .inl (cI, 40, .inl (fun _ => 0))), ((u 2), .inl (cI, 40, .inl (fun _ => 0)))]) := by
  refine y_met (by decide) (Nat.le_of_ble_eq_true rfl) ?_
  intro p l e R s m below meth c A C hr hlk hin
  refine y_aload (pc := 0) (k := 0) C (by decide +kernel) rfl ?_
  refine y_obj (pc := 1) (idx := 3) C (xLk (n := 178) (by decide +kernel) rfl) (by decide +kernel) (by decide) (Nat.le_of_ble_eq_true rfl) ?_
  refine y_aload (pc := 4) (k := 0) C (by decide +kernel) rfl ?_
  refine y_bipush (pc := 5) (n := 8) (v := 8) C (by decide +kernel) (by decide) ?_
  refine y_newi (pc := 7) (N := 8) (W1 := fun q7 => [(h, .inr (2, [.int 0, .int 0, .int 0, .null, .null, .null])), (q7, .inl (cI, 8, .inl (fun _ => 0)))]) C (by decide) (by decide) (by decide) (by decide) (by decide) (by decide +kernel) (fun _ => rfl) (fun q7 => ?_)
  refine y_putF (pc := 9) (ci := 2) (idx := 9) (k := 3) (ws1 := [(h, .inr (2, [.int 0, .int 0, .int 0, .ref q7, .null, .null])), (q7, .inl (cI, 8, .inl (fun _ => 0)))]) C (by decide) (by decide) (xLk (n := 184) (by decide +kernel) rfl) 0 rfl rfl hin rfl rfl rfl (Nat.le_of_ble_eq_true rfl) (by decide +kernel) rfl ?_
  refine y_aload (pc := 12) (k := 0) C (by decide +kernel) rfl ?_
  refine y_bipush (pc := 13) (n := 40) (v := 40) C (by decide +kernel) (by decide) ?_
  refine y_newi (pc := 15) (N := 40) (W1 := fun q15 => [(h, .inr (2, [.int 0, .int 0, .int 0, .ref q7, .null, .null])), (q7, .inl (cI, 8, .inl (fun _ => 0))), (q15, .inl (cI, 40, .inl (fun _ => 0)))]) C (by decide) (by decide) (by decide) (by decide) (by decide) (by decide +kernel) (fun _ => rfl) (fun q15 => ?_)
  refine y_putF (pc := 17) (ci := 2) (idx := 15) (k := 4) (ws1 := [(h, .inr (2, [.int 0, .int 0, .int 0, .ref q7, .ref q15, .null])), (q7, .inl (cI, 8, .inl (fun _ => 0))), (q15, .inl (cI, 40, .inl (fun _ => 0)))]) C (by decide) (by decide) (xLk (n := 186) (by decide +kernel) rfl) 0 rfl rfl hin rfl rfl rfl (Nat.le_of_ble_eq_true rfl) (by decide +kernel) rfl ?_
  refine y_aload (pc := 20) (k := 0) C (by decide +kernel) rfl ?_
  refine y_bipush (pc := 21) (n := 40) (v := 40) C (by decide +kernel) (by decide) ?_
  refine y_newi (pc := 23) (N := 40) (W1 := fun q23 => [(h, .inr (2, [.int 0, .int 0, .int 0, .ref q7, .ref q15, .null])), (q7, .inl (cI, 8, .inl (fun _ => 0))), (q15, .inl (cI, 40, .inl (fun _ => 0))), (q23, .inl (cI, 40, .inl (fun _ => 0)))]) C (by decide) (by decide) (by decide) (by decide) (by decide) (by decide +kernel) (fun _ => rfl) (fun q23 => ?_)
  refine y_putF (pc := 25) (ci := 2) (idx := 18) (k := 5) (ws1 := [(h, .inr (2, [.int 0, .int 0, .int 0, .ref q7, .ref q15, .ref q23])), (q7, .inl (cI, 8, .inl (fun _ => 0))), (q15, .inl (cI, 40, .inl (fun _ => 0))), (q23, .inl (cI, 40, .inl (fun _ => 0)))]) C (by decide) (by decide) (xLk (n := 187) (by decide +kernel) rfl) 0 rfl rfl hin rfl rfl rfl (Nat.le_of_ble_eq_true rfl) (by decide +kernel) rfl ?_
  exact y_ret (pc := 28) C hr hlk (by decide +kernel) (fun k => [q7, q15, q23].getD k 0) [0, 1, 2, 3] rfl (by decide)
abbrev yBd : Nat → Int32 := (upd (upd (upd (upd (upd (upd (upd (upd (fun _ => 0) 0 1) 1 4) 2 1) 3 4) 4 1) 5 4) 6 1) 7 4)
set_option maxHeartbeats 8000000 in
set_option maxRecDepth 100000 in
theorem ye_beginWith (D : va_G) (cI cB cS : ClassId) (h b x1 x2 : Nat) : yEv (S := Unit) D cI cB cS yX2_beginWith cX2_beginWith 3 1 0 0 [.ref h, .int 0] [(h, .inr (2, [.int 0, .int 0, .int 0, .ref b, .ref x1, .ref x2])), (b, .inl (cI, 8, .inl (fun _ => 0)))] (fun _ => [(h, .inr (2, [.int 0, .int 0, .int 0, .ref b, .ref x1, .ref x2])), (b, .inl (cI, 8, .inl yBd))]) := by
  refine y_met (by decide) (Nat.le_of_ble_eq_true rfl) ?_
  intro p l e R s m below meth c A C hr hlk hin
  refine y_aload (pc := 0) (k := 0) C (by decide +kernel) rfl ?_
  refine y_iconst (pc := 1) (n := 1) (v := 1) C (by decide +kernel) (by decide) ?_
  refine y_iload (pc := 2) (k := 1) C (by decide +kernel) rfl ?_
  refine y_ishl (pc := 3) (v := 1) C (by decide +kernel) (by decide) ?_
  refine y_iconst (pc := 4) (n := 1) (v := 1) C (by decide +kernel) (by decide) ?_
  refine y_isub (pc := 5) (v := 0) C (by decide +kernel) (by decide) ?_
  refine y_put (pc := 6) (ci := 2) (idx := 21) (k := 1) (ws1 := [(h, .inr (2, [.int 0, .int 0, .int 0, .ref b, .ref x1, .ref x2])), (b, .inl (cI, 8, .inl (fun _ => 0)))]) C (by decide) (by decide) (xLk (n := 180) (by decide +kernel) rfl) 0 rfl rfl rfl rfl (Nat.le_of_ble_eq_true rfl) (by decide +kernel) rfl ?_
  refine y_aload (pc := 9) (k := 0) C (by decide +kernel) rfl ?_
  refine y_iconst (pc := 10) (n := 0) (v := 0) C (by decide +kernel) (by decide) ?_
  refine y_put (pc := 11) (ci := 2) (idx := 25) (k := 2) (ws1 := [(h, .inr (2, [.int 0, .int 0, .int 0, .ref b, .ref x1, .ref x2])), (b, .inl (cI, 8, .inl (fun _ => 0)))]) C (by decide) (by decide) (xLk (n := 182) (by decide +kernel) rfl) 0 rfl rfl rfl rfl (Nat.le_of_ble_eq_true rfl) (by decide +kernel) rfl ?_
  refine y_iconst (pc := 14) (n := 0) (v := 0) C (by decide +kernel) (by decide) ?_
  refine y_istore (pc := 15) (k := 2) (lv1 := [(2, .int 0), (0, .ref h), (1, .int 0)]) C (by decide +kernel) (by decide) rfl ?_
  refine y_iload (pc := 16) (k := 2) C (by decide +kernel) rfl ?_
  refine y_iconst (pc := 17) (n := 4) (v := 4) C (by decide +kernel) (by decide) ?_
  refine y_icmp_ge (pc := 18) (off := 29) (tgt := 47) C (by decide +kernel) (by decide) (fun h => absurd h (by decide)) (fun _ => ?_)
  refine y_aload (pc := 21) (k := 0) C (by decide +kernel) rfl ?_
  refine y_get (pc := 22) (ci := 2) (idx := 9) (k := 3) C (by decide) (by decide) (xLk (n := 184) (by decide +kernel) rfl) 0 rfl rfl (by decide +kernel) ?_
  refine y_iconst (pc := 25) (n := 2) (v := 2) C (by decide +kernel) (by decide) ?_
  refine y_iload (pc := 26) (k := 2) C (by decide +kernel) rfl ?_
  refine y_imul (pc := 27) (v := 0) C (by decide +kernel) (by decide) ?_
  refine y_iconst (pc := 28) (n := 1) (v := 1) C (by decide +kernel) (by decide) ?_
  refine y_iast (pc := 29) (j := 0) (ws1 := [(h, .inr (2, [.int 0, .int 0, .int 0, .ref b, .ref x1, .ref x2])), (b, .inl (cI, 8, .inl (upd (fun _ => 0) 0 1)))]) C 1 rfl (inb_in (by decide)) (by decide) (by decide +kernel) rfl ?_
  refine y_aload (pc := 30) (k := 0) C (by decide +kernel) rfl ?_
  refine y_get (pc := 31) (ci := 2) (idx := 9) (k := 3) C (by decide) (by decide) (xLk (n := 184) (by decide +kernel) rfl) 0 rfl rfl (by decide +kernel) ?_
  refine y_iconst (pc := 34) (n := 2) (v := 2) C (by decide +kernel) (by decide) ?_
  refine y_iload (pc := 35) (k := 2) C (by decide +kernel) rfl ?_
  refine y_imul (pc := 36) (v := 0) C (by decide +kernel) (by decide) ?_
  refine y_iconst (pc := 37) (n := 1) (v := 1) C (by decide +kernel) (by decide) ?_
  refine y_iadd (pc := 38) (v := 1) C (by decide +kernel) (by decide) ?_
  refine y_iconst (pc := 39) (n := 4) (v := 4) C (by decide +kernel) (by decide) ?_
  refine y_iast (pc := 40) (j := 1) (ws1 := [(h, .inr (2, [.int 0, .int 0, .int 0, .ref b, .ref x1, .ref x2])), (b, .inl (cI, 8, .inl (upd (upd (fun _ => 0) 0 1) 1 4)))]) C 1 rfl (inb_in (by decide)) (by decide) (by decide +kernel) rfl ?_
  refine y_iinc (pc := 41) (i := 2) (n := 1) (k := 0) (v := 1) (lv1 := [(2, .int 1), (0, .ref h), (1, .int 0)]) C (by decide +kernel) rfl (by decide) (by decide) rfl ?_
  refine y_goto (pc := 44) (off := -28) (tgt := 16) C (by decide +kernel) (by decide) ?_
  refine y_iload (pc := 16) (k := 2) C (by decide +kernel) rfl ?_
  refine y_iconst (pc := 17) (n := 4) (v := 4) C (by decide +kernel) (by decide) ?_
  refine y_icmp_ge (pc := 18) (off := 29) (tgt := 47) C (by decide +kernel) (by decide) (fun h => absurd h (by decide)) (fun _ => ?_)
  refine y_aload (pc := 21) (k := 0) C (by decide +kernel) rfl ?_
  refine y_get (pc := 22) (ci := 2) (idx := 9) (k := 3) C (by decide) (by decide) (xLk (n := 184) (by decide +kernel) rfl) 0 rfl rfl (by decide +kernel) ?_
  refine y_iconst (pc := 25) (n := 2) (v := 2) C (by decide +kernel) (by decide) ?_
  refine y_iload (pc := 26) (k := 2) C (by decide +kernel) rfl ?_
  refine y_imul (pc := 27) (v := 2) C (by decide +kernel) (by decide) ?_
  refine y_iconst (pc := 28) (n := 1) (v := 1) C (by decide +kernel) (by decide) ?_
  refine y_iast (pc := 29) (j := 2) (ws1 := [(h, .inr (2, [.int 0, .int 0, .int 0, .ref b, .ref x1, .ref x2])), (b, .inl (cI, 8, .inl (upd (upd (upd (fun _ => 0) 0 1) 1 4) 2 1)))]) C 1 rfl (inb_in (by decide)) (by decide) (by decide +kernel) rfl ?_
  refine y_aload (pc := 30) (k := 0) C (by decide +kernel) rfl ?_
  refine y_get (pc := 31) (ci := 2) (idx := 9) (k := 3) C (by decide) (by decide) (xLk (n := 184) (by decide +kernel) rfl) 0 rfl rfl (by decide +kernel) ?_
  refine y_iconst (pc := 34) (n := 2) (v := 2) C (by decide +kernel) (by decide) ?_
  refine y_iload (pc := 35) (k := 2) C (by decide +kernel) rfl ?_
  refine y_imul (pc := 36) (v := 2) C (by decide +kernel) (by decide) ?_
  refine y_iconst (pc := 37) (n := 1) (v := 1) C (by decide +kernel) (by decide) ?_
  refine y_iadd (pc := 38) (v := 3) C (by decide +kernel) (by decide) ?_
  refine y_iconst (pc := 39) (n := 4) (v := 4) C (by decide +kernel) (by decide) ?_
  refine y_iast (pc := 40) (j := 3) (ws1 := [(h, .inr (2, [.int 0, .int 0, .int 0, .ref b, .ref x1, .ref x2])), (b, .inl (cI, 8, .inl (upd (upd (upd (upd (fun _ => 0) 0 1) 1 4) 2 1) 3 4)))]) C 1 rfl (inb_in (by decide)) (by decide) (by decide +kernel) rfl ?_
  refine y_iinc (pc := 41) (i := 2) (n := 1) (k := 0) (v := 2) (lv1 := [(2, .int 2), (0, .ref h), (1, .int 0)]) C (by decide +kernel) rfl (by decide) (by decide) rfl ?_
  refine y_goto (pc := 44) (off := -28) (tgt := 16) C (by decide +kernel) (by decide) ?_
  refine y_iload (pc := 16) (k := 2) C (by decide +kernel) rfl ?_
  refine y_iconst (pc := 17) (n := 4) (v := 4) C (by decide +kernel) (by decide) ?_
  refine y_icmp_ge (pc := 18) (off := 29) (tgt := 47) C (by decide +kernel) (by decide) (fun h => absurd h (by decide)) (fun _ => ?_)
  refine y_aload (pc := 21) (k := 0) C (by decide +kernel) rfl ?_
  refine y_get (pc := 22) (ci := 2) (idx := 9) (k := 3) C (by decide) (by decide) (xLk (n := 184) (by decide +kernel) rfl) 0 rfl rfl (by decide +kernel) ?_
  refine y_iconst (pc := 25) (n := 2) (v := 2) C (by decide +kernel) (by decide) ?_
  refine y_iload (pc := 26) (k := 2) C (by decide +kernel) rfl ?_
  refine y_imul (pc := 27) (v := 4) C (by decide +kernel) (by decide) ?_
  refine y_iconst (pc := 28) (n := 1) (v := 1) C (by decide +kernel) (by decide) ?_
  refine y_iast (pc := 29) (j := 4) (ws1 := [(h, .inr (2, [.int 0, .int 0, .int 0, .ref b, .ref x1, .ref x2])), (b, .inl (cI, 8, .inl (upd (upd (upd (upd (upd (fun _ => 0) 0 1) 1 4) 2 1) 3 4) 4 1)))]) C 1 rfl (inb_in (by decide)) (by decide) (by decide +kernel) rfl ?_
  refine y_aload (pc := 30) (k := 0) C (by decide +kernel) rfl ?_
  refine y_get (pc := 31) (ci := 2) (idx := 9) (k := 3) C (by decide) (by decide) (xLk (n := 184) (by decide +kernel) rfl) 0 rfl rfl (by decide +kernel) ?_
  refine y_iconst (pc := 34) (n := 2) (v := 2) C (by decide +kernel) (by decide) ?_
  refine y_iload (pc := 35) (k := 2) C (by decide +kernel) rfl ?_
  refine y_imul (pc := 36) (v := 4) C (by decide +kernel) (by decide) ?_
  refine y_iconst (pc := 37) (n := 1) (v := 1) C (by decide +kernel) (by decide) ?_
  refine y_iadd (pc := 38) (v := 5) C (by decide +kernel) (by decide) ?_
  refine y_iconst (pc := 39) (n := 4) (v := 4) C (by decide +kernel) (by decide) ?_
  refine y_iast (pc := 40) (j := 5) (ws1 := [(h, .inr (2, [.int 0, .int 0, .int 0, .ref b, .ref x1, .ref x2])), (b, .inl (cI, 8, .inl (upd (upd (upd (upd (upd (upd (fun _ => 0) 0 1) 1 4) 2 1) 3 4) 4 1) 5 4)))]) C 1 rfl (inb_in (by decide)) (by decide) (by decide +kernel) rfl ?_
  refine y_iinc (pc := 41) (i := 2) (n := 1) (k := 0) (v := 3) (lv1 := [(2, .int 3), (0, .ref h), (1, .int 0)]) C (by decide +kernel) rfl (by decide) (by decide) rfl ?_
  refine y_goto (pc := 44) (off := -28) (tgt := 16) C (by decide +kernel) (by decide) ?_
  refine y_iload (pc := 16) (k := 2) C (by decide +kernel) rfl ?_
  refine y_iconst (pc := 17) (n := 4) (v := 4) C (by decide +kernel) (by decide) ?_
  refine y_icmp_ge (pc := 18) (off := 29) (tgt := 47) C (by decide +kernel) (by decide) (fun h => absurd h (by decide)) (fun _ => ?_)
  refine y_aload (pc := 21) (k := 0) C (by decide +kernel) rfl ?_
  refine y_get (pc := 22) (ci := 2) (idx := 9) (k := 3) C (by decide) (by decide) (xLk (n := 184) (by decide +kernel) rfl) 0 rfl rfl (by decide +kernel) ?_
  refine y_iconst (pc := 25) (n := 2) (v := 2) C (by decide +kernel) (by decide) ?_
  refine y_iload (pc := 26) (k := 2) C (by decide +kernel) rfl ?_
  refine y_imul (pc := 27) (v := 6) C (by decide +kernel) (by decide) ?_
  refine y_iconst (pc := 28) (n := 1) (v := 1) C (by decide +kernel) (by decide) ?_
  refine y_iast (pc := 29) (j := 6) (ws1 := [(h, .inr (2, [.int 0, .int 0, .int 0, .ref b, .ref x1, .ref x2])), (b, .inl (cI, 8, .inl (upd (upd (upd (upd (upd (upd (upd (fun _ => 0) 0 1) 1 4) 2 1) 3 4) 4 1) 5 4) 6 1)))]) C 1 rfl (inb_in (by decide)) (by decide) (by decide +kernel) rfl ?_
  refine y_aload (pc := 30) (k := 0) C (by decide +kernel) rfl ?_
  refine y_get (pc := 31) (ci := 2) (idx := 9) (k := 3) C (by decide) (by decide) (xLk (n := 184) (by decide +kernel) rfl) 0 rfl rfl (by decide +kernel) ?_
  refine y_iconst (pc := 34) (n := 2) (v := 2) C (by decide +kernel) (by decide) ?_
  refine y_iload (pc := 35) (k := 2) C (by decide +kernel) rfl ?_
  refine y_imul (pc := 36) (v := 6) C (by decide +kernel) (by decide) ?_
  refine y_iconst (pc := 37) (n := 1) (v := 1) C (by decide +kernel) (by decide) ?_
  refine y_iadd (pc := 38) (v := 7) C (by decide +kernel) (by decide) ?_
  refine y_iconst (pc := 39) (n := 4) (v := 4) C (by decide +kernel) (by decide) ?_
  refine y_iast (pc := 40) (j := 7) (ws1 := [(h, .inr (2, [.int 0, .int 0, .int 0, .ref b, .ref x1, .ref x2])), (b, .inl (cI, 8, .inl (upd (upd (upd (upd (upd (upd (upd (upd (fun _ => 0) 0 1) 1 4) 2 1) 3 4) 4 1) 5 4) 6 1) 7 4)))]) C 1 rfl (inb_in (by decide)) (by decide) (by decide +kernel) rfl ?_
  refine y_iinc (pc := 41) (i := 2) (n := 1) (k := 0) (v := 4) (lv1 := [(2, .int 4), (0, .ref h), (1, .int 0)]) C (by decide +kernel) rfl (by decide) (by decide) rfl ?_
  refine y_goto (pc := 44) (off := -28) (tgt := 16) C (by decide +kernel) (by decide) ?_
  refine y_iload (pc := 16) (k := 2) C (by decide +kernel) rfl ?_
  refine y_iconst (pc := 17) (n := 4) (v := 4) C (by decide +kernel) (by decide) ?_
  refine y_icmp_ge (pc := 18) (off := 29) (tgt := 47) C (by decide +kernel) (by decide) (fun _ => ?_) (fun h => absurd (by decide) h)
  exact y_ret (pc := 47) C hr hlk (by decide +kernel) () [0, 1] rfl (by decide)
