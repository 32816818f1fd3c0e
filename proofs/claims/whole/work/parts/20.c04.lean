/-! NeitherBare$Standing.takeFrom(LNeitherBare$Standing;)V (19, 24) -/
abbrev md_X2_takeFrom_19_24 : xMd := (cX2_takeFrom, RX2, 2, none, 1)
def f_X2_takeFrom_19_24 (u : xN) : Option xN := gdl [cpok (0 : Int32) (0 : Int32) (8 : Int32) 8 8] (gdl [cpok (0 : Int32) (0 : Int32) (40 : Int32) 40 40] (gdl [cpok (0 : Int32) (0 : Int32) (40 : Int32) 40 40] (some (mCp (mCp (mCp (mI (mI u 19 1 (u.1 24 1)) 19 2 ((mI u 19 1 (u.1 24 1)).1 24 2)) 25 20 (0 : Int32) (0 : Int32) (8 : Int32)) 26 21 (0 : Int32) (0 : Int32) (40 : Int32)) 27 22 (0 : Int32) (0 : Int32) (40 : Int32)))))
set_option maxRecDepth 20000 in
theorem go_X2_takeFrom_19_24 (u : xN) : xGm md_X2_takeFrom_19_24 rsV (f_X2_takeFrom_19_24 u) 0 [(0, .ref 19), (1, .ref 24)] [] (xU u) := by
  unfold f_X2_takeFrom_19_24
  refine xm_blk0 (pc' := 31) (lv' := [(0, .ref 19), (1, .ref 24)]) (st' := [.int (8 : Int32), .int (0 : Int32), .ref 20, .int (0 : Int32), .ref 25]) (u' := (xU (mI (mI u 19 1 (u.1 24 1)) 19 2 ((mI u 19 1 (u.1 24 1)).1 24 2)))) [(.aload_n 0, (0, 0, 0), 0, 0), (.aload_n 1, (0, 0, 0), 0, 0), (.getfield 21, (2, 1, 180), 0, 0), (.putfield 21, (2, 1, 180), 0, 0), (.aload_n 0, (0, 0, 0), 0, 0), (.aload_n 1, (0, 0, 0), 0, 0), (.getfield 25, (2, 2, 182), 0, 0), (.putfield 25, (2, 2, 182), 0, 0), (.aload_n 1, (0, 0, 0), 0, 0), (.getfield 9, (2, 3, 184), 0, 0), (.iconst 0, (0, 0, 0), 0, 0), (.aload_n 0, (0, 0, 0), 0, 0), (.getfield 9, (2, 3, 184), 0, 0), (.iconst 0, (0, 0, 0), 0, 0), (.aload_n 0, (0, 0, 0), 0, 0), (.getfield 9, (2, 3, 184), 0, 0), (.arraylength, (0, 0, 0), 0, 0)] (by decide +kernel) rfl ?_
  refine xm_acopy (pc := 31) (idx := 44) (p1 := 549) 8 8 (by decide +kernel) (by decide +kernel) rfl rfl (by decide) (by decide) (by decide) (Nat.le_of_ble_eq_true rfl) ?_
  show xGm md_X2_takeFrom_19_24 rsV _ 34 [(0, .ref 19), (1, .ref 24)] [] (xU (mCp (mI (mI u 19 1 (u.1 24 1)) 19 2 ((mI u 19 1 (u.1 24 1)).1 24 2)) 25 20 (0 : Int32) (0 : Int32) (8 : Int32)))
  refine xm_blk0 (pc' := 46) (lv' := [(0, .ref 19), (1, .ref 24)]) (st' := [.int (40 : Int32), .int (0 : Int32), .ref 21, .int (0 : Int32), .ref 26]) (u' := (xU (mCp (mI (mI u 19 1 (u.1 24 1)) 19 2 ((mI u 19 1 (u.1 24 1)).1 24 2)) 25 20 (0 : Int32) (0 : Int32) (8 : Int32)))) [(.aload_n 1, (0, 0, 0), 0, 0), (.getfield 15, (2, 4, 186), 0, 0), (.iconst 0, (0, 0, 0), 0, 0), (.aload_n 0, (0, 0, 0), 0, 0), (.getfield 15, (2, 4, 186), 0, 0), (.iconst 0, (0, 0, 0), 0, 0), (.bipush 40, (0, 0, 0), 40, 0)] (by decide +kernel) rfl ?_
  refine xm_acopy (pc := 46) (idx := 44) (p1 := 549) 40 40 (by decide +kernel) (by decide +kernel) rfl rfl (by decide) (by decide) (by decide) (Nat.le_of_ble_eq_true rfl) ?_
  show xGm md_X2_takeFrom_19_24 rsV _ 49 [(0, .ref 19), (1, .ref 24)] [] (xU (mCp (mCp (mI (mI u 19 1 (u.1 24 1)) 19 2 ((mI u 19 1 (u.1 24 1)).1 24 2)) 25 20 (0 : Int32) (0 : Int32) (8 : Int32)) 26 21 (0 : Int32) (0 : Int32) (40 : Int32)))
  refine xm_blk0 (pc' := 61) (lv' := [(0, .ref 19), (1, .ref 24)]) (st' := [.int (40 : Int32), .int (0 : Int32), .ref 22, .int (0 : Int32), .ref 27]) (u' := (xU (mCp (mCp (mI (mI u 19 1 (u.1 24 1)) 19 2 ((mI u 19 1 (u.1 24 1)).1 24 2)) 25 20 (0 : Int32) (0 : Int32) (8 : Int32)) 26 21 (0 : Int32) (0 : Int32) (40 : Int32)))) [(.aload_n 1, (0, 0, 0), 0, 0), (.getfield 18, (2, 5, 187), 0, 0), (.iconst 0, (0, 0, 0), 0, 0), (.aload_n 0, (0, 0, 0), 0, 0), (.getfield 18, (2, 5, 187), 0, 0), (.iconst 0, (0, 0, 0), 0, 0), (.bipush 40, (0, 0, 0), 40, 0)] (by decide +kernel) rfl ?_
  refine xm_acopy (pc := 61) (idx := 44) (p1 := 549) 40 40 (by decide +kernel) (by decide +kernel) rfl rfl (by decide) (by decide) (by decide) (Nat.le_of_ble_eq_true rfl) ?_
  show xGm md_X2_takeFrom_19_24 rsV _ 64 [(0, .ref 19), (1, .ref 24)] [] (xU (mCp (mCp (mCp (mI (mI u 19 1 (u.1 24 1)) 19 2 ((mI u 19 1 (u.1 24 1)).1 24 2)) 25 20 (0 : Int32) (0 : Int32) (8 : Int32)) 26 21 (0 : Int32) (0 : Int32) (40 : Int32)) 27 22 (0 : Int32) (0 : Int32) (40 : Int32)))
  exact xm_vret (pc := 64) (by decide +kernel) rfl rfl
theorem ev_X2_takeFrom_19_24 (u : xN) : ∀ r, f_X2_takeFrom_19_24 u = some r → xEm md_X2_takeFrom_19_24 yX2_takeFrom [.ref 19, .ref 24] (xU u) (none, xU r) := xm_met (res := rsV) (as := [.ref 19, .ref 24]) (go_X2_takeFrom_19_24 u) (by decide) rfl (Nat.le_of_ble_eq_true rfl)
/-! NeitherBare$Standing.takeFrom(LNeitherBare$Standing;)V (19, 28) -/
abbrev md_X2_takeFrom_19_28 : xMd := (cX2_takeFrom, RX2, 2, none, 1)
def f_X2_takeFrom_19_28 (u : xN) : Option xN := gdl [cpok (0 : Int32) (0 : Int32) (8 : Int32) 8 8] (gdl [cpok (0 : Int32) (0 : Int32) (40 : Int32) 40 40] (gdl [cpok (0 : Int32) (0 : Int32) (40 : Int32) 40 40] (some (mCp (mCp (mCp (mI (mI u 19 1 (u.1 28 1)) 19 2 ((mI u 19 1 (u.1 28 1)).1 28 2)) 29 20 (0 : Int32) (0 : Int32) (8 : Int32)) 30 21 (0 : Int32) (0 : Int32) (40 : Int32)) 31 22 (0 : Int32) (0 : Int32) (40 : Int32)))))
set_option maxRecDepth 20000 in
theorem go_X2_takeFrom_19_28 (u : xN) : xGm md_X2_takeFrom_19_28 rsV (f_X2_takeFrom_19_28 u) 0 [(0, .ref 19), (1, .ref 28)] [] (xU u) := by
  unfold f_X2_takeFrom_19_28
  refine xm_blk0 (pc' := 31) (lv' := [(0, .ref 19), (1, .ref 28)]) (st' := [.int (8 : Int32), .int (0 : Int32), .ref 20, .int (0 : Int32), .ref 29]) (u' := (xU (mI (mI u 19 1 (u.1 28 1)) 19 2 ((mI u 19 1 (u.1 28 1)).1 28 2)))) [(.aload_n 0, (0, 0, 0), 0, 0), (.aload_n 1, (0, 0, 0), 0, 0), (.getfield 21, (2, 1, 180), 0, 0), (.putfield 21, (2, 1, 180), 0, 0), (.aload_n 0, (0, 0, 0), 0, 0), (.aload_n 1, (0, 0, 0), 0, 0), (.getfield 25, (2, 2, 182), 0, 0), (.putfield 25, (2, 2, 182), 0, 0), (.aload_n 1, (0, 0, 0), 0, 0), (.getfield 9, (2, 3, 184), 0, 0), (.iconst 0, (0, 0, 0), 0, 0), (.aload_n 0, (0, 0, 0), 0, 0), (.getfield 9, (2, 3, 184), 0, 0), (.iconst 0, (0, 0, 0), 0, 0), (.aload_n 0, (0, 0, 0), 0, 0), (.getfield 9, (2, 3, 184), 0, 0), (.arraylength, (0, 0, 0), 0, 0)] (by decide +kernel) rfl ?_
  refine xm_acopy (pc := 31) (idx := 44) (p1 := 549) 8 8 (by decide +kernel) (by decide +kernel) rfl rfl (by decide) (by decide) (by decide) (Nat.le_of_ble_eq_true rfl) ?_
  show xGm md_X2_takeFrom_19_28 rsV _ 34 [(0, .ref 19), (1, .ref 28)] [] (xU (mCp (mI (mI u 19 1 (u.1 28 1)) 19 2 ((mI u 19 1 (u.1 28 1)).1 28 2)) 29 20 (0 : Int32) (0 : Int32) (8 : Int32)))
  refine xm_blk0 (pc' := 46) (lv' := [(0, .ref 19), (1, .ref 28)]) (st' := [.int (40 : Int32), .int (0 : Int32), .ref 21, .int (0 : Int32), .ref 30]) (u' := (xU (mCp (mI (mI u 19 1 (u.1 28 1)) 19 2 ((mI u 19 1 (u.1 28 1)).1 28 2)) 29 20 (0 : Int32) (0 : Int32) (8 : Int32)))) [(.aload_n 1, (0, 0, 0), 0, 0), (.getfield 15, (2, 4, 186), 0, 0), (.iconst 0, (0, 0, 0), 0, 0), (.aload_n 0, (0, 0, 0), 0, 0), (.getfield 15, (2, 4, 186), 0, 0), (.iconst 0, (0, 0, 0), 0, 0), (.bipush 40, (0, 0, 0), 40, 0)] (by decide +kernel) rfl ?_
  refine xm_acopy (pc := 46) (idx := 44) (p1 := 549) 40 40 (by decide +kernel) (by decide +kernel) rfl rfl (by decide) (by decide) (by decide) (Nat.le_of_ble_eq_true rfl) ?_
  show xGm md_X2_takeFrom_19_28 rsV _ 49 [(0, .ref 19), (1, .ref 28)] [] (xU (mCp (mCp (mI (mI u 19 1 (u.1 28 1)) 19 2 ((mI u 19 1 (u.1 28 1)).1 28 2)) 29 20 (0 : Int32) (0 : Int32) (8 : Int32)) 30 21 (0 : Int32) (0 : Int32) (40 : Int32)))
  refine xm_blk0 (pc' := 61) (lv' := [(0, .ref 19), (1, .ref 28)]) (st' := [.int (40 : Int32), .int (0 : Int32), .ref 22, .int (0 : Int32), .ref 31]) (u' := (xU (mCp (mCp (mI (mI u 19 1 (u.1 28 1)) 19 2 ((mI u 19 1 (u.1 28 1)).1 28 2)) 29 20 (0 : Int32) (0 : Int32) (8 : Int32)) 30 21 (0 : Int32) (0 : Int32) (40 : Int32)))) [(.aload_n 1, (0, 0, 0), 0, 0), (.getfield 18, (2, 5, 187), 0, 0), (.iconst 0, (0, 0, 0), 0, 0), (.aload_n 0, (0, 0, 0), 0, 0), (.getfield 18, (2, 5, 187), 0, 0), (.iconst 0, (0, 0, 0), 0, 0), (.bipush 40, (0, 0, 0), 40, 0)] (by decide +kernel) rfl ?_
  refine xm_acopy (pc := 61) (idx := 44) (p1 := 549) 40 40 (by decide +kernel) (by decide +kernel) rfl rfl (by decide) (by decide) (by decide) (Nat.le_of_ble_eq_true rfl) ?_
  show xGm md_X2_takeFrom_19_28 rsV _ 64 [(0, .ref 19), (1, .ref 28)] [] (xU (mCp (mCp (mCp (mI (mI u 19 1 (u.1 28 1)) 19 2 ((mI u 19 1 (u.1 28 1)).1 28 2)) 29 20 (0 : Int32) (0 : Int32) (8 : Int32)) 30 21 (0 : Int32) (0 : Int32) (40 : Int32)) 31 22 (0 : Int32) (0 : Int32) (40 : Int32)))
  exact xm_vret (pc := 64) (by decide +kernel) rfl rfl
theorem ev_X2_takeFrom_19_28 (u : xN) : ∀ r, f_X2_takeFrom_19_28 u = some r → xEm md_X2_takeFrom_19_28 yX2_takeFrom [.ref 19, .ref 28] (xU u) (none, xU r) := xm_met (res := rsV) (as := [.ref 19, .ref 28]) (go_X2_takeFrom_19_28 u) (by decide) rfl (Nat.le_of_ble_eq_true rfl)
/-! NeitherBare$Standing.takeFrom(LNeitherBare$Standing;)V (19, 32) -/
abbrev md_X2_takeFrom_19_32 : xMd := (cX2_takeFrom, RX2, 2, none, 1)
def f_X2_takeFrom_19_32 (u : xN) : Option xN := gdl [cpok (0 : Int32) (0 : Int32) (8 : Int32) 8 8] (gdl [cpok (0 : Int32) (0 : Int32) (40 : Int32) 40 40] (gdl [cpok (0 : Int32) (0 : Int32) (40 : Int32) 40 40] (some (mCp (mCp (mCp (mI (mI u 19 1 (u.1 32 1)) 19 2 ((mI u 19 1 (u.1 32 1)).1 32 2)) 33 20 (0 : Int32) (0 : Int32) (8 : Int32)) 34 21 (0 : Int32) (0 : Int32) (40 : Int32)) 35 22 (0 : Int32) (0 : Int32) (40 : Int32)))))
set_option maxRecDepth 20000 in
theorem go_X2_takeFrom_19_32 (u : xN) : xGm md_X2_takeFrom_19_32 rsV (f_X2_takeFrom_19_32 u) 0 [(0, .ref 19), (1, .ref 32)] [] (xU u) := by
  unfold f_X2_takeFrom_19_32
  refine xm_blk0 (pc' := 31) (lv' := [(0, .ref 19), (1, .ref 32)]) (st' := [.int (8 : Int32), .int (0 : Int32), .ref 20, .int (0 : Int32), .ref 33]) (u' := (xU (mI (mI u 19 1 (u.1 32 1)) 19 2 ((mI u 19 1 (u.1 32 1)).1 32 2)))) [(.aload_n 0, (0, 0, 0), 0, 0), (.aload_n 1, (0, 0, 0), 0, 0), (.getfield 21, (2, 1, 180), 0, 0), (.putfield 21, (2, 1, 180), 0, 0), (.aload_n 0, (0, 0, 0), 0, 0), (.aload_n 1, (0, 0, 0), 0, 0), (.getfield 25, (2, 2, 182), 0, 0), (.putfield 25, (2, 2, 182), 0, 0), (.aload_n 1, (0, 0, 0), 0, 0), (.getfield 9, (2, 3, 184), 0, 0), (.iconst 0, (0, 0, 0), 0, 0), (.aload_n 0, (0, 0, 0), 0, 0), (.getfield 9, (2, 3, 184), 0, 0), (.iconst 0, (0, 0, 0), 0, 0), (.aload_n 0, (0, 0, 0), 0, 0), (.getfield 9, (2, 3, 184), 0, 0), (.arraylength, (0, 0, 0), 0, 0)] (by decide +kernel) rfl ?_
  refine xm_acopy (pc := 31) (idx := 44) (p1 := 549) 8 8 (by decide +kernel) (by decide +kernel) rfl rfl (by decide) (by decide) (by decide) (Nat.le_of_ble_eq_true rfl) ?_
  show xGm md_X2_takeFrom_19_32 rsV _ 34 [(0, .ref 19), (1, .ref 32)] [] (xU (mCp (mI (mI u 19 1 (u.1 32 1)) 19 2 ((mI u 19 1 (u.1 32 1)).1 32 2)) 33 20 (0 : Int32) (0 : Int32) (8 : Int32)))
  refine xm_blk0 (pc' := 46) (lv' := [(0, .ref 19), (1, .ref 32)]) (st' := [.int (40 : Int32), .int (0 : Int32), .ref 21, .int (0 : Int32), .ref 34]) (u' := (xU (mCp (mI (mI u 19 1 (u.1 32 1)) 19 2 ((mI u 19 1 (u.1 32 1)).1 32 2)) 33 20 (0 : Int32) (0 : Int32) (8 : Int32)))) [(.aload_n 1, (0, 0, 0), 0, 0), (.getfield 15, (2, 4, 186), 0, 0), (.iconst 0, (0, 0, 0), 0, 0), (.aload_n 0, (0, 0, 0), 0, 0), (.getfield 15, (2, 4, 186), 0, 0), (.iconst 0, (0, 0, 0), 0, 0), (.bipush 40, (0, 0, 0), 40, 0)] (by decide +kernel) rfl ?_
  refine xm_acopy (pc := 46) (idx := 44) (p1 := 549) 40 40 (by decide +kernel) (by decide +kernel) rfl rfl (by decide) (by decide) (by decide) (Nat.le_of_ble_eq_true rfl) ?_
  show xGm md_X2_takeFrom_19_32 rsV _ 49 [(0, .ref 19), (1, .ref 32)] [] (xU (mCp (mCp (mI (mI u 19 1 (u.1 32 1)) 19 2 ((mI u 19 1 (u.1 32 1)).1 32 2)) 33 20 (0 : Int32) (0 : Int32) (8 : Int32)) 34 21 (0 : Int32) (0 : Int32) (40 : Int32)))
  refine xm_blk0 (pc' := 61) (lv' := [(0, .ref 19), (1, .ref 32)]) (st' := [.int (40 : Int32), .int (0 : Int32), .ref 22, .int (0 : Int32), .ref 35]) (u' := (xU (mCp (mCp (mI (mI u 19 1 (u.1 32 1)) 19 2 ((mI u 19 1 (u.1 32 1)).1 32 2)) 33 20 (0 : Int32) (0 : Int32) (8 : Int32)) 34 21 (0 : Int32) (0 : Int32) (40 : Int32)))) [(.aload_n 1, (0, 0, 0), 0, 0), (.getfield 18, (2, 5, 187), 0, 0), (.iconst 0, (0, 0, 0), 0, 0), (.aload_n 0, (0, 0, 0), 0, 0), (.getfield 18, (2, 5, 187), 0, 0), (.iconst 0, (0, 0, 0), 0, 0), (.bipush 40, (0, 0, 0), 40, 0)] (by decide +kernel) rfl ?_
  refine xm_acopy (pc := 61) (idx := 44) (p1 := 549) 40 40 (by decide +kernel) (by decide +kernel) rfl rfl (by decide) (by decide) (by decide) (Nat.le_of_ble_eq_true rfl) ?_
  show xGm md_X2_takeFrom_19_32 rsV _ 64 [(0, .ref 19), (1, .ref 32)] [] (xU (mCp (mCp (mCp (mI (mI u 19 1 (u.1 32 1)) 19 2 ((mI u 19 1 (u.1 32 1)).1 32 2)) 33 20 (0 : Int32) (0 : Int32) (8 : Int32)) 34 21 (0 : Int32) (0 : Int32) (40 : Int32)) 35 22 (0 : Int32) (0 : Int32) (40 : Int32)))
  exact xm_vret (pc := 64) (by decide +kernel) rfl rfl
theorem ev_X2_takeFrom_19_32 (u : xN) : ∀ r, f_X2_takeFrom_19_32 u = some r → xEm md_X2_takeFrom_19_32 yX2_takeFrom [.ref 19, .ref 32] (xU u) (none, xU r) := xm_met (res := rsV) (as := [.ref 19, .ref 32]) (go_X2_takeFrom_19_32 u) (by decide) rfl (Nat.le_of_ble_eq_true rfl)
theorem mw_X3_on : xMv yX3_on cX3_on 2 (some .int) 1 := xMv_of (p1 := 553) (p2 := 551) (p3 := 92) (p4 := 552) (by decide +kernel)
/-! NeitherBare.on(I)I (0, None) -/
abbrev md_X3_on : xMd := (cX3_on, RX3, 2, some .int, 2)
def f_X3_on (a1 : Int32) (u : xN) : Option (Int32 × xN) := Option.bind (f_X3_isKeepingPlace a1) (fun r1 => if r1 = (0 : Int32) then some ((-1 : Int32), u) else if a1 = (0 : Int32) then (if (u.1 24 0) = (0 : Int32) then Option.bind (f_X3_refuse (1 : Int32) u) (fun r23 => some (r23.1, r23.2)) else if a1 = (0 : Int32) then (Option.bind (f_X2_takeFrom_19_24 u) (fun r37 => some ((r37.1 19 2), r37))) else if a1 = (1 : Int32) then (Option.bind (f_X2_takeFrom_19_28 u) (fun r37 => some ((r37.1 19 2), r37))) else if a1 = (2 : Int32) then (Option.bind (f_X2_takeFrom_19_32 u) (fun r37 => some ((r37.1 19 2), r37))) else none) else if a1 = (1 : Int32) then (if (u.1 28 0) = (0 : Int32) then Option.bind (f_X3_refuse (1 : Int32) u) (fun r23 => some (r23.1, r23.2)) else if a1 = (0 : Int32) then (Option.bind (f_X2_takeFrom_19_24 u) (fun r37 => some ((r37.1 19 2), r37))) else if a1 = (1 : Int32) then (Option.bind (f_X2_takeFrom_19_28 u) (fun r37 => some ((r37.1 19 2), r37))) else if a1 = (2 : Int32) then (Option.bind (f_X2_takeFrom_19_32 u) (fun r37 => some ((r37.1 19 2), r37))) else none) else if a1 = (2 : Int32) then (if (u.1 32 0) = (0 : Int32) then Option.bind (f_X3_refuse (1 : Int32) u) (fun r23 => some (r23.1, r23.2)) else if a1 = (0 : Int32) then (Option.bind (f_X2_takeFrom_19_24 u) (fun r37 => some ((r37.1 19 2), r37))) else if a1 = (1 : Int32) then (Option.bind (f_X2_takeFrom_19_28 u) (fun r37 => some ((r37.1 19 2), r37))) else if a1 = (2 : Int32) then (Option.bind (f_X2_takeFrom_19_32 u) (fun r37 => some ((r37.1 19 2), r37))) else none) else none)
set_option maxRecDepth 20000 in
theorem go_X3_on (a1 : Int32) (u : xN) : xGm md_X3_on rsM (f_X3_on a1 u) 0 [(0, .ref 0), (1, .int a1)] [] (xU u) := by
  unfold f_X3_on
  refine xm_blk0 (pc' := 1) (lv' := [(0, .ref 0), (1, .int a1)]) (st' := [.int a1]) (u' := (xU u)) [(.iload_n 1, (0, 0, 0), 0, 0)] (by decide +kernel) rfl ?_
  refine xm_Si (pc := 1) (mz := md_X3_isKeepingPlace) (idx := 204) (p1 := 542) (as := [.int a1]) (st := []) (ev_X3_isKeepingPlace a1 u) mw_X3_isKeepingPlace (by decide +kernel) (by decide +kernel) (by decide) rfl (Nat.le_of_ble_eq_true rfl) (fun r1 => ?_)
  refine xm_if_ne (pc := 4) (off := 5) (tgt := 9) (by decide +kernel) (by decide) ?_ ?_
  · refine xm_blk0 (pc' := 14) (lv' := [(0, .ref 0), (1, .int a1)]) (st' := [.int a1, .ref 23]) (u' := (xU u)) [(.aload_n 0, (0, 0, 0), 0, 0), (.getfield 38, (3, 5, 211), 0, 0), (.iload_n 1, (0, 0, 0), 0, 0)] (by decide +kernel) rfl ?_
    refine xm_aald (pc := 14) (by decide +kernel) ?_ ?_ ?_
    · refine xm_blk0 (pc' := 18) (lv' := [(0, .ref 0), (1, .int a1)]) (st' := [.int (u.1 24 0)]) (u' := (xU u)) [(.getfield 116, (2, 0, 179), 0, 0)] (by decide +kernel) rfl ?_
      refine xm_if_ne (pc := 18) (off := 9) (tgt := 27) (by decide +kernel) (by decide) ?_ ?_
      · refine xm_blk0 (pc' := 36) (lv' := [(0, .ref 0), (1, .int a1)]) (st' := [.int a1, .ref 23, .ref 19]) (u' := (xU u)) [(.aload_n 0, (0, 0, 0), 0, 0), (.getfield 34, (3, 4, 210), 0, 0), (.aload_n 0, (0, 0, 0), 0, 0), (.getfield 38, (3, 5, 211), 0, 0), (.iload_n 1, (0, 0, 0), 0, 0)] (by decide +kernel) rfl ?_
        refine xm_aald (pc := 36) (by decide +kernel) ?_ ?_ ?_
        · refine xm_Vv (pc := 37) (mz := md_X2_takeFrom_19_24) (idx := 207) (p1 := 545) (a := 19) (as := [.ref 24]) (st := []) (ev_X2_takeFrom_19_24 u) mw_X2_takeFrom (by decide +kernel) (by decide +kernel) (by decide) rfl rfl (by decide) rfl (Nat.le_of_ble_eq_true rfl) (fun r37 => ?_)
          refine xm_blk0 (pc' := 47) (lv' := [(0, .ref 0), (1, .int a1)]) (st' := [.int (r37.1 19 2)]) (u' := (xU r37)) [(.aload_n 0, (0, 0, 0), 0, 0), (.getfield 34, (3, 4, 210), 0, 0), (.getfield 176, (2, 2, 183), 0, 0)] (by decide +kernel) rfl ?_
          exact xm_iret (pc := 47) (by decide +kernel) rfl rfl
        · refine xm_Vv (pc := 37) (mz := md_X2_takeFrom_19_28) (idx := 207) (p1 := 545) (a := 19) (as := [.ref 28]) (st := []) (ev_X2_takeFrom_19_28 u) mw_X2_takeFrom (by decide +kernel) (by decide +kernel) (by decide) rfl rfl (by decide) rfl (Nat.le_of_ble_eq_true rfl) (fun r37 => ?_)
          refine xm_blk0 (pc' := 47) (lv' := [(0, .ref 0), (1, .int a1)]) (st' := [.int (r37.1 19 2)]) (u' := (xU r37)) [(.aload_n 0, (0, 0, 0), 0, 0), (.getfield 34, (3, 4, 210), 0, 0), (.getfield 176, (2, 2, 183), 0, 0)] (by decide +kernel) rfl ?_
          exact xm_iret (pc := 47) (by decide +kernel) rfl rfl
        · refine xm_Vv (pc := 37) (mz := md_X2_takeFrom_19_32) (idx := 207) (p1 := 545) (a := 19) (as := [.ref 32]) (st := []) (ev_X2_takeFrom_19_32 u) mw_X2_takeFrom (by decide +kernel) (by decide +kernel) (by decide) rfl rfl (by decide) rfl (Nat.le_of_ble_eq_true rfl) (fun r37 => ?_)
          refine xm_blk0 (pc' := 47) (lv' := [(0, .ref 0), (1, .int a1)]) (st' := [.int (r37.1 19 2)]) (u' := (xU r37)) [(.aload_n 0, (0, 0, 0), 0, 0), (.getfield 34, (3, 4, 210), 0, 0), (.getfield 176, (2, 2, 183), 0, 0)] (by decide +kernel) rfl ?_
          exact xm_iret (pc := 47) (by decide +kernel) rfl rfl
      · refine xm_blk0 (pc' := 23) (lv' := [(0, .ref 0), (1, .int a1)]) (st' := [.int (1 : Int32), .ref 0]) (u' := (xU u)) [(.aload_n 0, (0, 0, 0), 0, 0), (.iconst 1, (0, 0, 0), 1, 0)] (by decide +kernel) rfl ?_
        refine xm_Vm (pc := 23) (mz := md_X3_refuse) (idx := 89) (p1 := 258) (a := 0) (as := [.int (1 : Int32)]) (st := []) (ev_X3_refuse (1 : Int32) u) mw_X3_refuse (by decide +kernel) (by decide +kernel) (by decide) rfl rfl (by decide) rfl (Nat.le_of_ble_eq_true rfl) (fun r23 => ?_)
        exact xm_iret (pc := 26) (by decide +kernel) rfl rfl
    · refine xm_blk0 (pc' := 18) (lv' := [(0, .ref 0), (1, .int a1)]) (st' := [.int (u.1 28 0)]) (u' := (xU u)) [(.getfield 116, (2, 0, 179), 0, 0)] (by decide +kernel) rfl ?_
      refine xm_if_ne (pc := 18) (off := 9) (tgt := 27) (by decide +kernel) (by decide) ?_ ?_
      · refine xm_blk0 (pc' := 36) (lv' := [(0, .ref 0), (1, .int a1)]) (st' := [.int a1, .ref 23, .ref 19]) (u' := (xU u)) [(.aload_n 0, (0, 0, 0), 0, 0), (.getfield 34, (3, 4, 210), 0, 0), (.aload_n 0, (0, 0, 0), 0, 0), (.getfield 38, (3, 5, 211), 0, 0), (.iload_n 1, (0, 0, 0), 0, 0)] (by decide +kernel) rfl ?_
        refine xm_aald (pc := 36) (by decide +kernel) ?_ ?_ ?_
        · refine xm_Vv (pc := 37) (mz := md_X2_takeFrom_19_24) (idx := 207) (p1 := 545) (a := 19) (as := [.ref 24]) (st := []) (ev_X2_takeFrom_19_24 u) mw_X2_takeFrom (by decide +kernel) (by decide +kernel) (by decide) rfl rfl (by decide) rfl (Nat.le_of_ble_eq_true rfl) (fun r37 => ?_)
          refine xm_blk0 (pc' := 47) (lv' := [(0, .ref 0), (1, .int a1)]) (st' := [.int (r37.1 19 2)]) (u' := (xU r37)) [(.aload_n 0, (0, 0, 0), 0, 0), (.getfield 34, (3, 4, 210), 0, 0), (.getfield 176, (2, 2, 183), 0, 0)] (by decide +kernel) rfl ?_
          exact xm_iret (pc := 47) (by decide +kernel) rfl rfl
        · refine xm_Vv (pc := 37) (mz := md_X2_takeFrom_19_28) (idx := 207) (p1 := 545) (a := 19) (as := [.ref 28]) (st := []) (ev_X2_takeFrom_19_28 u) mw_X2_takeFrom (by decide +kernel) (by decide +kernel) (by decide) rfl rfl (by decide) rfl (Nat.le_of_ble_eq_true rfl) (fun r37 => ?_)
          refine xm_blk0 (pc' := 47) (lv' := [(0, .ref 0), (1, .int a1)]) (st' := [.int (r37.1 19 2)]) (u' := (xU r37)) [(.aload_n 0, (0, 0, 0), 0, 0), (.getfield 34, (3, 4, 210), 0, 0), (.getfield 176, (2, 2, 183), 0, 0)] (by decide +kernel) rfl ?_
          exact xm_iret (pc := 47) (by decide +kernel) rfl rfl
        · refine xm_Vv (pc := 37) (mz := md_X2_takeFrom_19_32) (idx := 207) (p1 := 545) (a := 19) (as := [.ref 32]) (st := []) (ev_X2_takeFrom_19_32 u) mw_X2_takeFrom (by decide +kernel) (by decide +kernel) (by decide) rfl rfl (by decide) rfl (Nat.le_of_ble_eq_true rfl) (fun r37 => ?_)
          refine xm_blk0 (pc' := 47) (lv' := [(0, .ref 0), (1, .int a1)]) (st' := [.int (r37.1 19 2)]) (u' := (xU r37)) [(.aload_n 0, (0, 0, 0), 0, 0), (.getfield 34, (3, 4, 210), 0, 0), (.getfield 176, (2, 2, 183), 0, 0)] (by decide +kernel) rfl ?_
          exact xm_iret (pc := 47) (by decide +kernel) rfl rfl
      · refine xm_blk0 (pc' := 23) (lv' := [(0, .ref 0), (1, .int a1)]) (st' := [.int (1 : Int32), .ref 0]) (u' := (xU u)) [(.aload_n 0, (0, 0, 0), 0, 0), (.iconst 1, (0, 0, 0), 1, 0)] (by decide +kernel) rfl ?_
        refine xm_Vm (pc := 23) (mz := md_X3_refuse) (idx := 89) (p1 := 258) (a := 0) (as := [.int (1 : Int32)]) (st := []) (ev_X3_refuse (1 : Int32) u) mw_X3_refuse (by decide +kernel) (by decide +kernel) (by decide) rfl rfl (by decide) rfl (Nat.le_of_ble_eq_true rfl) (fun r23 => ?_)
        exact xm_iret (pc := 26) (by decide +kernel) rfl rfl
    · refine xm_blk0 (pc' := 18) (lv' := [(0, .ref 0), (1, .int a1)]) (st' := [.int (u.1 32 0)]) (u' := (xU u)) [(.getfield 116, (2, 0, 179), 0, 0)] (by decide +kernel) rfl ?_
      refine xm_if_ne (pc := 18) (off := 9) (tgt := 27) (by decide +kernel) (by decide) ?_ ?_
      · refine xm_blk0 (pc' := 36) (lv' := [(0, .ref 0), (1, .int a1)]) (st' := [.int a1, .ref 23, .ref 19]) (u' := (xU u)) [(.aload_n 0, (0, 0, 0), 0, 0), (.getfield 34, (3, 4, 210), 0, 0), (.aload_n 0, (0, 0, 0), 0, 0), (.getfield 38, (3, 5, 211), 0, 0), (.iload_n 1, (0, 0, 0), 0, 0)] (by decide +kernel) rfl ?_
        refine xm_aald (pc := 36) (by decide +kernel) ?_ ?_ ?_
        · refine xm_Vv (pc := 37) (mz := md_X2_takeFrom_19_24) (idx := 207) (p1 := 545) (a := 19) (as := [.ref 24]) (st := []) (ev_X2_takeFrom_19_24 u) mw_X2_takeFrom (by decide +kernel) (by decide +kernel) (by decide) rfl rfl (by decide) rfl (Nat.le_of_ble_eq_true rfl) (fun r37 => ?_)
          refine xm_blk0 (pc' := 47) (lv' := [(0, .ref 0), (1, .int a1)]) (st' := [.int (r37.1 19 2)]) (u' := (xU r37)) [(.aload_n 0, (0, 0, 0), 0, 0), (.getfield 34, (3, 4, 210), 0, 0), (.getfield 176, (2, 2, 183), 0, 0)] (by decide +kernel) rfl ?_
          exact xm_iret (pc := 47) (by decide +kernel) rfl rfl
        · refine xm_Vv (pc := 37) (mz := md_X2_takeFrom_19_28) (idx := 207) (p1 := 545) (a := 19) (as := [.ref 28]) (st := []) (ev_X2_takeFrom_19_28 u) mw_X2_takeFrom (by decide +kernel) (by decide +kernel) (by decide) rfl rfl (by decide) rfl (Nat.le_of_ble_eq_true rfl) (fun r37 => ?_)
          refine xm_blk0 (pc' := 47) (lv' := [(0, .ref 0), (1, .int a1)]) (st' := [.int (r37.1 19 2)]) (u' := (xU r37)) [(.aload_n 0, (0, 0, 0), 0, 0), (.getfield 34, (3, 4, 210), 0, 0), (.getfield 176, (2, 2, 183), 0, 0)] (by decide +kernel) rfl ?_
          exact xm_iret (pc := 47) (by decide +kernel) rfl rfl
        · refine xm_Vv (pc := 37) (mz := md_X2_takeFrom_19_32) (idx := 207) (p1 := 545) (a := 19) (as := [.ref 32]) (st := []) (ev_X2_takeFrom_19_32 u) mw_X2_takeFrom (by decide +kernel) (by decide +kernel) (by decide) rfl rfl (by decide) rfl (Nat.le_of_ble_eq_true rfl) (fun r37 => ?_)
          refine xm_blk0 (pc' := 47) (lv' := [(0, .ref 0), (1, .int a1)]) (st' := [.int (r37.1 19 2)]) (u' := (xU r37)) [(.aload_n 0, (0, 0, 0), 0, 0), (.getfield 34, (3, 4, 210), 0, 0), (.getfield 176, (2, 2, 183), 0, 0)] (by decide +kernel) rfl ?_
          exact xm_iret (pc := 47) (by decide +kernel) rfl rfl
      · refine xm_blk0 (pc' := 23) (lv' := [(0, .ref 0), (1, .int a1)]) (st' := [.int (1 : Int32), .ref 0]) (u' := (xU u)) [(.aload_n 0, (0, 0, 0), 0, 0), (.iconst 1, (0, 0, 0), 1, 0)] (by decide +kernel) rfl ?_
        refine xm_Vm (pc := 23) (mz := md_X3_refuse) (idx := 89) (p1 := 258) (a := 0) (as := [.int (1 : Int32)]) (st := []) (ev_X3_refuse (1 : Int32) u) mw_X3_refuse (by decide +kernel) (by decide +kernel) (by decide) rfl rfl (by decide) rfl (Nat.le_of_ble_eq_true rfl) (fun r23 => ?_)
        exact xm_iret (pc := 26) (by decide +kernel) rfl rfl
  · refine xm_blk0 (pc' := 8) (lv' := [(0, .ref 0), (1, .int a1)]) (st' := [.int (-1 : Int32)]) (u' := (xU u)) [(.iconst (-1), (0, 0, 0), -1, 0)] (by decide +kernel) rfl ?_
    exact xm_iret (pc := 8) (by decide +kernel) rfl rfl
theorem ev_X3_on (a1 : Int32) (u : xN) : ∀ r, f_X3_on a1 u = some r → xEm md_X3_on yX3_on [.ref 0, .int a1] (xU u) (some (.int r.1), xU r.2) := xm_met (res := rsM) (as := [.ref 0, .int a1]) (go_X3_on a1 u) (by decide) rfl (Nat.le_of_ble_eq_true rfl)
theorem mw_X0_isWay : xMv yX0_isWay cX0_isWay 2 (some .boolean) 1 := xMv_of (p1 := 561) (p2 := 559) (p3 := 95) (p4 := 560) (by decide +kernel)
/-! NeitherBare$Court.isWay(I)Z (7, None) -/
abbrev md_X0_isWay_7 : xMd := (cX0_isWay, RX0, 2, some .boolean, 2)
def f_X0_isWay_7_L17 (u : xN) (t0 : Int32) : Option Int32 := gdl [isb t0] (some t0)
set_option maxRecDepth 20000 in
theorem go_X0_isWay_7_L17 (u : xN) (t0 : Int32) : xGm md_X0_isWay_7 (rsI (xU u)) (f_X0_isWay_7_L17 u t0) 17 [] [.int t0] (xU u) := by
  unfold f_X0_isWay_7_L17
  exact xm_zret (pc := 17) (by decide +kernel) rfl rfl
def f_X0_isWay_7_L16 (u : xN) : Option Int32 := f_X0_isWay_7_L17 u (0 : Int32)
set_option maxRecDepth 20000 in
theorem go_X0_isWay_7_L16 (u : xN) : xGm md_X0_isWay_7 (rsI (xU u)) (f_X0_isWay_7_L16 u) 16 [] [] (xU u) := by
  unfold f_X0_isWay_7_L16
  refine xm_blk0 (pc' := 17) (lv' := []) (st' := [.int (0 : Int32)]) (u' := (xU u)) [(.iconst 0, (0, 0, 0), 0, 0)] (by decide +kernel) rfl ?_
  exact go_X0_isWay_7_L17 u (0 : Int32)
def f_X0_isWay_7 (a1 : Int32) (u : xN) : Option Int32 := if a1 < (0 : Int32) then f_X0_isWay_7_L16 u else Option.bind (f_X0_ways_7 u) (fun r6 => if r6 ≤ a1 then f_X0_isWay_7_L16 u else f_X0_isWay_7_L17 u (1 : Int32))
set_option maxRecDepth 20000 in
theorem go_X0_isWay_7 (a1 : Int32) (u : xN) : xGm md_X0_isWay_7 (rsI (xU u)) (f_X0_isWay_7 a1 u) 0 [(0, .ref 7), (1, .int a1)] [] (xU u) := by
  unfold f_X0_isWay_7
  refine xm_blk0 (pc' := 1) (lv' := [(0, .ref 7), (1, .int a1)]) (st' := [.int a1]) (u' := (xU u)) [(.iload_n 1, (0, 0, 0), 0, 0)] (by decide +kernel) rfl ?_
  refine xm_if_lt (pc := 1) (off := 15) (tgt := 16) (by decide +kernel) (by decide) ?_ ?_
  · refine xm_wk [] (lv' := []) rfl ?_
    exact go_X0_isWay_7_L16 u
  · refine xm_blk0 (pc' := 6) (lv' := [(0, .ref 7), (1, .int a1)]) (st' := [.ref 7, .int a1]) (u' := (xU u)) [(.iload_n 1, (0, 0, 0), 0, 0), (.aload_n 0, (0, 0, 0), 0, 0)] (by decide +kernel) rfl ?_
    refine xm_Vi (pc := 6) (mz := md_X0_ways_7) (idx := 77) (p1 := 391) (a := 7) (as := []) (st := [.int a1]) (ev_X0_ways_7 u) mw_X0_ways (by decide +kernel) (by decide +kernel) (by decide) rfl rfl (by decide) rfl (Nat.le_of_ble_eq_true rfl) (fun r6 => ?_)
    refine xm_icmp_ge (pc := 9) (off := 7) (tgt := 16) (by decide +kernel) (by decide) ?_ ?_
    · refine xm_wk [] (lv' := []) rfl ?_
      exact go_X0_isWay_7_L16 u
    · refine xm_blk0 (pc' := 13) (lv' := [(0, .ref 7), (1, .int a1)]) (st' := [.int (1 : Int32)]) (u' := (xU u)) [(.iconst 1, (0, 0, 0), 1, 0)] (by decide +kernel) rfl ?_
      refine xm_goto (pc := 13) (off := 4) (tgt := 17) (by decide +kernel) (by decide) ?_
      refine xm_wk [] (lv' := []) rfl ?_
      exact go_X0_isWay_7_L17 u (1 : Int32)
theorem ev_X0_isWay_7 (a1 : Int32) (u : xN) : ∀ r, f_X0_isWay_7 a1 u = some r → xEm md_X0_isWay_7 yX0_isWay [.ref 7, .int a1] (xU u) (some (.int r), (xU u)) := xm_met (res := (rsI (xU u))) (as := [.ref 7, .int a1]) (go_X0_isWay_7 a1 u) (by decide) rfl (Nat.le_of_ble_eq_true rfl)
theorem mw_X3_value : xMv yX3_value cX3_value 3 (some .int) 2 := xMv_of (p1 := 557) (p2 := 555) (p3 := 92) (p4 := 556) (by decide +kernel)
/-! NeitherBare.value(II)I (0, None, None) -/
abbrev md_X3_value : xMd := (cX3_value, RX3, 3, some .int, 3)
def f_X3_value_L18 (u : xN) : Option Int32 := some (-1 : Int32)
set_option maxRecDepth 20000 in
theorem go_X3_value_L18 (u : xN) : xGm md_X3_value (rsI (xU u)) (f_X3_value_L18 u) 18 [] [] (xU u) := by
  unfold f_X3_value_L18
  refine xm_blk0 (pc' := 19) (lv' := []) (st' := [.int (-1 : Int32)]) (u' := (xU u)) [(.iconst (-1), (0, 0, 0), -1, 0)] (by decide +kernel) rfl ?_
  exact xm_iret (pc := 19) (by decide +kernel) rfl rfl
def f_X3_value (a1 : Int32) (a2 : Int32) (u : xN) : Option Int32 := Option.bind (f_X0_isWay_7 a1 u) (fun r5 => if r5 = (0 : Int32) then f_X3_value_L18 u else Option.bind (f_X3_isTrait a2) (fun r12 => if r12 = (0 : Int32) then f_X3_value_L18 u else Option.bind (f_X0_valueOf_7 a1 a2 u) (fun r26 => some r26)))
set_option maxRecDepth 20000 in
theorem go_X3_value (a1 : Int32) (a2 : Int32) (u : xN) : xGm md_X3_value (rsI (xU u)) (f_X3_value a1 a2 u) 0 [(0, .ref 0), (1, .int a1), (2, .int a2)] [] (xU u) := by
  unfold f_X3_value
  refine xm_blk0 (pc' := 5) (lv' := [(0, .ref 0), (1, .int a1), (2, .int a2)]) (st' := [.int a1, .ref 7]) (u' := (xU u)) [(.aload_n 0, (0, 0, 0), 0, 0), (.getfield 24, (3, 2, 208), 0, 0), (.iload_n 1, (0, 0, 0), 0, 0)] (by decide +kernel) rfl ?_
  refine xm_Vi (pc := 5) (mz := md_X0_isWay_7) (idx := 211) (p1 := 558) (a := 7) (as := [.int a1]) (st := []) (ev_X0_isWay_7 a1 u) mw_X0_isWay (by decide +kernel) (by decide +kernel) (by decide) rfl rfl (by decide) rfl (Nat.le_of_ble_eq_true rfl) (fun r5 => ?_)
  refine xm_if_eq (pc := 8) (off := 10) (tgt := 18) (by decide +kernel) (by decide) ?_ ?_
  · refine xm_wk [] (lv' := []) rfl ?_
    exact go_X3_value_L18 u
  · refine xm_blk0 (pc' := 12) (lv' := [(0, .ref 0), (1, .int a1), (2, .int a2)]) (st' := [.int a2]) (u' := (xU u)) [(.iload_n 2, (0, 0, 0), 0, 0)] (by decide +kernel) rfl ?_
    refine xm_Si (pc := 12) (mz := md_X3_isTrait) (idx := 164) (p1 := 488) (as := [.int a2]) (st := []) (ev_X3_isTrait a2 u) mw_X3_isTrait (by decide +kernel) (by decide +kernel) (by decide) rfl (Nat.le_of_ble_eq_true rfl) (fun r12 => ?_)
    refine xm_if_ne (pc := 15) (off := 5) (tgt := 20) (by decide +kernel) (by decide) ?_ ?_
    · refine xm_blk0 (pc' := 26) (lv' := [(0, .ref 0), (1, .int a1), (2, .int a2)]) (st' := [.int a2, .int a1, .ref 7]) (u' := (xU u)) [(.aload_n 0, (0, 0, 0), 0, 0), (.getfield 24, (3, 2, 208), 0, 0), (.iload_n 1, (0, 0, 0), 0, 0), (.iload_n 2, (0, 0, 0), 0, 0)] (by decide +kernel) rfl ?_
      refine xm_Vi (pc := 26) (mz := md_X0_valueOf_7) (idx := 214) (p1 := 475) (a := 7) (as := [.int a1, .int a2]) (st := []) (ev_X0_valueOf_7 a1 a2 u) mw_X0_valueOf (by decide +kernel) (by decide +kernel) (by decide) rfl rfl (by decide) rfl (Nat.le_of_ble_eq_true rfl) (fun r26 => ?_)
      exact xm_iret (pc := 29) (by decide +kernel) rfl rfl
    · refine xm_wk [] (lv' := []) rfl ?_
      exact go_X3_value_L18 u
theorem ev_X3_value (a1 : Int32) (a2 : Int32) (u : xN) : ∀ r, f_X3_value a1 a2 u = some r → xEm md_X3_value yX3_value [.ref 0, .int a1, .int a2] (xU u) (some (.int r), (xU u)) := xm_met (res := (rsI (xU u))) (as := [.ref 0, .int a1, .int a2]) (go_X3_value a1 a2 u) (by decide) rfl (Nat.le_of_ble_eq_true rfl)
theorem mw_X3_cost : xMv yX3_cost cX3_cost 2 (some .int) 1 := xMv_of (p1 := 565) (p2 := 563) (p3 := 92) (p4 := 564) (by decide +kernel)
/-! NeitherBare.cost(I)I (0, None) -/
abbrev md_X3_cost : xMd := (cX3_cost, RX3, 2, some .int, 3)
def f_X3_cost (a1 : Int32) (u : xN) : Option Int32 := Option.bind (f_X0_isWay_7 a1 u) (fun r5 => if r5 = (0 : Int32) then some (-1 : Int32) else Option.bind (f_X0_sumOf_7 a1 (4 : Int32) u) (fun r19 => some r19))
set_option maxRecDepth 20000 in
theorem go_X3_cost (a1 : Int32) (u : xN) : xGm md_X3_cost (rsI (xU u)) (f_X3_cost a1 u) 0 [(0, .ref 0), (1, .int a1)] [] (xU u) := by
  unfold f_X3_cost
  refine xm_blk0 (pc' := 5) (lv' := [(0, .ref 0), (1, .int a1)]) (st' := [.int a1, .ref 7]) (u' := (xU u)) [(.aload_n 0, (0, 0, 0), 0, 0), (.getfield 24, (3, 2, 208), 0, 0), (.iload_n 1, (0, 0, 0), 0, 0)] (by decide +kernel) rfl ?_
  refine xm_Vi (pc := 5) (mz := md_X0_isWay_7) (idx := 211) (p1 := 558) (a := 7) (as := [.int a1]) (st := []) (ev_X0_isWay_7 a1 u) mw_X0_isWay (by decide +kernel) (by decide +kernel) (by decide) rfl rfl (by decide) rfl (Nat.le_of_ble_eq_true rfl) (fun r5 => ?_)
  refine xm_if_ne (pc := 8) (off := 5) (tgt := 13) (by decide +kernel) (by decide) ?_ ?_
  · refine xm_blk0 (pc' := 19) (lv' := [(0, .ref 0), (1, .int a1)]) (st' := [.int (4 : Int32), .int a1, .ref 7]) (u' := (xU u)) [(.aload_n 0, (0, 0, 0), 0, 0), (.getfield 24, (3, 2, 208), 0, 0), (.iload_n 1, (0, 0, 0), 0, 0), (.iconst 4, (0, 0, 0), 4, 0)] (by decide +kernel) rfl ?_
    refine xm_Vi (pc := 19) (mz := md_X0_sumOf_7) (idx := 217) (p1 := 566) (a := 7) (as := [.int a1, .int (4 : Int32)]) (st := []) (ev_X0_sumOf_7 a1 (4 : Int32) u) mw_X0_sumOf (by decide +kernel) (by decide +kernel) (by decide) rfl rfl (by decide) rfl (Nat.le_of_ble_eq_true rfl) (fun r19 => ?_)
    exact xm_iret (pc := 22) (by decide +kernel) rfl rfl
  · refine xm_blk0 (pc' := 12) (lv' := [(0, .ref 0), (1, .int a1)]) (st' := [.int (-1 : Int32)]) (u' := (xU u)) [(.iconst (-1), (0, 0, 0), -1, 0)] (by decide +kernel) rfl ?_
    exact xm_iret (pc := 12) (by decide +kernel) rfl rfl
theorem ev_X3_cost (a1 : Int32) (u : xN) : ∀ r, f_X3_cost a1 u = some r → xEm md_X3_cost yX3_cost [.ref 0, .int a1] (xU u) (some (.int r), (xU u)) := xm_met (res := (rsI (xU u))) (as := [.ref 0, .int a1]) (go_X3_cost a1 u) (by decide) rfl (Nat.le_of_ble_eq_true rfl)
theorem mw_X0_heldBy : xMv yX0_heldBy cX0_heldBy 5 (some .int) 2 := xMv_of (p1 := 574) (p2 := 572) (p3 := 95) (p4 := 573) (by decide +kernel)
/-! NeitherBare$Court.heldBy(I[I)I (7, None, 20) -/
abbrev md_X0_heldBy_7_20 : xMd := (cX0_heldBy, RX0, 5, some .int, 5)
def f_X0_heldBy_7_20_L39 (N : Nat) (u : xN) (rec5 : Int32 → Int32 → Int32 → Option Int32) (v1 : Int32) (v3 : Int32) (v4 : Int32) : Option Int32 := rec5 v1 v3 (v4 + (1 : Int32))
set_option maxRecDepth 20000 in
theorem go_X0_heldBy_7_20_L39 (N : Nat) (u : xN) (rec5 : Int32 → Int32 → Int32 → Option Int32) (h5 : ∀ (v1 : Int32) (v3 : Int32) (v4 : Int32), xGm md_X0_heldBy_7_20 (rsI (xU u)) (rec5 v1 v3 v4) 5 [(0, .ref 7), (1, .int v1), (2, .ref 20), (3, .int v3), (4, .int v4)] [] (xU u)) (v1 : Int32) (v3 : Int32) (v4 : Int32) : xGm md_X0_heldBy_7_20 (rsI (xU u)) (f_X0_heldBy_7_20_L39 N u rec5 v1 v3 v4) 39 [(0, .ref 7), (1, .int v1), (2, .ref 20), (3, .int v3), (4, .int v4)] [] (xU u) := by
  unfold f_X0_heldBy_7_20_L39
  refine xm_blk0 (pc' := 42) (lv' := [(0, .ref 7), (1, .int v1), (2, .ref 20), (3, .int v3), (4, .int (v4 + (1 : Int32)))]) (st' := []) (u' := (xU u)) [(.iinc 4 1, (0, 0, 0), 1, 0)] (by decide +kernel) rfl ?_
  refine xm_goto (pc := 42) (off := -37) (tgt := 5) (by decide +kernel) (by decide) ?_
  exact h5 v1 v3 (v4 + (1 : Int32))
def f_X0_heldBy_7_20_L5b (N : Nat) (u : xN) (rec5 : Int32 → Int32 → Int32 → Option Int32) (v1 : Int32) (v3 : Int32) (v4 : Int32) : Option Int32 := if (u.1 7 1) ≤ v4 then some v3 else gdl [inb v4 8] (Option.bind (f_X0_isHeldAs_7_20 (u.1 10 (Int32.toNatClampNeg v4)) v4 v1 u) (fun r26 => if r26 = (0 : Int32) then f_X0_heldBy_7_20_L39 N u rec5 v1 v3 v4 else f_X0_heldBy_7_20_L39 N u rec5 v1 (v3 ||| ((1 : Int32) <<< (v4 &&& 31))) v4))
set_option maxRecDepth 20000 in
theorem go_X0_heldBy_7_20_L5b (N : Nat) (u : xN) (rec5 : Int32 → Int32 → Int32 → Option Int32) (h5 : ∀ (v1 : Int32) (v3 : Int32) (v4 : Int32), xGm md_X0_heldBy_7_20 (rsI (xU u)) (rec5 v1 v3 v4) 5 [(0, .ref 7), (1, .int v1), (2, .ref 20), (3, .int v3), (4, .int v4)] [] (xU u)) (v1 : Int32) (v3 : Int32) (v4 : Int32) : xGm md_X0_heldBy_7_20 (rsI (xU u)) (f_X0_heldBy_7_20_L5b N u rec5 v1 v3 v4) 5 [(0, .ref 7), (1, .int v1), (2, .ref 20), (3, .int v3), (4, .int v4)] [] (xU u) := by
  unfold f_X0_heldBy_7_20_L5b
  refine xm_blk0 (pc' := 11) (lv' := [(0, .ref 7), (1, .int v1), (2, .ref 20), (3, .int v3), (4, .int v4)]) (st' := [.int (u.1 7 1), .int v4]) (u' := (xU u)) [(.iload 4, (0, 0, 0), 0, 0), (.aload_n 0, (0, 0, 0), 0, 0), (.getfield 31, (0, 1, 144), 0, 0)] (by decide +kernel) rfl ?_
  refine xm_icmp_ge (pc := 11) (off := 34) (tgt := 45) (by decide +kernel) (by decide) ?_ ?_
  · refine xm_blk0 (pc' := 46) (lv' := [(0, .ref 7), (1, .int v1), (2, .ref 20), (3, .int v3), (4, .int v4)]) (st' := [.int v3]) (u' := (xU u)) [(.iload_n 3, (0, 0, 0), 0, 0)] (by decide +kernel) rfl ?_
    exact xm_iret (pc := 46) (by decide +kernel) rfl rfl
  · refine xm_blk (bs := [inb v4 8]) (pc' := 26) (lv' := [(0, .ref 7), (1, .int v1), (2, .ref 20), (3, .int v3), (4, .int v4)]) (st' := [.ref 20, .int v1, .int v4, .int (u.1 10 (Int32.toNatClampNeg v4)), .ref 7]) (u' := (xU u)) [(.aload_n 0, (0, 0, 0), 0, 0), (.aload_n 0, (0, 0, 0), 0, 0), (.getfield 18, (0, 5, 150), 0, 0), (.iload 4, (0, 0, 0), 0, 0), (.iaload, (0, 0, 0), 0, 0), (.iload 4, (0, 0, 0), 0, 0), (.iload_n 1, (0, 0, 0), 0, 0), (.aload_n 2, (0, 0, 0), 0, 0)] (by decide +kernel) rfl ?_
    refine xm_Vi (pc := 26) (mz := md_X0_isHeldAs_7_20) (idx := 94) (p1 := 575) (a := 7) (as := [.int (u.1 10 (Int32.toNatClampNeg v4)), .int v4, .int v1, .ref 20]) (st := []) (ev_X0_isHeldAs_7_20 (u.1 10 (Int32.toNatClampNeg v4)) v4 v1 u) mw_X0_isHeldAs (by decide +kernel) (by decide +kernel) (by decide) rfl rfl (by decide) rfl (Nat.le_of_ble_eq_true rfl) (fun r26 => ?_)
    refine xm_if_eq (pc := 29) (off := 10) (tgt := 39) (by decide +kernel) (by decide) ?_ ?_
    · exact go_X0_heldBy_7_20_L39 N u rec5 h5 v1 v3 v4
    · refine xm_blk0 (pc' := 39) (lv' := [(0, .ref 7), (1, .int v1), (2, .ref 20), (3, .int (v3 ||| ((1 : Int32) <<< (v4 &&& 31)))), (4, .int v4)]) (st' := []) (u' := (xU u)) [(.iload_n 3, (0, 0, 0), 0, 0), (.iconst 1, (0, 0, 0), 1, 0), (.iload 4, (0, 0, 0), 0, 0), (.ishl, (0, 0, 0), 0, 0), (.ior, (0, 0, 0), 0, 0), (.istore_n 3, (0, 0, 0), 0, 0)] (by decide +kernel) rfl ?_
      exact go_X0_heldBy_7_20_L39 N u rec5 h5 v1 (v3 ||| ((1 : Int32) <<< (v4 &&& 31))) v4
def f_X0_heldBy_7_20_L5 (N : Nat) (u : xN) : Nat → Int32 → Int32 → Int32 → Option Int32
  | 0 => fun _ _ _ => none
  | n + 1 => fun v1 v3 v4 => f_X0_heldBy_7_20_L5b N u (f_X0_heldBy_7_20_L5 N u n) v1 v3 v4
theorem go_X0_heldBy_7_20_L5 (N : Nat) (u : xN) : ∀ (n : Nat) (v1 : Int32) (v3 : Int32) (v4 : Int32), xGm md_X0_heldBy_7_20 (rsI (xU u)) (f_X0_heldBy_7_20_L5 N u n v1 v3 v4) 5 [(0, .ref 7), (1, .int v1), (2, .ref 20), (3, .int v3), (4, .int v4)] [] (xU u) := by
  intro n
  induction n with
  | zero => intro v1 v3 v4; exact xm_none
  | succ n ih => intro v1 v3 v4; exact go_X0_heldBy_7_20_L5b N u _ ih v1 v3 v4
def f_X0_heldBy_7_20 (N : Nat) (a1 : Int32) (u : xN) : Option Int32 := f_X0_heldBy_7_20_L5 N u N a1 (0 : Int32) (0 : Int32)
set_option maxRecDepth 20000 in
theorem go_X0_heldBy_7_20 (N : Nat) (a1 : Int32) (u : xN) : xGm md_X0_heldBy_7_20 (rsI (xU u)) (f_X0_heldBy_7_20 N a1 u) 0 [(0, .ref 7), (1, .int a1), (2, .ref 20)] [] (xU u) := by
  unfold f_X0_heldBy_7_20
  refine xm_blk0 (pc' := 5) (lv' := [(0, .ref 7), (1, .int a1), (2, .ref 20), (3, .int (0 : Int32)), (4, .int (0 : Int32))]) (st' := []) (u' := (xU u)) [(.iconst 0, (0, 0, 0), 0, 0), (.istore_n 3, (0, 0, 0), 0, 0), (.iconst 0, (0, 0, 0), 0, 0), (.istore 4, (0, 0, 0), 0, 0)] (by decide +kernel) rfl ?_
  exact go_X0_heldBy_7_20_L5 N u N a1 (0 : Int32) (0 : Int32)
theorem ev_X0_heldBy_7_20 (N : Nat) (a1 : Int32) (u : xN) : ∀ r, f_X0_heldBy_7_20 N a1 u = some r → xEm md_X0_heldBy_7_20 yX0_heldBy [.ref 7, .int a1, .ref 20] (xU u) (some (.int r), (xU u)) := xm_met (res := (rsI (xU u))) (as := [.ref 7, .int a1, .ref 20]) (go_X0_heldBy_7_20 N a1 u) (by decide) rfl (Nat.le_of_ble_eq_true rfl)
theorem mw_X3_isMet : xMs yX3_isMet cX3_isMet 2 (some .boolean) 2 := xMs_of (p1 := 578) (p2 := 577) (p3 := 92) (by decide +kernel)
/-! NeitherBare.isMet(II)Z  -/
abbrev md_X3_isMet : xMd := (cX3_isMet, RX3, 2, some .boolean, 1)
def f_X3_isMet_L12 (t0 : Int32) : Option Int32 := gdl [isb t0] (some t0)
set_option maxRecDepth 20000 in
theorem go_X3_isMet_L12 (u : xN) (t0 : Int32) : xGm md_X3_isMet (rsI (xU u)) (f_X3_isMet_L12 t0) 12 [] [.int t0] (xU u) := by
  unfold f_X3_isMet_L12
  exact xm_zret (pc := 12) (by decide +kernel) rfl rfl
def f_X3_isMet (a0 : Int32) (a1 : Int32) : Option Int32 := if (a0 &&& a1) = a1 then f_X3_isMet_L12 (1 : Int32) else f_X3_isMet_L12 (0 : Int32)
set_option maxRecDepth 20000 in
theorem go_X3_isMet (a0 : Int32) (a1 : Int32) (u : xN) : xGm md_X3_isMet (rsI (xU u)) (f_X3_isMet a0 a1) 0 [(0, .int a0), (1, .int a1)] [] (xU u) := by
  unfold f_X3_isMet
  refine xm_blk0 (pc' := 4) (lv' := [(0, .int a0), (1, .int a1)]) (st' := [.int a1, .int (a0 &&& a1)]) (u' := (xU u)) [(.iload_n 0, (0, 0, 0), 0, 0), (.iload_n 1, (0, 0, 0), 0, 0), (.iand, (0, 0, 0), 0, 0), (.iload_n 1, (0, 0, 0), 0, 0)] (by decide +kernel) rfl ?_
  refine xm_icmp_ne (pc := 4) (off := 7) (tgt := 11) (by decide +kernel) (by decide) ?_ ?_
  · refine xm_blk0 (pc' := 12) (lv' := [(0, .int a0), (1, .int a1)]) (st' := [.int (0 : Int32)]) (u' := (xU u)) [(.iconst 0, (0, 0, 0), 0, 0)] (by decide +kernel) rfl ?_
    refine xm_wk [] (lv' := []) rfl ?_
    exact go_X3_isMet_L12 u (0 : Int32)
  · refine xm_blk0 (pc' := 8) (lv' := [(0, .int a0), (1, .int a1)]) (st' := [.int (1 : Int32)]) (u' := (xU u)) [(.iconst 1, (0, 0, 0), 1, 0)] (by decide +kernel) rfl ?_
    refine xm_goto (pc := 8) (off := 4) (tgt := 12) (by decide +kernel) (by decide) ?_
    refine xm_wk [] (lv' := []) rfl ?_
    exact go_X3_isMet_L12 u (1 : Int32)
theorem ev_X3_isMet (a0 : Int32) (a1 : Int32) (u : xN) : ∀ r, f_X3_isMet a0 a1 = some r → xEm md_X3_isMet yX3_isMet [.int a0, .int a1] (xU u) (some (.int r), (xU u)) := xm_met (res := (rsI (xU u))) (as := [.int a0, .int a1]) (go_X3_isMet a0 a1 u) (by decide) rfl (Nat.le_of_ble_eq_true rfl)
theorem mw_X3_holds : xMv yX3_holds cX3_holds 3 (some .int) 1 := xMv_of (p1 := 570) (p2 := 568) (p3 := 92) (p4 := 569) (by decide +kernel)
/-! NeitherBare.holds(I)I (0, None) -/
abbrev md_X3_holds : xMd := (cX3_holds, RX3, 3, some .int, 6)
def f_X3_holds_L49 (N : Nat) (v2 : Int32) (t0 : Int32) (u : xN) : Option (Int32 × xN) := some (v2, mI u 0 10 t0)
set_option maxRecDepth 20000 in
theorem go_X3_holds_L49 (N : Nat) (v2 : Int32) (t0 : Int32) (u : xN) : xGm md_X3_holds rsM (f_X3_holds_L49 N v2 t0 u) 49 [(2, .int v2)] [.int t0, .ref 0] (xU u) := by
  unfold f_X3_holds_L49
  refine xm_blk0 (pc' := 53) (lv' := [(2, .int v2)]) (st' := [.int v2]) (u' := (xU (mI u 0 10 t0))) [(.putfield 71, (3, 10, 216), 0, 0), (.iload_n 2, (0, 0, 0), 0, 0)] (by decide +kernel) rfl ?_
  exact xm_iret (pc := 53) (by decide +kernel) rfl rfl
def f_X3_holds (N : Nat) (a1 : Int32) (u : xN) : Option (Int32 × xN) := Option.bind (f_X0_isWay_7 a1 u) (fun r5 => if r5 = (0 : Int32) then some ((-1 : Int32), u) else Option.bind (f_X0_heldBy_7_20 N a1 u) (fun r25 => Option.bind (f_X3_isMet r25 (u.1 19 1)) (fun r38 => if r38 = (0 : Int32) then f_X3_holds_L49 N r25 (0 : Int32) u else f_X3_holds_L49 N r25 (1 : Int32) u)))
set_option maxRecDepth 20000 in
theorem go_X3_holds (N : Nat) (a1 : Int32) (u : xN) : xGm md_X3_holds rsM (f_X3_holds N a1 u) 0 [(0, .ref 0), (1, .int a1)] [] (xU u) := by
  unfold f_X3_holds
  refine xm_blk0 (pc' := 5) (lv' := [(0, .ref 0), (1, .int a1)]) (st' := [.int a1, .ref 7]) (u' := (xU u)) [(.aload_n 0, (0, 0, 0), 0, 0), (.getfield 24, (3, 2, 208), 0, 0), (.iload_n 1, (0, 0, 0), 0, 0)] (by decide +kernel) rfl ?_
  refine xm_Vi (pc := 5) (mz := md_X0_isWay_7) (idx := 211) (p1 := 558) (a := 7) (as := [.int a1]) (st := []) (ev_X0_isWay_7 a1 u) mw_X0_isWay (by decide +kernel) (by decide +kernel) (by decide) rfl rfl (by decide) rfl (Nat.le_of_ble_eq_true rfl) (fun r5 => ?_)
  refine xm_if_ne (pc := 8) (off := 5) (tgt := 13) (by decide +kernel) (by decide) ?_ ?_
  · refine xm_blk0 (pc' := 25) (lv' := [(0, .ref 0), (1, .int a1)]) (st' := [.ref 20, .int a1, .ref 7]) (u' := (xU u)) [(.aload_n 0, (0, 0, 0), 0, 0), (.getfield 24, (3, 2, 208), 0, 0), (.iload_n 1, (0, 0, 0), 0, 0), (.aload_n 0, (0, 0, 0), 0, 0), (.getfield 34, (3, 4, 210), 0, 0), (.getfield 170, (2, 3, 185), 0, 0)] (by decide +kernel) rfl ?_
    refine xm_Vi (pc := 25) (mz := md_X0_heldBy_7_20) (idx := 220) (p1 := 571) (a := 7) (as := [.int a1, .ref 20]) (st := []) (ev_X0_heldBy_7_20 N a1 u) mw_X0_heldBy (by decide +kernel) (by decide +kernel) (by decide) rfl rfl (by decide) rfl (Nat.le_of_ble_eq_true rfl) (fun r25 => ?_)
    refine xm_blk0 (pc' := 38) (lv' := [(0, .ref 0), (1, .int a1), (2, .int r25)]) (st' := [.int (u.1 19 1), .int r25, .ref 0]) (u' := (xU u)) [(.istore_n 2, (0, 0, 0), 0, 0), (.aload_n 0, (0, 0, 0), 0, 0), (.iload_n 2, (0, 0, 0), 0, 0), (.aload_n 0, (0, 0, 0), 0, 0), (.getfield 34, (3, 4, 210), 0, 0), (.getfield 183, (2, 1, 181), 0, 0)] (by decide +kernel) rfl ?_
    refine xm_Si (pc := 38) (mz := md_X3_isMet) (idx := 224) (p1 := 576) (as := [.int r25, .int (u.1 19 1)]) (st := [.ref 0]) (ev_X3_isMet r25 (u.1 19 1) u) mw_X3_isMet (by decide +kernel) (by decide +kernel) (by decide) rfl (Nat.le_of_ble_eq_true rfl) (fun r38 => ?_)
    refine xm_if_eq (pc := 41) (off := 7) (tgt := 48) (by decide +kernel) (by decide) ?_ ?_
    · refine xm_blk0 (pc' := 49) (lv' := [(0, .ref 0), (1, .int a1), (2, .int r25)]) (st' := [.int (0 : Int32), .ref 0]) (u' := (xU u)) [(.iconst 0, (0, 0, 0), 0, 0)] (by decide +kernel) rfl ?_
      refine xm_wk [2] (lv' := [(2, .int r25)]) rfl ?_
      exact go_X3_holds_L49 N r25 (0 : Int32) u
    · refine xm_blk0 (pc' := 45) (lv' := [(0, .ref 0), (1, .int a1), (2, .int r25)]) (st' := [.int (1 : Int32), .ref 0]) (u' := (xU u)) [(.iconst 1, (0, 0, 0), 1, 0)] (by decide +kernel) rfl ?_
      refine xm_goto (pc := 45) (off := 4) (tgt := 49) (by decide +kernel) (by decide) ?_
      refine xm_wk [2] (lv' := [(2, .int r25)]) rfl ?_
      exact go_X3_holds_L49 N r25 (1 : Int32) u
  · refine xm_blk0 (pc' := 12) (lv' := [(0, .ref 0), (1, .int a1)]) (st' := [.int (-1 : Int32)]) (u' := (xU u)) [(.iconst (-1), (0, 0, 0), -1, 0)] (by decide +kernel) rfl ?_
    exact xm_iret (pc := 12) (by decide +kernel) rfl rfl
theorem ev_X3_holds (N : Nat) (a1 : Int32) (u : xN) : ∀ r, f_X3_holds N a1 u = some r → xEm md_X3_holds yX3_holds [.ref 0, .int a1] (xU u) (some (.int r.1), xU r.2) := xm_met (res := rsM) (as := [.ref 0, .int a1]) (go_X3_holds N a1 u) (by decide) rfl (Nat.le_of_ble_eq_true rfl)
theorem mw_X3_judgeWays : xMv yX3_judgeWays cX3_judgeWays 3 none 1 := xMv_of (p1 := 586) (p2 := 585) (p3 := 92) (p4 := 21) (by decide +kernel)
/-! NeitherBare.judgeWays([I)V (0, 20) -/
abbrev md_X3_judgeWays_20 : xMd := (cX3_judgeWays, RX3, 3, none, 6)
def f_X3_judgeWays_20_L2b (N : Nat) (rec2 : Int32 → xN → Option xN) (v2 : Int32) (u : xN) : Option xN := Option.bind (f_X0_ways_7 u) (fun r7 => if r7 ≤ v2 then some u else Option.bind (f_X0_heldBy_7_20 N v2 u) (fun r24 => gdl [inb v2 64] (rec2 (v2 + (1 : Int32)) (mI u 36 (Int32.toNatClampNeg v2) r24))))
set_option maxRecDepth 20000 in
theorem go_X3_judgeWays_20_L2b (N : Nat) (rec2 : Int32 → xN → Option xN) (h2 : ∀ (v2 : Int32) (u : xN), xGm md_X3_judgeWays_20 rsV (rec2 v2 u) 2 [(0, .ref 0), (1, .ref 20), (2, .int v2)] [] (xU u)) (v2 : Int32) (u : xN) : xGm md_X3_judgeWays_20 rsV (f_X3_judgeWays_20_L2b N rec2 v2 u) 2 [(0, .ref 0), (1, .ref 20), (2, .int v2)] [] (xU u) := by
  unfold f_X3_judgeWays_20_L2b
  refine xm_blk0 (pc' := 7) (lv' := [(0, .ref 0), (1, .ref 20), (2, .int v2)]) (st' := [.ref 7, .int v2]) (u' := (xU u)) [(.iload_n 2, (0, 0, 0), 0, 0), (.aload_n 0, (0, 0, 0), 0, 0), (.getfield 24, (3, 2, 208), 0, 0)] (by decide +kernel) rfl ?_
  refine xm_Vi (pc := 7) (mz := md_X0_ways_7) (idx := 231) (p1 := 430) (a := 7) (as := []) (st := [.int v2]) (ev_X0_ways_7 u) mw_X0_ways (by decide +kernel) (by decide +kernel) (by decide) rfl rfl (by decide) rfl (Nat.le_of_ble_eq_true rfl) (fun r7 => ?_)
  refine xm_icmp_ge (pc := 10) (off := 24) (tgt := 34) (by decide +kernel) (by decide) ?_ ?_
  · exact xm_vret (pc := 34) (by decide +kernel) rfl rfl
  · refine xm_blk0 (pc' := 24) (lv' := [(0, .ref 0), (1, .ref 20), (2, .int v2)]) (st' := [.ref 20, .int v2, .ref 7, .int v2, .ref 36]) (u' := (xU u)) [(.aload_n 0, (0, 0, 0), 0, 0), (.getfield 42, (3, 6, 212), 0, 0), (.iload_n 2, (0, 0, 0), 0, 0), (.aload_n 0, (0, 0, 0), 0, 0), (.getfield 24, (3, 2, 208), 0, 0), (.iload_n 2, (0, 0, 0), 0, 0), (.aload_n 1, (0, 0, 0), 0, 0)] (by decide +kernel) rfl ?_
    refine xm_Vi (pc := 24) (mz := md_X0_heldBy_7_20) (idx := 220) (p1 := 571) (a := 7) (as := [.int v2, .ref 20]) (st := [.int v2, .ref 36]) (ev_X0_heldBy_7_20 N v2 u) mw_X0_heldBy (by decide +kernel) (by decide +kernel) (by decide) rfl rfl (by decide) rfl (Nat.le_of_ble_eq_true rfl) (fun r24 => ?_)
    refine xm_blk (bs := [inb v2 64]) (pc' := 31) (lv' := [(0, .ref 0), (1, .ref 20), (2, .int (v2 + (1 : Int32)))]) (st' := []) (u' := (xU (mI u 36 (Int32.toNatClampNeg v2) r24))) [(.iastore, (0, 0, 0), 0, 0), (.iinc 2 1, (0, 0, 0), 1, 0)] (by decide +kernel) rfl ?_
    refine xm_goto (pc := 31) (off := -29) (tgt := 2) (by decide +kernel) (by decide) ?_
    exact h2 (v2 + (1 : Int32)) (mI u 36 (Int32.toNatClampNeg v2) r24)
def f_X3_judgeWays_20_L2 (N : Nat) : Nat → Int32 → xN → Option xN
  | 0 => fun _ _ => none
  | n + 1 => fun v2 u => f_X3_judgeWays_20_L2b N (f_X3_judgeWays_20_L2 N n) v2 u
theorem go_X3_judgeWays_20_L2 (N : Nat) : ∀ (n : Nat) (v2 : Int32) (u : xN), xGm md_X3_judgeWays_20 rsV (f_X3_judgeWays_20_L2 N n v2 u) 2 [(0, .ref 0), (1, .ref 20), (2, .int v2)] [] (xU u) := by
  intro n
  induction n with
  | zero => intro v2 u; exact xm_none
  | succ n ih => intro v2 u; exact go_X3_judgeWays_20_L2b N _ ih v2 u
def f_X3_judgeWays_20 (N : Nat) (u : xN) : Option xN := f_X3_judgeWays_20_L2 N N (0 : Int32) u
set_option maxRecDepth 20000 in
theorem go_X3_judgeWays_20 (N : Nat) (u : xN) : xGm md_X3_judgeWays_20 rsV (f_X3_judgeWays_20 N u) 0 [(0, .ref 0), (1, .ref 20)] [] (xU u) := by
  unfold f_X3_judgeWays_20
  refine xm_blk0 (pc' := 2) (lv' := [(0, .ref 0), (1, .ref 20), (2, .int (0 : Int32))]) (st' := []) (u' := (xU u)) [(.iconst 0, (0, 0, 0), 0, 0), (.istore_n 2, (0, 0, 0), 0, 0)] (by decide +kernel) rfl ?_
  exact go_X3_judgeWays_20_L2 N N (0 : Int32) u
theorem ev_X3_judgeWays_20 (N : Nat) (u : xN) : ∀ r, f_X3_judgeWays_20 N u = some r → xEm md_X3_judgeWays_20 yX3_judgeWays [.ref 0, .ref 20] (xU u) (none, xU r) := xm_met (res := rsV) (as := [.ref 0, .ref 20]) (go_X3_judgeWays_20 N u) (by decide) rfl (Nat.le_of_ble_eq_true rfl)
theorem mw_X3_good : xMv yX3_good cX3_good 4 (some .int) 0 := xMv_of (p1 := 582) (p2 := 580) (p3 := 92) (p4 := 581) (by decide +kernel)
/-! NeitherBare.good()I (0,) -/
abbrev md_X3_good : xMd := (cX3_good, RX3, 4, some .int, 7)
def f_X3_good_L67 (N : Nat) (rec39 : Int32 → Int32 → Int32 → xN → Option (Int32 × xN)) (v1 : Int32) (v2 : Int32) (v3 : Int32) (u : xN) : Option (Int32 × xN) := rec39 v1 v2 (v3 + (-1 : Int32)) u
set_option maxRecDepth 20000 in
theorem go_X3_good_L67 (N : Nat) (rec39 : Int32 → Int32 → Int32 → xN → Option (Int32 × xN)) (h39 : ∀ (v1 : Int32) (v2 : Int32) (v3 : Int32) (u : xN), xGm md_X3_good rsM (rec39 v1 v2 v3 u) 39 [(0, .ref 0), (1, .int v1), (2, .int v2), (3, .int v3)] [] (xU u)) (v1 : Int32) (v2 : Int32) (v3 : Int32) (u : xN) : xGm md_X3_good rsM (f_X3_good_L67 N rec39 v1 v2 v3 u) 67 [(0, .ref 0), (1, .int v1), (2, .int v2), (3, .int v3)] [] (xU u) := by
  unfold f_X3_good_L67
  refine xm_blk0 (pc' := 70) (lv' := [(0, .ref 0), (1, .int v1), (2, .int v2), (3, .int (v3 + (-1 : Int32)))]) (st' := []) (u' := (xU u)) [(.iinc 3 (-1), (0, 0, 0), -1, 0)] (by decide +kernel) rfl ?_
  refine xm_goto (pc := 70) (off := -31) (tgt := 39) (by decide +kernel) (by decide) ?_
  exact h39 v1 v2 (v3 + (-1 : Int32)) u
def f_X3_good_L39b (N : Nat) (rec39 : Int32 → Int32 → Int32 → xN → Option (Int32 × xN)) (v1 : Int32) (v2 : Int32) (v3 : Int32) (u : xN) : Option (Int32 × xN) := if v3 < (0 : Int32) then some (v1, mI u 0 10 v2) else gdl [inb v3 64] (Option.bind (f_X3_isMet (u.1 36 (Int32.toNatClampNeg v3)) (u.1 19 1)) (fun r56 => if r56 = (0 : Int32) then f_X3_good_L67 N rec39 v1 v2 v3 u else f_X3_good_L67 N rec39 (v1 + (1 : Int32)) v3 v3 u))
set_option maxRecDepth 20000 in
theorem go_X3_good_L39b (N : Nat) (rec39 : Int32 → Int32 → Int32 → xN → Option (Int32 × xN)) (h39 : ∀ (v1 : Int32) (v2 : Int32) (v3 : Int32) (u : xN), xGm md_X3_good rsM (rec39 v1 v2 v3 u) 39 [(0, .ref 0), (1, .int v1), (2, .int v2), (3, .int v3)] [] (xU u)) (v1 : Int32) (v2 : Int32) (v3 : Int32) (u : xN) : xGm md_X3_good rsM (f_X3_good_L39b N rec39 v1 v2 v3 u) 39 [(0, .ref 0), (1, .int v1), (2, .int v2), (3, .int v3)] [] (xU u) := by
  unfold f_X3_good_L39b
  refine xm_blk0 (pc' := 40) (lv' := [(0, .ref 0), (1, .int v1), (2, .int v2), (3, .int v3)]) (st' := [.int v3]) (u' := (xU u)) [(.iload_n 3, (0, 0, 0), 0, 0)] (by decide +kernel) rfl ?_
  refine xm_if_lt (pc := 40) (off := 33) (tgt := 73) (by decide +kernel) (by decide) ?_ ?_
  · refine xm_blk0 (pc' := 79) (lv' := [(0, .ref 0), (1, .int v1), (2, .int v2), (3, .int v3)]) (st' := [.int v1]) (u' := (xU (mI u 0 10 v2))) [(.aload_n 0, (0, 0, 0), 0, 0), (.iload_n 2, (0, 0, 0), 0, 0), (.putfield 71, (3, 10, 216), 0, 0), (.iload_n 1, (0, 0, 0), 0, 0)] (by decide +kernel) rfl ?_
    exact xm_iret (pc := 79) (by decide +kernel) rfl rfl
  · refine xm_blk (bs := [inb v3 64]) (pc' := 56) (lv' := [(0, .ref 0), (1, .int v1), (2, .int v2), (3, .int v3)]) (st' := [.int (u.1 19 1), .int (u.1 36 (Int32.toNatClampNeg v3))]) (u' := (xU u)) [(.aload_n 0, (0, 0, 0), 0, 0), (.getfield 42, (3, 6, 212), 0, 0), (.iload_n 3, (0, 0, 0), 0, 0), (.iaload, (0, 0, 0), 0, 0), (.aload_n 0, (0, 0, 0), 0, 0), (.getfield 34, (3, 4, 210), 0, 0), (.getfield 183, (2, 1, 181), 0, 0)] (by decide +kernel) rfl ?_
    refine xm_Si (pc := 56) (mz := md_X3_isMet) (idx := 224) (p1 := 576) (as := [.int (u.1 36 (Int32.toNatClampNeg v3)), .int (u.1 19 1)]) (st := []) (ev_X3_isMet (u.1 36 (Int32.toNatClampNeg v3)) (u.1 19 1) u) mw_X3_isMet (by decide +kernel) (by decide +kernel) (by decide) rfl (Nat.le_of_ble_eq_true rfl) (fun r56 => ?_)
    refine xm_if_eq (pc := 59) (off := 8) (tgt := 67) (by decide +kernel) (by decide) ?_ ?_
    · exact go_X3_good_L67 N rec39 h39 v1 v2 v3 u
    · refine xm_blk0 (pc' := 67) (lv' := [(0, .ref 0), (1, .int (v1 + (1 : Int32))), (2, .int v3), (3, .int v3)]) (st' := []) (u' := (xU u)) [(.iinc 1 1, (0, 0, 0), 1, 0), (.iload_n 3, (0, 0, 0), 0, 0), (.istore_n 2, (0, 0, 0), 0, 0)] (by decide +kernel) rfl ?_
      exact go_X3_good_L67 N rec39 h39 (v1 + (1 : Int32)) v3 v3 u
def f_X3_good_L39 (N : Nat) : Nat → Int32 → Int32 → Int32 → xN → Option (Int32 × xN)
  | 0 => fun _ _ _ _ => none
  | n + 1 => fun v1 v2 v3 u => f_X3_good_L39b N (f_X3_good_L39 N n) v1 v2 v3 u
theorem go_X3_good_L39 (N : Nat) : ∀ (n : Nat) (v1 : Int32) (v2 : Int32) (v3 : Int32) (u : xN), xGm md_X3_good rsM (f_X3_good_L39 N n v1 v2 v3 u) 39 [(0, .ref 0), (1, .int v1), (2, .int v2), (3, .int v3)] [] (xU u) := by
  intro n
  induction n with
  | zero => intro v1 v2 v3 u; exact xm_none
  | succ n ih => intro v1 v2 v3 u; exact go_X3_good_L39b N _ ih v1 v2 v3 u
def f_X3_good (N : Nat) (u : xN) : Option (Int32 × xN) := if (u.1 7 0) = (0 : Int32) then some ((-4 : Int32), u) else Option.bind (f_X3_judgeWays_20 N u) (fun r21 => Option.bind (f_X0_ways_7 r21) (fun r33 => f_X3_good_L39 N N (0 : Int32) (-9 : Int32) (r33 - (1 : Int32)) r21))
set_option maxRecDepth 20000 in
theorem go_X3_good (N : Nat) (u : xN) : xGm md_X3_good rsM (f_X3_good N u) 0 [(0, .ref 0)] [] (xU u) := by
  unfold f_X3_good
  refine xm_blk0 (pc' := 7) (lv' := [(0, .ref 0)]) (st' := [.int (u.1 7 0)]) (u' := (xU u)) [(.aload_n 0, (0, 0, 0), 0, 0), (.getfield 24, (3, 2, 208), 0, 0), (.getfield 119, (0, 0, 143), 0, 0)] (by decide +kernel) rfl ?_
  refine xm_if_ne (pc := 7) (off := 6) (tgt := 13) (by decide +kernel) (by decide) ?_ ?_
  · refine xm_blk0 (pc' := 21) (lv' := [(0, .ref 0)]) (st' := [.ref 20, .ref 0]) (u' := (xU u)) [(.aload_n 0, (0, 0, 0), 0, 0), (.aload_n 0, (0, 0, 0), 0, 0), (.getfield 34, (3, 4, 210), 0, 0), (.getfield 170, (2, 3, 185), 0, 0)] (by decide +kernel) rfl ?_
    refine xm_Vv (pc := 21) (mz := md_X3_judgeWays_20) (idx := 227) (p1 := 583) (a := 0) (as := [.ref 20]) (st := []) (ev_X3_judgeWays_20 N u) mw_X3_judgeWays (by decide +kernel) (by decide +kernel) (by decide) rfl rfl (by decide) rfl (Nat.le_of_ble_eq_true rfl) (fun r21 => ?_)
    refine xm_blk0 (pc' := 33) (lv' := [(0, .ref 0), (1, .int (0 : Int32)), (2, .int (-9 : Int32))]) (st' := [.ref 7]) (u' := (xU r21)) [(.iconst 0, (0, 0, 0), 0, 0), (.istore_n 1, (0, 0, 0), 0, 0), (.bipush (-9), (0, 0, 0), -9, 0), (.istore_n 2, (0, 0, 0), 0, 0), (.aload_n 0, (0, 0, 0), 0, 0), (.getfield 24, (3, 2, 208), 0, 0)] (by decide +kernel) rfl ?_
    refine xm_Vi (pc := 33) (mz := md_X0_ways_7) (idx := 231) (p1 := 430) (a := 7) (as := []) (st := []) (ev_X0_ways_7 r21) mw_X0_ways (by decide +kernel) (by decide +kernel) (by decide) rfl rfl (by decide) rfl (Nat.le_of_ble_eq_true rfl) (fun r33 => ?_)
    refine xm_blk0 (pc' := 39) (lv' := [(0, .ref 0), (1, .int (0 : Int32)), (2, .int (-9 : Int32)), (3, .int (r33 - (1 : Int32)))]) (st' := []) (u' := (xU r21)) [(.iconst 1, (0, 0, 0), 1, 0), (.isub, (0, 0, 0), 0, 0), (.istore_n 3, (0, 0, 0), 0, 0)] (by decide +kernel) rfl ?_
    exact go_X3_good_L39 N N (0 : Int32) (-9 : Int32) (r33 - (1 : Int32)) r21
  · refine xm_blk0 (pc' := 12) (lv' := [(0, .ref 0)]) (st' := [.int (-4 : Int32)]) (u' := (xU u)) [(.bipush (-4), (0, 0, 0), -4, 0)] (by decide +kernel) rfl ?_
    exact xm_iret (pc := 12) (by decide +kernel) rfl rfl
theorem ev_X3_good (N : Nat) (u : xN) : ∀ r, f_X3_good N u = some r → xEm md_X3_good yX3_good [.ref 0] (xU u) (some (.int r.1), xU r.2) := xm_met (res := rsM) (as := [.ref 0]) (go_X3_good N u) (by decide) rfl (Nat.le_of_ble_eq_true rfl)
theorem mw_X3_cheapestBy : xMv yX3_cheapestBy cX3_cheapestBy 6 (some .int) 1 := xMv_of (p1 := 594) (p2 := 593) (p3 := 92) (p4 := 22) (by decide +kernel)
/-! NeitherBare.cheapestBy(I)I (0, None) -/
abbrev md_X3_cheapestBy : xMd := (cX3_cheapestBy, RX3, 6, some .int, 2)
def f_X3_cheapestBy_L60 (N : Nat) (u : xN) (rec10 : Int32 → Int32 → Int32 → Int32 → Option Int32) (v1 : Int32) (v2 : Int32) (v3 : Int32) (v4 : Int32) : Option Int32 := rec10 v1 v2 v3 (v4 + (1 : Int32))
set_option maxRecDepth 20000 in
theorem go_X3_cheapestBy_L60 (N : Nat) (u : xN) (rec10 : Int32 → Int32 → Int32 → Int32 → Option Int32) (h10 : ∀ (v1 : Int32) (v2 : Int32) (v3 : Int32) (v4 : Int32), xGm md_X3_cheapestBy (rsI (xU u)) (rec10 v1 v2 v3 v4) 10 [(0, .ref 0), (1, .int v1), (2, .int v2), (3, .int v3), (4, .int v4)] [] (xU u)) (v1 : Int32) (v2 : Int32) (v3 : Int32) (v4 : Int32) : xGm md_X3_cheapestBy (rsI (xU u)) (f_X3_cheapestBy_L60 N u rec10 v1 v2 v3 v4) 60 [(0, .ref 0), (1, .int v1), (2, .int v2), (3, .int v3), (4, .int v4)] [] (xU u) := by
  unfold f_X3_cheapestBy_L60
  refine xm_blk0 (pc' := 63) (lv' := [(0, .ref 0), (1, .int v1), (2, .int v2), (3, .int v3), (4, .int (v4 + (1 : Int32)))]) (st' := []) (u' := (xU u)) [(.iinc 4 1, (0, 0, 0), 1, 0)] (by decide +kernel) rfl ?_
  refine xm_goto (pc := 63) (off := -53) (tgt := 10) (by decide +kernel) (by decide) ?_
  exact h10 v1 v2 v3 (v4 + (1 : Int32))
def f_X3_cheapestBy_L10b (N : Nat) (u : xN) (rec10 : Int32 → Int32 → Int32 → Int32 → Option Int32) (v1 : Int32) (v2 : Int32) (v3 : Int32) (v4 : Int32) : Option Int32 := Option.bind (f_X0_ways_7 u) (fun r16 => if r16 ≤ v4 then some v2 else Option.bind (f_X0_sumOf_7 v4 (4 : Int32) u) (fun r29 => if v3 ≤ r29 then f_X3_cheapestBy_L60 N u rec10 v1 v2 v3 v4 else gdl [inb v4 64] (Option.bind (f_X3_isMet (u.1 36 (Int32.toNatClampNeg v4)) v1) (fun r48 => if r48 = (0 : Int32) then f_X3_cheapestBy_L60 N u rec10 v1 v2 v3 v4 else f_X3_cheapestBy_L60 N u rec10 v1 v4 r29 v4))))
set_option maxRecDepth 20000 in
theorem go_X3_cheapestBy_L10b (N : Nat) (u : xN) (rec10 : Int32 → Int32 → Int32 → Int32 → Option Int32) (h10 : ∀ (v1 : Int32) (v2 : Int32) (v3 : Int32) (v4 : Int32), xGm md_X3_cheapestBy (rsI (xU u)) (rec10 v1 v2 v3 v4) 10 [(0, .ref 0), (1, .int v1), (2, .int v2), (3, .int v3), (4, .int v4)] [] (xU u)) (v1 : Int32) (v2 : Int32) (v3 : Int32) (v4 : Int32) : xGm md_X3_cheapestBy (rsI (xU u)) (f_X3_cheapestBy_L10b N u rec10 v1 v2 v3 v4) 10 [(0, .ref 0), (1, .int v1), (2, .int v2), (3, .int v3), (4, .int v4)] [] (xU u) := by
  unfold f_X3_cheapestBy_L10b
  refine xm_blk0 (pc' := 16) (lv' := [(0, .ref 0), (1, .int v1), (2, .int v2), (3, .int v3), (4, .int v4)]) (st' := [.ref 7, .int v4]) (u' := (xU u)) [(.iload 4, (0, 0, 0), 0, 0), (.aload_n 0, (0, 0, 0), 0, 0), (.getfield 24, (3, 2, 208), 0, 0)] (by decide +kernel) rfl ?_
  refine xm_Vi (pc := 16) (mz := md_X0_ways_7) (idx := 231) (p1 := 430) (a := 7) (as := []) (st := [.int v4]) (ev_X0_ways_7 u) mw_X0_ways (by decide +kernel) (by decide +kernel) (by decide) rfl rfl (by decide) rfl (Nat.le_of_ble_eq_true rfl) (fun r16 => ?_)
  refine xm_icmp_ge (pc := 19) (off := 47) (tgt := 66) (by decide +kernel) (by decide) ?_ ?_
  · refine xm_blk0 (pc' := 67) (lv' := [(0, .ref 0), (1, .int v1), (2, .int v2), (3, .int v3), (4, .int v4)]) (st' := [.int v2]) (u' := (xU u)) [(.iload_n 2, (0, 0, 0), 0, 0)] (by decide +kernel) rfl ?_
    exact xm_iret (pc := 67) (by decide +kernel) rfl rfl
  · refine xm_blk0 (pc' := 29) (lv' := [(0, .ref 0), (1, .int v1), (2, .int v2), (3, .int v3), (4, .int v4)]) (st' := [.int (4 : Int32), .int v4, .ref 7]) (u' := (xU u)) [(.aload_n 0, (0, 0, 0), 0, 0), (.getfield 24, (3, 2, 208), 0, 0), (.iload 4, (0, 0, 0), 0, 0), (.iconst 4, (0, 0, 0), 4, 0)] (by decide +kernel) rfl ?_
    refine xm_Vi (pc := 29) (mz := md_X0_sumOf_7) (idx := 217) (p1 := 566) (a := 7) (as := [.int v4, .int (4 : Int32)]) (st := []) (ev_X0_sumOf_7 v4 (4 : Int32) u) mw_X0_sumOf (by decide +kernel) (by decide +kernel) (by decide) rfl rfl (by decide) rfl (Nat.le_of_ble_eq_true rfl) (fun r29 => ?_)
    refine xm_blk0 (pc' := 37) (lv' := [(0, .ref 0), (1, .int v1), (2, .int v2), (3, .int v3), (4, .int v4), (5, .int r29)]) (st' := [.int v3, .int r29]) (u' := (xU u)) [(.istore 5, (0, 0, 0), 0, 0), (.iload 5, (0, 0, 0), 0, 0), (.iload_n 3, (0, 0, 0), 0, 0)] (by decide +kernel) rfl ?_
    refine xm_icmp_ge (pc := 37) (off := 23) (tgt := 60) (by decide +kernel) (by decide) ?_ ?_
    · refine xm_wk [0, 1, 2, 3, 4] (lv' := [(0, .ref 0), (1, .int v1), (2, .int v2), (3, .int v3), (4, .int v4)]) rfl ?_
      exact go_X3_cheapestBy_L60 N u rec10 h10 v1 v2 v3 v4
    · refine xm_blk (bs := [inb v4 64]) (pc' := 48) (lv' := [(0, .ref 0), (1, .int v1), (2, .int v2), (3, .int v3), (4, .int v4), (5, .int r29)]) (st' := [.int v1, .int (u.1 36 (Int32.toNatClampNeg v4))]) (u' := (xU u)) [(.aload_n 0, (0, 0, 0), 0, 0), (.getfield 42, (3, 6, 212), 0, 0), (.iload 4, (0, 0, 0), 0, 0), (.iaload, (0, 0, 0), 0, 0), (.iload_n 1, (0, 0, 0), 0, 0)] (by decide +kernel) rfl ?_
      refine xm_Si (pc := 48) (mz := md_X3_isMet) (idx := 224) (p1 := 576) (as := [.int (u.1 36 (Int32.toNatClampNeg v4)), .int v1]) (st := []) (ev_X3_isMet (u.1 36 (Int32.toNatClampNeg v4)) v1 u) mw_X3_isMet (by decide +kernel) (by decide +kernel) (by decide) rfl (Nat.le_of_ble_eq_true rfl) (fun r48 => ?_)
      refine xm_if_eq (pc := 51) (off := 9) (tgt := 60) (by decide +kernel) (by decide) ?_ ?_
      · refine xm_wk [0, 1, 2, 3, 4] (lv' := [(0, .ref 0), (1, .int v1), (2, .int v2), (3, .int v3), (4, .int v4)]) rfl ?_
        exact go_X3_cheapestBy_L60 N u rec10 h10 v1 v2 v3 v4
      · refine xm_blk0 (pc' := 60) (lv' := [(0, .ref 0), (1, .int v1), (2, .int v4), (3, .int r29), (4, .int v4), (5, .int r29)]) (st' := []) (u' := (xU u)) [(.iload 4, (0, 0, 0), 0, 0), (.istore_n 2, (0, 0, 0), 0, 0), (.iload 5, (0, 0, 0), 0, 0), (.istore_n 3, (0, 0, 0), 0, 0)] (by decide +kernel) rfl ?_
        refine xm_wk [0, 1, 2, 3, 4] (lv' := [(0, .ref 0), (1, .int v1), (2, .int v4), (3, .int r29), (4, .int v4)]) rfl ?_
        exact go_X3_cheapestBy_L60 N u rec10 h10 v1 v4 r29 v4
def f_X3_cheapestBy_L10 (N : Nat) (u : xN) : Nat → Int32 → Int32 → Int32 → Int32 → Option Int32
  | 0 => fun _ _ _ _ => none
  | n + 1 => fun v1 v2 v3 v4 => f_X3_cheapestBy_L10b N u (f_X3_cheapestBy_L10 N u n) v1 v2 v3 v4
theorem go_X3_cheapestBy_L10 (N : Nat) (u : xN) : ∀ (n : Nat) (v1 : Int32) (v2 : Int32) (v3 : Int32) (v4 : Int32), xGm md_X3_cheapestBy (rsI (xU u)) (f_X3_cheapestBy_L10 N u n v1 v2 v3 v4) 10 [(0, .ref 0), (1, .int v1), (2, .int v2), (3, .int v3), (4, .int v4)] [] (xU u) := by
  intro n
  induction n with
  | zero => intro v1 v2 v3 v4; exact xm_none
  | succ n ih => intro v1 v2 v3 v4; exact go_X3_cheapestBy_L10b N u _ ih v1 v2 v3 v4
def f_X3_cheapestBy (N : Nat) (a1 : Int32) (u : xN) : Option Int32 := f_X3_cheapestBy_L10 N u N a1 (-9 : Int32) (2147483647 : Int32) (0 : Int32)
set_option maxRecDepth 20000 in
theorem go_X3_cheapestBy (N : Nat) (a1 : Int32) (u : xN) : xGm md_X3_cheapestBy (rsI (xU u)) (f_X3_cheapestBy N a1 u) 0 [(0, .ref 0), (1, .int a1)] [] (xU u) := by
  unfold f_X3_cheapestBy
  refine xm_blk0 (pc' := 10) (lv' := [(0, .ref 0), (1, .int a1), (2, .int (-9 : Int32)), (3, .int (2147483647 : Int32)), (4, .int (0 : Int32))]) (st' := []) (u' := (xU u)) [(.bipush (-9), (0, 0, 0), -9, 0), (.istore_n 2, (0, 0, 0), 0, 0), (.ldc_w 339, (0, 0, 595), 2147483647, 0), (.istore_n 3, (0, 0, 0), 0, 0), (.iconst 0, (0, 0, 0), 0, 0), (.istore 4, (0, 0, 0), 0, 0)] (by decide +kernel) rfl ?_
  exact go_X3_cheapestBy_L10 N u N a1 (-9 : Int32) (2147483647 : Int32) (0 : Int32)
theorem ev_X3_cheapestBy (N : Nat) (a1 : Int32) (u : xN) : ∀ r, f_X3_cheapestBy N a1 u = some r → xEm md_X3_cheapestBy yX3_cheapestBy [.ref 0, .int a1] (xU u) (some (.int r), (xU u)) := xm_met (res := (rsI (xU u))) (as := [.ref 0, .int a1]) (go_X3_cheapestBy N a1 u) (by decide) rfl (Nat.le_of_ble_eq_true rfl)
theorem mw_X3_cheapest : xMv yX3_cheapest cX3_cheapest 2 (some .int) 0 := xMv_of (p1 := 590) (p2 := 588) (p3 := 92) (p4 := 589) (by decide +kernel)
/-! NeitherBare.cheapest()I (0,) -/
abbrev md_X3_cheapest : xMd := (cX3_cheapest, RX3, 2, some .int, 7)
def f_X3_cheapest_L55 (N : Nat) (v1 : Int32) (u : xN) : Option (Int32 × xN) := some (v1, u)
set_option maxRecDepth 20000 in
theorem go_X3_cheapest_L55 (N : Nat) (v1 : Int32) (u : xN) : xGm md_X3_cheapest rsM (f_X3_cheapest_L55 N v1 u) 55 [(1, .int v1)] [] (xU u) := by
  unfold f_X3_cheapest_L55
  refine xm_blk0 (pc' := 56) (lv' := [(1, .int v1)]) (st' := [.int v1]) (u' := (xU u)) [(.iload_n 1, (0, 0, 0), 0, 0)] (by decide +kernel) rfl ?_
  exact xm_iret (pc := 56) (by decide +kernel) rfl rfl
def f_X3_cheapest (N : Nat) (u : xN) : Option (Int32 × xN) := if (u.1 7 0) = (0 : Int32) then some ((-4 : Int32), u) else Option.bind (f_X3_judgeWays_20 N u) (fun r21 => Option.bind (f_X3_cheapestBy N (r21.1 19 1) r21) (fun r32 => if r32 = (-9 : Int32) then f_X3_cheapest_L55 N r32 r21 else Option.bind (f_X0_sumOf_7 r32 (4 : Int32) r21) (fun r49 => f_X3_cheapest_L55 N r32 (mI r21 0 10 r49))))
set_option maxRecDepth 20000 in
theorem go_X3_cheapest (N : Nat) (u : xN) : xGm md_X3_cheapest rsM (f_X3_cheapest N u) 0 [(0, .ref 0)] [] (xU u) := by
  unfold f_X3_cheapest
  refine xm_blk0 (pc' := 7) (lv' := [(0, .ref 0)]) (st' := [.int (u.1 7 0)]) (u' := (xU u)) [(.aload_n 0, (0, 0, 0), 0, 0), (.getfield 24, (3, 2, 208), 0, 0), (.getfield 119, (0, 0, 143), 0, 0)] (by decide +kernel) rfl ?_
  refine xm_if_ne (pc := 7) (off := 6) (tgt := 13) (by decide +kernel) (by decide) ?_ ?_
  · refine xm_blk0 (pc' := 21) (lv' := [(0, .ref 0)]) (st' := [.ref 20, .ref 0]) (u' := (xU u)) [(.aload_n 0, (0, 0, 0), 0, 0), (.aload_n 0, (0, 0, 0), 0, 0), (.getfield 34, (3, 4, 210), 0, 0), (.getfield 170, (2, 3, 185), 0, 0)] (by decide +kernel) rfl ?_
    refine xm_Vv (pc := 21) (mz := md_X3_judgeWays_20) (idx := 227) (p1 := 583) (a := 0) (as := [.ref 20]) (st := []) (ev_X3_judgeWays_20 N u) mw_X3_judgeWays (by decide +kernel) (by decide +kernel) (by decide) rfl rfl (by decide) rfl (Nat.le_of_ble_eq_true rfl) (fun r21 => ?_)
    refine xm_blk0 (pc' := 32) (lv' := [(0, .ref 0)]) (st' := [.int (r21.1 19 1), .ref 0]) (u' := (xU r21)) [(.aload_n 0, (0, 0, 0), 0, 0), (.aload_n 0, (0, 0, 0), 0, 0), (.getfield 34, (3, 4, 210), 0, 0), (.getfield 183, (2, 1, 181), 0, 0)] (by decide +kernel) rfl ?_
    refine xm_Vi (pc := 32) (mz := md_X3_cheapestBy) (idx := 235) (p1 := 591) (a := 0) (as := [.int (r21.1 19 1)]) (st := []) (ev_X3_cheapestBy N (r21.1 19 1) r21) mw_X3_cheapestBy (by decide +kernel) (by decide +kernel) (by decide) rfl rfl (by decide) rfl (Nat.le_of_ble_eq_true rfl) (fun r32 => ?_)
    refine xm_blk0 (pc' := 39) (lv' := [(0, .ref 0), (1, .int r32)]) (st' := [.int (-9 : Int32), .int r32]) (u' := (xU r21)) [(.istore_n 1, (0, 0, 0), 0, 0), (.iload_n 1, (0, 0, 0), 0, 0), (.bipush (-9), (0, 0, 0), -9, 0)] (by decide +kernel) rfl ?_
    refine xm_icmp_eq (pc := 39) (off := 16) (tgt := 55) (by decide +kernel) (by decide) ?_ ?_
    · refine xm_wk [1] (lv' := [(1, .int r32)]) rfl ?_
      exact go_X3_cheapest_L55 N r32 r21
    · refine xm_blk0 (pc' := 49) (lv' := [(0, .ref 0), (1, .int r32)]) (st' := [.int (4 : Int32), .int r32, .ref 7, .ref 0]) (u' := (xU r21)) [(.aload_n 0, (0, 0, 0), 0, 0), (.aload_n 0, (0, 0, 0), 0, 0), (.getfield 24, (3, 2, 208), 0, 0), (.iload_n 1, (0, 0, 0), 0, 0), (.iconst 4, (0, 0, 0), 4, 0)] (by decide +kernel) rfl ?_
      refine xm_Vi (pc := 49) (mz := md_X0_sumOf_7) (idx := 217) (p1 := 566) (a := 7) (as := [.int r32, .int (4 : Int32)]) (st := [.ref 0]) (ev_X0_sumOf_7 r32 (4 : Int32) r21) mw_X0_sumOf (by decide +kernel) (by decide +kernel) (by decide) rfl rfl (by decide) rfl (Nat.le_of_ble_eq_true rfl) (fun r49 => ?_)
      refine xm_blk0 (pc' := 55) (lv' := [(0, .ref 0), (1, .int r32)]) (st' := []) (u' := (xU (mI r21 0 10 r49))) [(.putfield 71, (3, 10, 216), 0, 0)] (by decide +kernel) rfl ?_
      refine xm_wk [1] (lv' := [(1, .int r32)]) rfl ?_
      exact go_X3_cheapest_L55 N r32 (mI r21 0 10 r49)
  · refine xm_blk0 (pc' := 12) (lv' := [(0, .ref 0)]) (st' := [.int (-4 : Int32)]) (u' := (xU u)) [(.bipush (-4), (0, 0, 0), -4, 0)] (by decide +kernel) rfl ?_
    exact xm_iret (pc := 12) (by decide +kernel) rfl rfl
theorem ev_X3_cheapest (N : Nat) (u : xN) : ∀ r, f_X3_cheapest N u = some r → xEm md_X3_cheapest yX3_cheapest [.ref 0] (xU u) (some (.int r.1), xU r.2) := xm_met (res := rsM) (as := [.ref 0]) (go_X3_cheapest N u) (by decide) rfl (Nat.le_of_ble_eq_true rfl)
theorem mw_X3_fewest : xMv yX3_fewest cX3_fewest 5 (some .int) 0 := xMv_of (p1 := 599) (p2 := 597) (p3 := 92) (p4 := 598) (by decide +kernel)
/-! NeitherBare.fewest()I (0,) -/
abbrev md_X3_fewest : xMd := (cX3_fewest, RX3, 5, some .int, 7)
def f_X3_fewest_L79 (N : Nat) (rec32 : Int32 → Int32 → Int32 → xN → Option (Int32 × xN)) (v1 : Int32) (v2 : Int32) (v3 : Int32) (u : xN) : Option (Int32 × xN) := rec32 v1 v2 (v3 + (1 : Int32)) u
set_option maxRecDepth 20000 in
theorem go_X3_fewest_L79 (N : Nat) (rec32 : Int32 → Int32 → Int32 → xN → Option (Int32 × xN)) (h32 : ∀ (v1 : Int32) (v2 : Int32) (v3 : Int32) (u : xN), xGm md_X3_fewest rsM (rec32 v1 v2 v3 u) 32 [(0, .ref 0), (1, .int v1), (2, .int v2), (3, .int v3)] [] (xU u)) (v1 : Int32) (v2 : Int32) (v3 : Int32) (u : xN) : xGm md_X3_fewest rsM (f_X3_fewest_L79 N rec32 v1 v2 v3 u) 79 [(0, .ref 0), (1, .int v1), (2, .int v2), (3, .int v3)] [] (xU u) := by
  unfold f_X3_fewest_L79
  refine xm_blk0 (pc' := 82) (lv' := [(0, .ref 0), (1, .int v1), (2, .int v2), (3, .int (v3 + (1 : Int32)))]) (st' := []) (u' := (xU u)) [(.iinc 3 1, (0, 0, 0), 1, 0)] (by decide +kernel) rfl ?_
  refine xm_goto (pc := 82) (off := -50) (tgt := 32) (by decide +kernel) (by decide) ?_
  exact h32 v1 v2 (v3 + (1 : Int32)) u
def f_X3_fewest_L96 (N : Nat) (v1 : Int32) (u : xN) : Option (Int32 × xN) := some (v1, u)
set_option maxRecDepth 20000 in
theorem go_X3_fewest_L96 (N : Nat) (v1 : Int32) (u : xN) : xGm md_X3_fewest rsM (f_X3_fewest_L96 N v1 u) 96 [(1, .int v1)] [] (xU u) := by
  unfold f_X3_fewest_L96
  refine xm_blk0 (pc' := 97) (lv' := [(1, .int v1)]) (st' := [.int v1]) (u' := (xU u)) [(.iload_n 1, (0, 0, 0), 0, 0)] (by decide +kernel) rfl ?_
  exact xm_iret (pc := 97) (by decide +kernel) rfl rfl
def f_X3_fewest_L32b (N : Nat) (rec32 : Int32 → Int32 → Int32 → xN → Option (Int32 × xN)) (v1 : Int32) (v2 : Int32) (v3 : Int32) (u : xN) : Option (Int32 × xN) := Option.bind (f_X0_ways_7 u) (fun r37 => if r37 ≤ v3 then (if v1 = (-9 : Int32) then f_X3_fewest_L96 N v1 u else f_X3_fewest_L96 N v1 (mI u 0 10 v2)) else Option.bind (f_J6_bitCount_0f7a4 v3) (fun r44 => if v2 ≤ r44 then f_X3_fewest_L79 N rec32 v1 v2 v3 u else gdl [inb v3 64] (Option.bind (f_X3_isMet (u.1 36 (Int32.toNatClampNeg v3)) (u.1 19 1)) (fun r68 => if r68 = (0 : Int32) then f_X3_fewest_L79 N rec32 v1 v2 v3 u else f_X3_fewest_L79 N rec32 v3 r44 v3 u))))
set_option maxRecDepth 20000 in
theorem go_X3_fewest_L32b (N : Nat) (rec32 : Int32 → Int32 → Int32 → xN → Option (Int32 × xN)) (h32 : ∀ (v1 : Int32) (v2 : Int32) (v3 : Int32) (u : xN), xGm md_X3_fewest rsM (rec32 v1 v2 v3 u) 32 [(0, .ref 0), (1, .int v1), (2, .int v2), (3, .int v3)] [] (xU u)) (v1 : Int32) (v2 : Int32) (v3 : Int32) (u : xN) : xGm md_X3_fewest rsM (f_X3_fewest_L32b N rec32 v1 v2 v3 u) 32 [(0, .ref 0), (1, .int v1), (2, .int v2), (3, .int v3)] [] (xU u) := by
  unfold f_X3_fewest_L32b
  refine xm_blk0 (pc' := 37) (lv' := [(0, .ref 0), (1, .int v1), (2, .int v2), (3, .int v3)]) (st' := [.ref 7, .int v3]) (u' := (xU u)) [(.iload_n 3, (0, 0, 0), 0, 0), (.aload_n 0, (0, 0, 0), 0, 0), (.getfield 24, (3, 2, 208), 0, 0)] (by decide +kernel) rfl ?_
  refine xm_Vi (pc := 37) (mz := md_X0_ways_7) (idx := 231) (p1 := 430) (a := 7) (as := []) (st := [.int v3]) (ev_X0_ways_7 u) mw_X0_ways (by decide +kernel) (by decide +kernel) (by decide) rfl rfl (by decide) rfl (Nat.le_of_ble_eq_true rfl) (fun r37 => ?_)
  refine xm_icmp_ge (pc := 40) (off := 45) (tgt := 85) (by decide +kernel) (by decide) ?_ ?_
  · refine xm_blk0 (pc' := 88) (lv' := [(0, .ref 0), (1, .int v1), (2, .int v2), (3, .int v3)]) (st' := [.int (-9 : Int32), .int v1]) (u' := (xU u)) [(.iload_n 1, (0, 0, 0), 0, 0), (.bipush (-9), (0, 0, 0), -9, 0)] (by decide +kernel) rfl ?_
    refine xm_icmp_eq (pc := 88) (off := 8) (tgt := 96) (by decide +kernel) (by decide) ?_ ?_
    · refine xm_wk [1] (lv' := [(1, .int v1)]) rfl ?_
      exact go_X3_fewest_L96 N v1 u
    · refine xm_blk0 (pc' := 96) (lv' := [(0, .ref 0), (1, .int v1), (2, .int v2), (3, .int v3)]) (st' := []) (u' := (xU (mI u 0 10 v2))) [(.aload_n 0, (0, 0, 0), 0, 0), (.iload_n 2, (0, 0, 0), 0, 0), (.putfield 71, (3, 10, 216), 0, 0)] (by decide +kernel) rfl ?_
      refine xm_wk [1] (lv' := [(1, .int v1)]) rfl ?_
      exact go_X3_fewest_L96 N v1 (mI u 0 10 v2)
  · refine xm_blk0 (pc' := 44) (lv' := [(0, .ref 0), (1, .int v1), (2, .int v2), (3, .int v3)]) (st' := [.int v3]) (u' := (xU u)) [(.iload_n 3, (0, 0, 0), 0, 0)] (by decide +kernel) rfl ?_
    refine xm_Si (pc := 44) (mz := md_J6_bitCount_0f7a4) (idx := 186) (p1 := 509) (as := [.int v3]) (st := []) (ev_J6_bitCount_0f7a4 v3 u) mw_J6_bitCount_0f7a4 (by decide +kernel) (by decide +kernel) (by decide) rfl (Nat.le_of_ble_eq_true rfl) (fun r44 => ?_)
    refine xm_blk0 (pc' := 52) (lv' := [(0, .ref 0), (1, .int v1), (2, .int v2), (3, .int v3), (4, .int r44)]) (st' := [.int v2, .int r44]) (u' := (xU u)) [(.istore 4, (0, 0, 0), 0, 0), (.iload 4, (0, 0, 0), 0, 0), (.iload_n 2, (0, 0, 0), 0, 0)] (by decide +kernel) rfl ?_
    refine xm_icmp_ge (pc := 52) (off := 27) (tgt := 79) (by decide +kernel) (by decide) ?_ ?_
    · refine xm_wk [0, 1, 2, 3] (lv' := [(0, .ref 0), (1, .int v1), (2, .int v2), (3, .int v3)]) rfl ?_
      exact go_X3_fewest_L79 N rec32 h32 v1 v2 v3 u
    · refine xm_blk (bs := [inb v3 64]) (pc' := 68) (lv' := [(0, .ref 0), (1, .int v1), (2, .int v2), (3, .int v3), (4, .int r44)]) (st' := [.int (u.1 19 1), .int (u.1 36 (Int32.toNatClampNeg v3))]) (u' := (xU u)) [(.aload_n 0, (0, 0, 0), 0, 0), (.getfield 42, (3, 6, 212), 0, 0), (.iload_n 3, (0, 0, 0), 0, 0), (.iaload, (0, 0, 0), 0, 0), (.aload_n 0, (0, 0, 0), 0, 0), (.getfield 34, (3, 4, 210), 0, 0), (.getfield 183, (2, 1, 181), 0, 0)] (by decide +kernel) rfl ?_
      refine xm_Si (pc := 68) (mz := md_X3_isMet) (idx := 224) (p1 := 576) (as := [.int (u.1 36 (Int32.toNatClampNeg v3)), .int (u.1 19 1)]) (st := []) (ev_X3_isMet (u.1 36 (Int32.toNatClampNeg v3)) (u.1 19 1) u) mw_X3_isMet (by decide +kernel) (by decide +kernel) (by decide) rfl (Nat.le_of_ble_eq_true rfl) (fun r68 => ?_)
      refine xm_if_eq (pc := 71) (off := 8) (tgt := 79) (by decide +kernel) (by decide) ?_ ?_
      · refine xm_wk [0, 1, 2, 3] (lv' := [(0, .ref 0), (1, .int v1), (2, .int v2), (3, .int v3)]) rfl ?_
        exact go_X3_fewest_L79 N rec32 h32 v1 v2 v3 u
      · refine xm_blk0 (pc' := 79) (lv' := [(0, .ref 0), (1, .int v3), (2, .int r44), (3, .int v3), (4, .int r44)]) (st' := []) (u' := (xU u)) [(.iload_n 3, (0, 0, 0), 0, 0), (.istore_n 1, (0, 0, 0), 0, 0), (.iload 4, (0, 0, 0), 0, 0), (.istore_n 2, (0, 0, 0), 0, 0)] (by decide +kernel) rfl ?_
        refine xm_wk [0, 1, 2, 3] (lv' := [(0, .ref 0), (1, .int v3), (2, .int r44), (3, .int v3)]) rfl ?_
        exact go_X3_fewest_L79 N rec32 h32 v3 r44 v3 u
def f_X3_fewest_L32 (N : Nat) : Nat → Int32 → Int32 → Int32 → xN → Option (Int32 × xN)
  | 0 => fun _ _ _ _ => none
  | n + 1 => fun v1 v2 v3 u => f_X3_fewest_L32b N (f_X3_fewest_L32 N n) v1 v2 v3 u
theorem go_X3_fewest_L32 (N : Nat) : ∀ (n : Nat) (v1 : Int32) (v2 : Int32) (v3 : Int32) (u : xN), xGm md_X3_fewest rsM (f_X3_fewest_L32 N n v1 v2 v3 u) 32 [(0, .ref 0), (1, .int v1), (2, .int v2), (3, .int v3)] [] (xU u) := by
  intro n
  induction n with
  | zero => intro v1 v2 v3 u; exact xm_none
  | succ n ih => intro v1 v2 v3 u; exact go_X3_fewest_L32b N _ ih v1 v2 v3 u
def f_X3_fewest (N : Nat) (u : xN) : Option (Int32 × xN) := if (u.1 7 0) = (0 : Int32) then some ((-4 : Int32), u) else Option.bind (f_X3_judgeWays_20 N u) (fun r21 => f_X3_fewest_L32 N N (-9 : Int32) (7 : Int32) (0 : Int32) r21)
set_option maxRecDepth 20000 in
theorem go_X3_fewest (N : Nat) (u : xN) : xGm md_X3_fewest rsM (f_X3_fewest N u) 0 [(0, .ref 0)] [] (xU u) := by
  unfold f_X3_fewest
  refine xm_blk0 (pc' := 7) (lv' := [(0, .ref 0)]) (st' := [.int (u.1 7 0)]) (u' := (xU u)) [(.aload_n 0, (0, 0, 0), 0, 0), (.getfield 24, (3, 2, 208), 0, 0), (.getfield 119, (0, 0, 143), 0, 0)] (by decide +kernel) rfl ?_
  refine xm_if_ne (pc := 7) (off := 6) (tgt := 13) (by decide +kernel) (by decide) ?_ ?_
  · refine xm_blk0 (pc' := 21) (lv' := [(0, .ref 0)]) (st' := [.ref 20, .ref 0]) (u' := (xU u)) [(.aload_n 0, (0, 0, 0), 0, 0), (.aload_n 0, (0, 0, 0), 0, 0), (.getfield 34, (3, 4, 210), 0, 0), (.getfield 170, (2, 3, 185), 0, 0)] (by decide +kernel) rfl ?_
    refine xm_Vv (pc := 21) (mz := md_X3_judgeWays_20) (idx := 227) (p1 := 583) (a := 0) (as := [.ref 20]) (st := []) (ev_X3_judgeWays_20 N u) mw_X3_judgeWays (by decide +kernel) (by decide +kernel) (by decide) rfl rfl (by decide) rfl (Nat.le_of_ble_eq_true rfl) (fun r21 => ?_)
    refine xm_blk0 (pc' := 32) (lv' := [(0, .ref 0), (1, .int (-9 : Int32)), (2, .int (7 : Int32)), (3, .int (0 : Int32))]) (st' := []) (u' := (xU r21)) [(.bipush (-9), (0, 0, 0), -9, 0), (.istore_n 1, (0, 0, 0), 0, 0), (.bipush 7, (0, 0, 0), 7, 0), (.istore_n 2, (0, 0, 0), 0, 0), (.iconst 0, (0, 0, 0), 0, 0), (.istore_n 3, (0, 0, 0), 0, 0)] (by decide +kernel) rfl ?_
    exact go_X3_fewest_L32 N N (-9 : Int32) (7 : Int32) (0 : Int32) r21
  · refine xm_blk0 (pc' := 12) (lv' := [(0, .ref 0)]) (st' := [.int (-4 : Int32)]) (u' := (xU u)) [(.bipush (-4), (0, 0, 0), -4, 0)] (by decide +kernel) rfl ?_
    exact xm_iret (pc := 12) (by decide +kernel) rfl rfl
theorem ev_X3_fewest (N : Nat) (u : xN) : ∀ r, f_X3_fewest N u = some r → xEm md_X3_fewest yX3_fewest [.ref 0] (xU u) (some (.int r.1), xU r.2) := xm_met (res := rsM) (as := [.ref 0]) (go_X3_fewest N u) (by decide) rfl (Nat.le_of_ble_eq_true rfl)
theorem mw_X3_nearest : xMv yX3_nearest cX3_nearest 5 (some .int) 0 := xMv_of (p1 := 603) (p2 := 601) (p3 := 92) (p4 := 602) (by decide +kernel)
/-! NeitherBare.nearest()I (0,) -/
abbrev md_X3_nearest : xMd := (cX3_nearest, RX3, 5, some .int, 7)
def f_X3_nearest_L71 (N : Nat) (rec30 : Int32 → Int32 → Int32 → xN → Option (Int32 × xN)) (v1 : Int32) (v2 : Int32) (v3 : Int32) (u : xN) : Option (Int32 × xN) := rec30 v1 v2 (v3 + (1 : Int32)) u
set_option maxRecDepth 20000 in
theorem go_X3_nearest_L71 (N : Nat) (rec30 : Int32 → Int32 → Int32 → xN → Option (Int32 × xN)) (h30 : ∀ (v1 : Int32) (v2 : Int32) (v3 : Int32) (u : xN), xGm md_X3_nearest rsM (rec30 v1 v2 v3 u) 30 [(0, .ref 0), (1, .int v1), (2, .int v2), (3, .int v3)] [] (xU u)) (v1 : Int32) (v2 : Int32) (v3 : Int32) (u : xN) : xGm md_X3_nearest rsM (f_X3_nearest_L71 N rec30 v1 v2 v3 u) 71 [(0, .ref 0), (1, .int v1), (2, .int v2), (3, .int v3)] [] (xU u) := by
  unfold f_X3_nearest_L71
  refine xm_blk0 (pc' := 74) (lv' := [(0, .ref 0), (1, .int v1), (2, .int v2), (3, .int (v3 + (1 : Int32)))]) (st' := []) (u' := (xU u)) [(.iinc 3 1, (0, 0, 0), 1, 0)] (by decide +kernel) rfl ?_
  refine xm_goto (pc := 74) (off := -44) (tgt := 30) (by decide +kernel) (by decide) ?_
  exact h30 v1 v2 (v3 + (1 : Int32)) u
def f_X3_nearest_L30b (N : Nat) (rec30 : Int32 → Int32 → Int32 → xN → Option (Int32 × xN)) (v1 : Int32) (v2 : Int32) (v3 : Int32) (u : xN) : Option (Int32 × xN) := Option.bind (f_X0_ways_7 u) (fun r35 => if r35 ≤ v3 then some (v1, mI u 0 10 v2) else gdl [inb v3 64] (Option.bind (f_J6_bitCount_0f7a4 ((u.1 36 (Int32.toNatClampNeg v3)) &&& (u.1 19 1))) (fun r55 => if r55 ≤ v2 then f_X3_nearest_L71 N rec30 v1 v2 v3 u else f_X3_nearest_L71 N rec30 v3 r55 v3 u)))
set_option maxRecDepth 20000 in
theorem go_X3_nearest_L30b (N : Nat) (rec30 : Int32 → Int32 → Int32 → xN → Option (Int32 × xN)) (h30 : ∀ (v1 : Int32) (v2 : Int32) (v3 : Int32) (u : xN), xGm md_X3_nearest rsM (rec30 v1 v2 v3 u) 30 [(0, .ref 0), (1, .int v1), (2, .int v2), (3, .int v3)] [] (xU u)) (v1 : Int32) (v2 : Int32) (v3 : Int32) (u : xN) : xGm md_X3_nearest rsM (f_X3_nearest_L30b N rec30 v1 v2 v3 u) 30 [(0, .ref 0), (1, .int v1), (2, .int v2), (3, .int v3)] [] (xU u) := by
  unfold f_X3_nearest_L30b
  refine xm_blk0 (pc' := 35) (lv' := [(0, .ref 0), (1, .int v1), (2, .int v2), (3, .int v3)]) (st' := [.ref 7, .int v3]) (u' := (xU u)) [(.iload_n 3, (0, 0, 0), 0, 0), (.aload_n 0, (0, 0, 0), 0, 0), (.getfield 24, (3, 2, 208), 0, 0)] (by decide +kernel) rfl ?_
  refine xm_Vi (pc := 35) (mz := md_X0_ways_7) (idx := 231) (p1 := 430) (a := 7) (as := []) (st := [.int v3]) (ev_X0_ways_7 u) mw_X0_ways (by decide +kernel) (by decide +kernel) (by decide) rfl rfl (by decide) rfl (Nat.le_of_ble_eq_true rfl) (fun r35 => ?_)
  refine xm_icmp_ge (pc := 38) (off := 39) (tgt := 77) (by decide +kernel) (by decide) ?_ ?_
  · refine xm_blk0 (pc' := 83) (lv' := [(0, .ref 0), (1, .int v1), (2, .int v2), (3, .int v3)]) (st' := [.int v1]) (u' := (xU (mI u 0 10 v2))) [(.aload_n 0, (0, 0, 0), 0, 0), (.iload_n 2, (0, 0, 0), 0, 0), (.putfield 71, (3, 10, 216), 0, 0), (.iload_n 1, (0, 0, 0), 0, 0)] (by decide +kernel) rfl ?_
    exact xm_iret (pc := 83) (by decide +kernel) rfl rfl
  · refine xm_blk (bs := [inb v3 64]) (pc' := 55) (lv' := [(0, .ref 0), (1, .int v1), (2, .int v2), (3, .int v3)]) (st' := [.int ((u.1 36 (Int32.toNatClampNeg v3)) &&& (u.1 19 1))]) (u' := (xU u)) [(.aload_n 0, (0, 0, 0), 0, 0), (.getfield 42, (3, 6, 212), 0, 0), (.iload_n 3, (0, 0, 0), 0, 0), (.iaload, (0, 0, 0), 0, 0), (.aload_n 0, (0, 0, 0), 0, 0), (.getfield 34, (3, 4, 210), 0, 0), (.getfield 183, (2, 1, 181), 0, 0), (.iand, (0, 0, 0), 0, 0)] (by decide +kernel) rfl ?_
    refine xm_Si (pc := 55) (mz := md_J6_bitCount_0f7a4) (idx := 186) (p1 := 509) (as := [.int ((u.1 36 (Int32.toNatClampNeg v3)) &&& (u.1 19 1))]) (st := []) (ev_J6_bitCount_0f7a4 ((u.1 36 (Int32.toNatClampNeg v3)) &&& (u.1 19 1)) u) mw_J6_bitCount_0f7a4 (by decide +kernel) (by decide +kernel) (by decide) rfl (Nat.le_of_ble_eq_true rfl) (fun r55 => ?_)
    refine xm_blk0 (pc' := 63) (lv' := [(0, .ref 0), (1, .int v1), (2, .int v2), (3, .int v3), (4, .int r55)]) (st' := [.int v2, .int r55]) (u' := (xU u)) [(.istore 4, (0, 0, 0), 0, 0), (.iload 4, (0, 0, 0), 0, 0), (.iload_n 2, (0, 0, 0), 0, 0)] (by decide +kernel) rfl ?_
    refine xm_icmp_le (pc := 63) (off := 8) (tgt := 71) (by decide +kernel) (by decide) ?_ ?_
    · refine xm_wk [0, 1, 2, 3] (lv' := [(0, .ref 0), (1, .int v1), (2, .int v2), (3, .int v3)]) rfl ?_
      exact go_X3_nearest_L71 N rec30 h30 v1 v2 v3 u
    · refine xm_blk0 (pc' := 71) (lv' := [(0, .ref 0), (1, .int v3), (2, .int r55), (3, .int v3), (4, .int r55)]) (st' := []) (u' := (xU u)) [(.iload_n 3, (0, 0, 0), 0, 0), (.istore_n 1, (0, 0, 0), 0, 0), (.iload 4, (0, 0, 0), 0, 0), (.istore_n 2, (0, 0, 0), 0, 0)] (by decide +kernel) rfl ?_
      refine xm_wk [0, 1, 2, 3] (lv' := [(0, .ref 0), (1, .int v3), (2, .int r55), (3, .int v3)]) rfl ?_
      exact go_X3_nearest_L71 N rec30 h30 v3 r55 v3 u
def f_X3_nearest_L30 (N : Nat) : Nat → Int32 → Int32 → Int32 → xN → Option (Int32 × xN)
  | 0 => fun _ _ _ _ => none
  | n + 1 => fun v1 v2 v3 u => f_X3_nearest_L30b N (f_X3_nearest_L30 N n) v1 v2 v3 u
theorem go_X3_nearest_L30 (N : Nat) : ∀ (n : Nat) (v1 : Int32) (v2 : Int32) (v3 : Int32) (u : xN), xGm md_X3_nearest rsM (f_X3_nearest_L30 N n v1 v2 v3 u) 30 [(0, .ref 0), (1, .int v1), (2, .int v2), (3, .int v3)] [] (xU u) := by
  intro n
  induction n with
  | zero => intro v1 v2 v3 u; exact xm_none
  | succ n ih => intro v1 v2 v3 u; exact go_X3_nearest_L30b N _ ih v1 v2 v3 u
def f_X3_nearest (N : Nat) (u : xN) : Option (Int32 × xN) := if (u.1 7 0) = (0 : Int32) then some ((-4 : Int32), u) else Option.bind (f_X3_judgeWays_20 N u) (fun r21 => f_X3_nearest_L30 N N (0 : Int32) (-1 : Int32) (0 : Int32) r21)
set_option maxRecDepth 20000 in
theorem go_X3_nearest (N : Nat) (u : xN) : xGm md_X3_nearest rsM (f_X3_nearest N u) 0 [(0, .ref 0)] [] (xU u) := by
  unfold f_X3_nearest
  refine xm_blk0 (pc' := 7) (lv' := [(0, .ref 0)]) (st' := [.int (u.1 7 0)]) (u' := (xU u)) [(.aload_n 0, (0, 0, 0), 0, 0), (.getfield 24, (3, 2, 208), 0, 0), (.getfield 119, (0, 0, 143), 0, 0)] (by decide +kernel) rfl ?_
  refine xm_if_ne (pc := 7) (off := 6) (tgt := 13) (by decide +kernel) (by decide) ?_ ?_
  · refine xm_blk0 (pc' := 21) (lv' := [(0, .ref 0)]) (st' := [.ref 20, .ref 0]) (u' := (xU u)) [(.aload_n 0, (0, 0, 0), 0, 0), (.aload_n 0, (0, 0, 0), 0, 0), (.getfield 34, (3, 4, 210), 0, 0), (.getfield 170, (2, 3, 185), 0, 0)] (by decide +kernel) rfl ?_
    refine xm_Vv (pc := 21) (mz := md_X3_judgeWays_20) (idx := 227) (p1 := 583) (a := 0) (as := [.ref 20]) (st := []) (ev_X3_judgeWays_20 N u) mw_X3_judgeWays (by decide +kernel) (by decide +kernel) (by decide) rfl rfl (by decide) rfl (Nat.le_of_ble_eq_true rfl) (fun r21 => ?_)
    refine xm_blk0 (pc' := 30) (lv' := [(0, .ref 0), (1, .int (0 : Int32)), (2, .int (-1 : Int32)), (3, .int (0 : Int32))]) (st' := []) (u' := (xU r21)) [(.iconst 0, (0, 0, 0), 0, 0), (.istore_n 1, (0, 0, 0), 0, 0), (.iconst (-1), (0, 0, 0), -1, 0), (.istore_n 2, (0, 0, 0), 0, 0), (.iconst 0, (0, 0, 0), 0, 0), (.istore_n 3, (0, 0, 0), 0, 0)] (by decide +kernel) rfl ?_
    exact go_X3_nearest_L30 N N (0 : Int32) (-1 : Int32) (0 : Int32) r21
  · refine xm_blk0 (pc' := 12) (lv' := [(0, .ref 0)]) (st' := [.int (-4 : Int32)]) (u' := (xU u)) [(.bipush (-4), (0, 0, 0), -4, 0)] (by decide +kernel) rfl ?_
    exact xm_iret (pc := 12) (by decide +kernel) rfl rfl
theorem ev_X3_nearest (N : Nat) (u : xN) : ∀ r, f_X3_nearest N u = some r → xEm md_X3_nearest yX3_nearest [.ref 0] (xU u) (some (.int r.1), xU r.2) := xm_met (res := rsM) (as := [.ref 0]) (go_X3_nearest N u) (by decide) rfl (Nat.le_of_ble_eq_true rfl)
theorem mw_X3_isGood : xMv yX3_isGood cX3_isGood 2 (some .boolean) 1 := xMv_of (p1 := 611) (p2 := 610) (p3 := 92) (p4 := 23) (by decide +kernel)
/-! NeitherBare.isGood(I)Z (0, None) -/
abbrev md_X3_isGood : xMd := (cX3_isGood, RX3, 2, some .boolean, 6)
def f_X3_isGood (N : Nat) (a1 : Int32) (u : xN) : Option Int32 := Option.bind (f_X0_heldBy_7_20 N a1 u) (fun r12 => Option.bind (f_X3_isMet r12 (u.1 19 1)) (fun r22 => gdl [isb r22] (some r22)))
set_option maxRecDepth 20000 in
theorem go_X3_isGood (N : Nat) (a1 : Int32) (u : xN) : xGm md_X3_isGood (rsI (xU u)) (f_X3_isGood N a1 u) 0 [(0, .ref 0), (1, .int a1)] [] (xU u) := by
  unfold f_X3_isGood
  refine xm_blk0 (pc' := 12) (lv' := [(0, .ref 0), (1, .int a1)]) (st' := [.ref 20, .int a1, .ref 7]) (u' := (xU u)) [(.aload_n 0, (0, 0, 0), 0, 0), (.getfield 24, (3, 2, 208), 0, 0), (.iload_n 1, (0, 0, 0), 0, 0), (.aload_n 0, (0, 0, 0), 0, 0), (.getfield 34, (3, 4, 210), 0, 0), (.getfield 170, (2, 3, 185), 0, 0)] (by decide +kernel) rfl ?_
  refine xm_Vi (pc := 12) (mz := md_X0_heldBy_7_20) (idx := 220) (p1 := 571) (a := 7) (as := [.int a1, .ref 20]) (st := []) (ev_X0_heldBy_7_20 N a1 u) mw_X0_heldBy (by decide +kernel) (by decide +kernel) (by decide) rfl rfl (by decide) rfl (Nat.le_of_ble_eq_true rfl) (fun r12 => ?_)
  refine xm_blk0 (pc' := 22) (lv' := [(0, .ref 0), (1, .int a1)]) (st' := [.int (u.1 19 1), .int r12]) (u' := (xU u)) [(.aload_n 0, (0, 0, 0), 0, 0), (.getfield 34, (3, 4, 210), 0, 0), (.getfield 183, (2, 1, 181), 0, 0)] (by decide +kernel) rfl ?_
  refine xm_Si (pc := 22) (mz := md_X3_isMet) (idx := 224) (p1 := 576) (as := [.int r12, .int (u.1 19 1)]) (st := []) (ev_X3_isMet r12 (u.1 19 1) u) mw_X3_isMet (by decide +kernel) (by decide +kernel) (by decide) rfl (Nat.le_of_ble_eq_true rfl) (fun r22 => ?_)
  exact xm_zret (pc := 25) (by decide +kernel) rfl rfl
theorem ev_X3_isGood (N : Nat) (a1 : Int32) (u : xN) : ∀ r, f_X3_isGood N a1 u = some r → xEm md_X3_isGood yX3_isGood [.ref 0, .int a1] (xU u) (some (.int r), (xU u)) := xm_met (res := (rsI (xU u))) (as := [.ref 0, .int a1]) (go_X3_isGood N a1 u) (by decide) rfl (Nat.le_of_ble_eq_true rfl)
theorem mw_X3_tight : xMv yX3_tight cX3_tight 3 (some .int) 1 := xMv_of (p1 := 607) (p2 := 605) (p3 := 92) (p4 := 606) (by decide +kernel)
/-! NeitherBare.tight(I)I (0, None) -/
abbrev md_X3_tight : xMd := (cX3_tight, RX3, 3, some .int, 7)
def f_X3_tight_L60 (N : Nat) (u : xN) (rec25 : Int32 → Int32 → Option Int32) (v1 : Int32) (v2 : Int32) : Option Int32 := rec25 v1 (v2 + (1 : Int32))
set_option maxRecDepth 20000 in
theorem go_X3_tight_L60 (N : Nat) (u : xN) (rec25 : Int32 → Int32 → Option Int32) (h25 : ∀ (v1 : Int32) (v2 : Int32), xGm md_X3_tight (rsI (xU u)) (rec25 v1 v2) 25 [(0, .ref 0), (1, .int v1), (2, .int v2)] [] (xU u)) (v1 : Int32) (v2 : Int32) : xGm md_X3_tight (rsI (xU u)) (f_X3_tight_L60 N u rec25 v1 v2) 60 [(0, .ref 0), (1, .int v1), (2, .int v2)] [] (xU u) := by
  unfold f_X3_tight_L60
  refine xm_blk0 (pc' := 63) (lv' := [(0, .ref 0), (1, .int v1), (2, .int (v2 + (1 : Int32)))]) (st' := []) (u' := (xU u)) [(.iinc 2 1, (0, 0, 0), 1, 0)] (by decide +kernel) rfl ?_
  refine xm_goto (pc := 63) (off := -38) (tgt := 25) (by decide +kernel) (by decide) ?_
  exact h25 v1 (v2 + (1 : Int32))
def f_X3_tight_L25b (N : Nat) (u : xN) (rec25 : Int32 → Int32 → Option Int32) (v1 : Int32) (v2 : Int32) : Option Int32 := if (u.1 7 0) ≤ v2 then some (1 : Int32) else Option.bind (f_X3_hasBit v1 v2) (fun r38 => if r38 = (0 : Int32) then f_X3_tight_L60 N u rec25 v1 v2 else Option.bind (f_X3_isGood N (v1 &&& (((1 : Int32) <<< (v2 &&& 31)) ^^^ (-1 : Int32))) u) (fun r52 => if r52 = (0 : Int32) then f_X3_tight_L60 N u rec25 v1 v2 else some (0 : Int32)))
set_option maxRecDepth 20000 in
theorem go_X3_tight_L25b (N : Nat) (u : xN) (rec25 : Int32 → Int32 → Option Int32) (h25 : ∀ (v1 : Int32) (v2 : Int32), xGm md_X3_tight (rsI (xU u)) (rec25 v1 v2) 25 [(0, .ref 0), (1, .int v1), (2, .int v2)] [] (xU u)) (v1 : Int32) (v2 : Int32) : xGm md_X3_tight (rsI (xU u)) (f_X3_tight_L25b N u rec25 v1 v2) 25 [(0, .ref 0), (1, .int v1), (2, .int v2)] [] (xU u) := by
  unfold f_X3_tight_L25b
  refine xm_blk0 (pc' := 33) (lv' := [(0, .ref 0), (1, .int v1), (2, .int v2)]) (st' := [.int (u.1 7 0), .int v2]) (u' := (xU u)) [(.iload_n 2, (0, 0, 0), 0, 0), (.aload_n 0, (0, 0, 0), 0, 0), (.getfield 24, (3, 2, 208), 0, 0), (.getfield 119, (0, 0, 143), 0, 0)] (by decide +kernel) rfl ?_
  refine xm_icmp_ge (pc := 33) (off := 33) (tgt := 66) (by decide +kernel) (by decide) ?_ ?_
  · refine xm_blk0 (pc' := 67) (lv' := [(0, .ref 0), (1, .int v1), (2, .int v2)]) (st' := [.int (1 : Int32)]) (u' := (xU u)) [(.iconst 1, (0, 0, 0), 1, 0)] (by decide +kernel) rfl ?_
    exact xm_iret (pc := 67) (by decide +kernel) rfl rfl
  · refine xm_blk0 (pc' := 38) (lv' := [(0, .ref 0), (1, .int v1), (2, .int v2)]) (st' := [.int v2, .int v1]) (u' := (xU u)) [(.iload_n 1, (0, 0, 0), 0, 0), (.iload_n 2, (0, 0, 0), 0, 0)] (by decide +kernel) rfl ?_
    refine xm_Si (pc := 38) (mz := md_X3_hasBit) (idx := 241) (p1 := 612) (as := [.int v1, .int v2]) (st := []) (ev_X3_hasBit v1 v2 u) mw_X3_hasBit (by decide +kernel) (by decide +kernel) (by decide) rfl (Nat.le_of_ble_eq_true rfl) (fun r38 => ?_)
    refine xm_if_eq (pc := 41) (off := 19) (tgt := 60) (by decide +kernel) (by decide) ?_ ?_
    · exact go_X3_tight_L60 N u rec25 h25 v1 v2
    · refine xm_blk0 (pc' := 52) (lv' := [(0, .ref 0), (1, .int v1), (2, .int v2)]) (st' := [.int (v1 &&& (((1 : Int32) <<< (v2 &&& 31)) ^^^ (-1 : Int32))), .ref 0]) (u' := (xU u)) [(.aload_n 0, (0, 0, 0), 0, 0), (.iload_n 1, (0, 0, 0), 0, 0), (.iconst 1, (0, 0, 0), 1, 0), (.iload_n 2, (0, 0, 0), 0, 0), (.ishl, (0, 0, 0), 0, 0), (.iconst (-1), (0, 0, 0), -1, 0), (.ixor, (0, 0, 0), 0, 0), (.iand, (0, 0, 0), 0, 0)] (by decide +kernel) rfl ?_
      refine xm_Vi (pc := 52) (mz := md_X3_isGood) (idx := 238) (p1 := 608) (a := 0) (as := [.int (v1 &&& (((1 : Int32) <<< (v2 &&& 31)) ^^^ (-1 : Int32)))]) (st := []) (ev_X3_isGood N (v1 &&& (((1 : Int32) <<< (v2 &&& 31)) ^^^ (-1 : Int32))) u) mw_X3_isGood (by decide +kernel) (by decide +kernel) (by decide) rfl rfl (by decide) rfl (Nat.le_of_ble_eq_true rfl) (fun r52 => ?_)
      refine xm_if_eq (pc := 55) (off := 5) (tgt := 60) (by decide +kernel) (by decide) ?_ ?_
      · exact go_X3_tight_L60 N u rec25 h25 v1 v2
      · refine xm_blk0 (pc' := 59) (lv' := [(0, .ref 0), (1, .int v1), (2, .int v2)]) (st' := [.int (0 : Int32)]) (u' := (xU u)) [(.iconst 0, (0, 0, 0), 0, 0)] (by decide +kernel) rfl ?_
        exact xm_iret (pc := 59) (by decide +kernel) rfl rfl
def f_X3_tight_L25 (N : Nat) (u : xN) : Nat → Int32 → Int32 → Option Int32
  | 0 => fun _ _ => none
  | n + 1 => fun v1 v2 => f_X3_tight_L25b N u (f_X3_tight_L25 N u n) v1 v2
theorem go_X3_tight_L25 (N : Nat) (u : xN) : ∀ (n : Nat) (v1 : Int32) (v2 : Int32), xGm md_X3_tight (rsI (xU u)) (f_X3_tight_L25 N u n v1 v2) 25 [(0, .ref 0), (1, .int v1), (2, .int v2)] [] (xU u) := by
  intro n
  induction n with
  | zero => intro v1 v2; exact xm_none
  | succ n ih => intro v1 v2; exact go_X3_tight_L25b N u _ ih v1 v2
def f_X3_tight (N : Nat) (a1 : Int32) (u : xN) : Option Int32 := Option.bind (f_X0_isWay_7 a1 u) (fun r5 => if r5 = (0 : Int32) then some (-1 : Int32) else Option.bind (f_X3_isGood N a1 u) (fun r15 => if r15 = (0 : Int32) then some (0 : Int32) else f_X3_tight_L25 N u N a1 (0 : Int32)))
set_option maxRecDepth 20000 in
theorem go_X3_tight (N : Nat) (a1 : Int32) (u : xN) : xGm md_X3_tight (rsI (xU u)) (f_X3_tight N a1 u) 0 [(0, .ref 0), (1, .int a1)] [] (xU u) := by
  unfold f_X3_tight
  refine xm_blk0 (pc' := 5) (lv' := [(0, .ref 0), (1, .int a1)]) (st' := [.int a1, .ref 7]) (u' := (xU u)) [(.aload_n 0, (0, 0, 0), 0, 0), (.getfield 24, (3, 2, 208), 0, 0), (.iload_n 1, (0, 0, 0), 0, 0)] (by decide +kernel) rfl ?_
  refine xm_Vi (pc := 5) (mz := md_X0_isWay_7) (idx := 211) (p1 := 558) (a := 7) (as := [.int a1]) (st := []) (ev_X0_isWay_7 a1 u) mw_X0_isWay (by decide +kernel) (by decide +kernel) (by decide) rfl rfl (by decide) rfl (Nat.le_of_ble_eq_true rfl) (fun r5 => ?_)
  refine xm_if_ne (pc := 8) (off := 5) (tgt := 13) (by decide +kernel) (by decide) ?_ ?_
  · refine xm_blk0 (pc' := 15) (lv' := [(0, .ref 0), (1, .int a1)]) (st' := [.int a1, .ref 0]) (u' := (xU u)) [(.aload_n 0, (0, 0, 0), 0, 0), (.iload_n 1, (0, 0, 0), 0, 0)] (by decide +kernel) rfl ?_
    refine xm_Vi (pc := 15) (mz := md_X3_isGood) (idx := 238) (p1 := 608) (a := 0) (as := [.int a1]) (st := []) (ev_X3_isGood N a1 u) mw_X3_isGood (by decide +kernel) (by decide +kernel) (by decide) rfl rfl (by decide) rfl (Nat.le_of_ble_eq_true rfl) (fun r15 => ?_)
    refine xm_if_ne (pc := 18) (off := 5) (tgt := 23) (by decide +kernel) (by decide) ?_ ?_
    · refine xm_blk0 (pc' := 25) (lv' := [(0, .ref 0), (1, .int a1), (2, .int (0 : Int32))]) (st' := []) (u' := (xU u)) [(.iconst 0, (0, 0, 0), 0, 0), (.istore_n 2, (0, 0, 0), 0, 0)] (by decide +kernel) rfl ?_
      exact go_X3_tight_L25 N u N a1 (0 : Int32)
    · refine xm_blk0 (pc' := 22) (lv' := [(0, .ref 0), (1, .int a1)]) (st' := [.int (0 : Int32)]) (u' := (xU u)) [(.iconst 0, (0, 0, 0), 0, 0)] (by decide +kernel) rfl ?_
      exact xm_iret (pc := 22) (by decide +kernel) rfl rfl
  · refine xm_blk0 (pc' := 12) (lv' := [(0, .ref 0), (1, .int a1)]) (st' := [.int (-1 : Int32)]) (u' := (xU u)) [(.iconst (-1), (0, 0, 0), -1, 0)] (by decide +kernel) rfl ?_
    exact xm_iret (pc := 12) (by decide +kernel) rfl rfl
theorem ev_X3_tight (N : Nat) (a1 : Int32) (u : xN) : ∀ r, f_X3_tight N a1 u = some r → xEm md_X3_tight yX3_tight [.ref 0, .int a1] (xU u) (some (.int r), (xU u)) := xm_met (res := (rsI (xU u))) (as := [.ref 0, .int a1]) (go_X3_tight N a1 u) (by decide) rfl (Nat.le_of_ble_eq_true rfl)
theorem mw_X0_clauseSets : xMv yX0_clauseSets cX0_clauseSets 1 (some .int) 0 := xMv_of (p1 := 620) (p2 := 618) (p3 := 95) (p4 := 619) (by decide +kernel)
/-! NeitherBare$Court.clauseSets()I (7,) -/
abbrev md_X0_clauseSets_7 : xMd := (cX0_clauseSets, RX0, 1, some .int, 1)
def f_X0_clauseSets_7 (u : xN) : Option Int32 := some ((1 : Int32) <<< ((u.1 7 1) &&& 31))
set_option maxRecDepth 20000 in
theorem go_X0_clauseSets_7 (u : xN) : xGm md_X0_clauseSets_7 (rsI (xU u)) (f_X0_clauseSets_7 u) 0 [(0, .ref 7)] [] (xU u) := by
  unfold f_X0_clauseSets_7
  refine xm_blk0 (pc' := 6) (lv' := [(0, .ref 7)]) (st' := [.int ((1 : Int32) <<< ((u.1 7 1) &&& 31))]) (u' := (xU u)) [(.iconst 1, (0, 0, 0), 1, 0), (.aload_n 0, (0, 0, 0), 0, 0), (.getfield 31, (0, 1, 144), 0, 0), (.ishl, (0, 0, 0), 0, 0)] (by decide +kernel) rfl ?_
  exact xm_iret (pc := 6) (by decide +kernel) rfl rfl
theorem ev_X0_clauseSets_7 (u : xN) : ∀ r, f_X0_clauseSets_7 u = some r → xEm md_X0_clauseSets_7 yX0_clauseSets [.ref 7] (xU u) (some (.int r), (xU u)) := xm_met (res := (rsI (xU u))) (as := [.ref 7]) (go_X0_clauseSets_7 u) (by decide) rfl (Nat.le_of_ble_eq_true rfl)
theorem mw_X3_isClash : xMv yX3_isClash cX3_isClash 3 (some .boolean) 1 := xMv_of (p1 := 624) (p2 := 623) (p3 := 92) (p4 := 24) (by decide +kernel)
/-! NeitherBare.isClash(I)Z (0, None) -/
abbrev md_X3_isClash : xMd := (cX3_isClash, RX3, 3, some .boolean, 2)
def f_X3_isClash_L2b (N : Nat) (u : xN) (rec2 : Int32 → Int32 → Option Int32) (v1 : Int32) (v2 : Int32) : Option Int32 := Option.bind (f_X0_ways_7 u) (fun r7 => if r7 ≤ v2 then some (1 : Int32) else gdl [inb v2 64] (Option.bind (f_X3_isMet (u.1 36 (Int32.toNatClampNeg v2)) v1) (fun r20 => if r20 = (0 : Int32) then rec2 v1 (v2 + (1 : Int32)) else some (0 : Int32))))
set_option maxRecDepth 20000 in
theorem go_X3_isClash_L2b (N : Nat) (u : xN) (rec2 : Int32 → Int32 → Option Int32) (h2 : ∀ (v1 : Int32) (v2 : Int32), xGm md_X3_isClash (rsI (xU u)) (rec2 v1 v2) 2 [(0, .ref 0), (1, .int v1), (2, .int v2)] [] (xU u)) (v1 : Int32) (v2 : Int32) : xGm md_X3_isClash (rsI (xU u)) (f_X3_isClash_L2b N u rec2 v1 v2) 2 [(0, .ref 0), (1, .int v1), (2, .int v2)] [] (xU u) := by
  unfold f_X3_isClash_L2b
  refine xm_blk0 (pc' := 7) (lv' := [(0, .ref 0), (1, .int v1), (2, .int v2)]) (st' := [.ref 7, .int v2]) (u' := (xU u)) [(.iload_n 2, (0, 0, 0), 0, 0), (.aload_n 0, (0, 0, 0), 0, 0), (.getfield 24, (3, 2, 208), 0, 0)] (by decide +kernel) rfl ?_
  refine xm_Vi (pc := 7) (mz := md_X0_ways_7) (idx := 231) (p1 := 430) (a := 7) (as := []) (st := [.int v2]) (ev_X0_ways_7 u) mw_X0_ways (by decide +kernel) (by decide +kernel) (by decide) rfl rfl (by decide) rfl (Nat.le_of_ble_eq_true rfl) (fun r7 => ?_)
  refine xm_icmp_ge (pc := 10) (off := 24) (tgt := 34) (by decide +kernel) (by decide) ?_ ?_
  · refine xm_blk0 (pc' := 35) (lv' := [(0, .ref 0), (1, .int v1), (2, .int v2)]) (st' := [.int (1 : Int32)]) (u' := (xU u)) [(.iconst 1, (0, 0, 0), 1, 0)] (by decide +kernel) rfl ?_
    exact xm_zret0 (pc := 35) (by decide +kernel) rfl (by decide) rfl
  · refine xm_blk (bs := [inb v2 64]) (pc' := 20) (lv' := [(0, .ref 0), (1, .int v1), (2, .int v2)]) (st' := [.int v1, .int (u.1 36 (Int32.toNatClampNeg v2))]) (u' := (xU u)) [(.aload_n 0, (0, 0, 0), 0, 0), (.getfield 42, (3, 6, 212), 0, 0), (.iload_n 2, (0, 0, 0), 0, 0), (.iaload, (0, 0, 0), 0, 0), (.iload_n 1, (0, 0, 0), 0, 0)] (by decide +kernel) rfl ?_
    refine xm_Si (pc := 20) (mz := md_X3_isMet) (idx := 224) (p1 := 576) (as := [.int (u.1 36 (Int32.toNatClampNeg v2)), .int v1]) (st := []) (ev_X3_isMet (u.1 36 (Int32.toNatClampNeg v2)) v1 u) mw_X3_isMet (by decide +kernel) (by decide +kernel) (by decide) rfl (Nat.le_of_ble_eq_true rfl) (fun r20 => ?_)
    refine xm_if_eq (pc := 23) (off := 5) (tgt := 28) (by decide +kernel) (by decide) ?_ ?_
    · refine xm_blk0 (pc' := 31) (lv' := [(0, .ref 0), (1, .int v1), (2, .int (v2 + (1 : Int32)))]) (st' := []) (u' := (xU u)) [(.iinc 2 1, (0, 0, 0), 1, 0)] (by decide +kernel) rfl ?_
      refine xm_goto (pc := 31) (off := -29) (tgt := 2) (by decide +kernel) (by decide) ?_
      exact h2 v1 (v2 + (1 : Int32))
    · refine xm_blk0 (pc' := 27) (lv' := [(0, .ref 0), (1, .int v1), (2, .int v2)]) (st' := [.int (0 : Int32)]) (u' := (xU u)) [(.iconst 0, (0, 0, 0), 0, 0)] (by decide +kernel) rfl ?_
      exact xm_zret0 (pc := 27) (by decide +kernel) rfl (by decide) rfl
def f_X3_isClash_L2 (N : Nat) (u : xN) : Nat → Int32 → Int32 → Option Int32
  | 0 => fun _ _ => none
  | n + 1 => fun v1 v2 => f_X3_isClash_L2b N u (f_X3_isClash_L2 N u n) v1 v2
theorem go_X3_isClash_L2 (N : Nat) (u : xN) : ∀ (n : Nat) (v1 : Int32) (v2 : Int32), xGm md_X3_isClash (rsI (xU u)) (f_X3_isClash_L2 N u n v1 v2) 2 [(0, .ref 0), (1, .int v1), (2, .int v2)] [] (xU u) := by
  intro n
  induction n with
  | zero => intro v1 v2; exact xm_none
  | succ n ih => intro v1 v2; exact go_X3_isClash_L2b N u _ ih v1 v2
def f_X3_isClash (N : Nat) (a1 : Int32) (u : xN) : Option Int32 := f_X3_isClash_L2 N u N a1 (0 : Int32)
set_option maxRecDepth 20000 in
theorem go_X3_isClash (N : Nat) (a1 : Int32) (u : xN) : xGm md_X3_isClash (rsI (xU u)) (f_X3_isClash N a1 u) 0 [(0, .ref 0), (1, .int a1)] [] (xU u) := by
  unfold f_X3_isClash
  refine xm_blk0 (pc' := 2) (lv' := [(0, .ref 0), (1, .int a1), (2, .int (0 : Int32))]) (st' := []) (u' := (xU u)) [(.iconst 0, (0, 0, 0), 0, 0), (.istore_n 2, (0, 0, 0), 0, 0)] (by decide +kernel) rfl ?_
  exact go_X3_isClash_L2 N u N a1 (0 : Int32)
theorem ev_X3_isClash (N : Nat) (a1 : Int32) (u : xN) : ∀ r, f_X3_isClash N a1 u = some r → xEm md_X3_isClash yX3_isClash [.ref 0, .int a1] (xU u) (some (.int r), (xU u)) := xm_met (res := (rsI (xU u))) (as := [.ref 0, .int a1]) (go_X3_isClash N a1 u) (by decide) rfl (Nat.le_of_ble_eq_true rfl)
theorem mw_X3_clash : xMv yX3_clash cX3_clash 2 (some .int) 1 := xMv_of (p1 := 616) (p2 := 614) (p3 := 92) (p4 := 615) (by decide +kernel)
/-! NeitherBare.clash(I)I (0, None) -/
abbrev md_X3_clash : xMd := (cX3_clash, RX3, 2, some .int, 7)
def f_X3_clash_L15 (N : Nat) (u : xN) : Option (Int32 × xN) := some ((-1 : Int32), u)
set_option maxRecDepth 20000 in
theorem go_X3_clash_L15 (N : Nat) (u : xN) : xGm md_X3_clash rsM (f_X3_clash_L15 N u) 15 [] [] (xU u) := by
  unfold f_X3_clash_L15
  refine xm_blk0 (pc' := 16) (lv' := []) (st' := [.int (-1 : Int32)]) (u' := (xU u)) [(.iconst (-1), (0, 0, 0), -1, 0)] (by decide +kernel) rfl ?_
  exact xm_iret (pc := 16) (by decide +kernel) rfl rfl
def f_X3_clash_L54 (N : Nat) (t0 : Int32) (u : xN) : Option (Int32 × xN) := some (t0, u)
set_option maxRecDepth 20000 in
theorem go_X3_clash_L54 (N : Nat) (t0 : Int32) (u : xN) : xGm md_X3_clash rsM (f_X3_clash_L54 N t0 u) 54 [] [.int t0] (xU u) := by
  unfold f_X3_clash_L54
  exact xm_iret (pc := 54) (by decide +kernel) rfl rfl
def f_X3_clash (N : Nat) (a1 : Int32) (u : xN) : Option (Int32 × xN) := if a1 < (0 : Int32) then f_X3_clash_L15 N u else Option.bind (f_X0_clauseSets_7 u) (fun r9 => if a1 < r9 then (if (u.1 7 0) = (0 : Int32) then some ((-4 : Int32), u) else Option.bind (f_X3_judgeWays_20 N u) (fun r38 => Option.bind (f_X3_isClash N a1 r38) (fun r43 => if r43 = (0 : Int32) then f_X3_clash_L54 N (0 : Int32) r38 else f_X3_clash_L54 N (1 : Int32) r38))) else f_X3_clash_L15 N u)
set_option maxRecDepth 20000 in
theorem go_X3_clash (N : Nat) (a1 : Int32) (u : xN) : xGm md_X3_clash rsM (f_X3_clash N a1 u) 0 [(0, .ref 0), (1, .int a1)] [] (xU u) := by
  unfold f_X3_clash
  refine xm_blk0 (pc' := 1) (lv' := [(0, .ref 0), (1, .int a1)]) (st' := [.int a1]) (u' := (xU u)) [(.iload_n 1, (0, 0, 0), 0, 0)] (by decide +kernel) rfl ?_
  refine xm_if_lt (pc := 1) (off := 14) (tgt := 15) (by decide +kernel) (by decide) ?_ ?_
  · refine xm_wk [] (lv' := []) rfl ?_
    exact go_X3_clash_L15 N u
  · refine xm_blk0 (pc' := 9) (lv' := [(0, .ref 0), (1, .int a1)]) (st' := [.ref 7, .int a1]) (u' := (xU u)) [(.iload_n 1, (0, 0, 0), 0, 0), (.aload_n 0, (0, 0, 0), 0, 0), (.getfield 24, (3, 2, 208), 0, 0)] (by decide +kernel) rfl ?_
    refine xm_Vi (pc := 9) (mz := md_X0_clauseSets_7) (idx := 244) (p1 := 617) (a := 7) (as := []) (st := [.int a1]) (ev_X0_clauseSets_7 u) mw_X0_clauseSets (by decide +kernel) (by decide +kernel) (by decide) rfl rfl (by decide) rfl (Nat.le_of_ble_eq_true rfl) (fun r9 => ?_)
    refine xm_icmp_lt (pc := 12) (off := 5) (tgt := 17) (by decide +kernel) (by decide) ?_ ?_
    · refine xm_blk0 (pc' := 24) (lv' := [(0, .ref 0), (1, .int a1)]) (st' := [.int (u.1 7 0)]) (u' := (xU u)) [(.aload_n 0, (0, 0, 0), 0, 0), (.getfield 24, (3, 2, 208), 0, 0), (.getfield 119, (0, 0, 143), 0, 0)] (by decide +kernel) rfl ?_
      refine xm_if_ne (pc := 24) (off := 6) (tgt := 30) (by decide +kernel) (by decide) ?_ ?_
      · refine xm_blk0 (pc' := 38) (lv' := [(0, .ref 0), (1, .int a1)]) (st' := [.ref 20, .ref 0]) (u' := (xU u)) [(.aload_n 0, (0, 0, 0), 0, 0), (.aload_n 0, (0, 0, 0), 0, 0), (.getfield 34, (3, 4, 210), 0, 0), (.getfield 170, (2, 3, 185), 0, 0)] (by decide +kernel) rfl ?_
        refine xm_Vv (pc := 38) (mz := md_X3_judgeWays_20) (idx := 227) (p1 := 583) (a := 0) (as := [.ref 20]) (st := []) (ev_X3_judgeWays_20 N u) mw_X3_judgeWays (by decide +kernel) (by decide +kernel) (by decide) rfl rfl (by decide) rfl (Nat.le_of_ble_eq_true rfl) (fun r38 => ?_)
        refine xm_blk0 (pc' := 43) (lv' := [(0, .ref 0), (1, .int a1)]) (st' := [.int a1, .ref 0]) (u' := (xU r38)) [(.aload_n 0, (0, 0, 0), 0, 0), (.iload_n 1, (0, 0, 0), 0, 0)] (by decide +kernel) rfl ?_
        refine xm_Vi (pc := 43) (mz := md_X3_isClash) (idx := 247) (p1 := 621) (a := 0) (as := [.int a1]) (st := []) (ev_X3_isClash N a1 r38) mw_X3_isClash (by decide +kernel) (by decide +kernel) (by decide) rfl rfl (by decide) rfl (Nat.le_of_ble_eq_true rfl) (fun r43 => ?_)
        refine xm_if_eq (pc := 46) (off := 7) (tgt := 53) (by decide +kernel) (by decide) ?_ ?_
        · refine xm_blk0 (pc' := 54) (lv' := [(0, .ref 0), (1, .int a1)]) (st' := [.int (0 : Int32)]) (u' := (xU r38)) [(.iconst 0, (0, 0, 0), 0, 0)] (by decide +kernel) rfl ?_
          refine xm_wk [] (lv' := []) rfl ?_
          exact go_X3_clash_L54 N (0 : Int32) r38
        · refine xm_blk0 (pc' := 50) (lv' := [(0, .ref 0), (1, .int a1)]) (st' := [.int (1 : Int32)]) (u' := (xU r38)) [(.iconst 1, (0, 0, 0), 1, 0)] (by decide +kernel) rfl ?_
          refine xm_goto (pc := 50) (off := 4) (tgt := 54) (by decide +kernel) (by decide) ?_
          refine xm_wk [] (lv' := []) rfl ?_
          exact go_X3_clash_L54 N (1 : Int32) r38
      · refine xm_blk0 (pc' := 29) (lv' := [(0, .ref 0), (1, .int a1)]) (st' := [.int (-4 : Int32)]) (u' := (xU u)) [(.bipush (-4), (0, 0, 0), -4, 0)] (by decide +kernel) rfl ?_
        exact xm_iret (pc := 29) (by decide +kernel) rfl rfl
    · refine xm_wk [] (lv' := []) rfl ?_
      exact go_X3_clash_L15 N u
theorem ev_X3_clash (N : Nat) (a1 : Int32) (u : xN) : ∀ r, f_X3_clash N a1 u = some r → xEm md_X3_clash yX3_clash [.ref 0, .int a1] (xU u) (some (.int r.1), xU r.2) := xm_met (res := rsM) (as := [.ref 0, .int a1]) (go_X3_clash N a1 u) (by decide) rfl (Nat.le_of_ble_eq_true rfl)
theorem mw_X3_two : xMv yX3_two cX3_two 4 (some .int) 0 := xMv_of (p1 := 628) (p2 := 626) (p3 := 92) (p4 := 627) (by decide +kernel)
/-! NeitherBare.two()I (0,) -/
abbrev md_X3_two : xMd := (cX3_two, RX3, 4, some .int, 7)
def f_X3_two_L64 (N : Nat) (rec39 : Int32 → Int32 → Int32 → xN → Option (Int32 × xN)) (v1 : Int32) (v2 : Int32) (v3 : Int32) (u : xN) : Option (Int32 × xN) := rec39 v1 v2 (v3 + (-1 : Int32)) u
set_option maxRecDepth 20000 in
theorem go_X3_two_L64 (N : Nat) (rec39 : Int32 → Int32 → Int32 → xN → Option (Int32 × xN)) (h39 : ∀ (v1 : Int32) (v2 : Int32) (v3 : Int32) (u : xN), xGm md_X3_two rsM (rec39 v1 v2 v3 u) 39 [(0, .ref 0), (1, .int v1), (2, .int v2), (3, .int v3)] [] (xU u)) (v1 : Int32) (v2 : Int32) (v3 : Int32) (u : xN) : xGm md_X3_two rsM (f_X3_two_L64 N rec39 v1 v2 v3 u) 64 [(0, .ref 0), (1, .int v1), (2, .int v2), (3, .int v3)] [] (xU u) := by
  unfold f_X3_two_L64
  refine xm_blk0 (pc' := 67) (lv' := [(0, .ref 0), (1, .int v1), (2, .int v2), (3, .int (v3 + (-1 : Int32)))]) (st' := []) (u' := (xU u)) [(.iinc 3 (-1), (0, 0, 0), -1, 0)] (by decide +kernel) rfl ?_
  refine xm_goto (pc := 67) (off := -28) (tgt := 39) (by decide +kernel) (by decide) ?_
  exact h39 v1 v2 (v3 + (-1 : Int32)) u
def f_X3_two_L39b (N : Nat) (rec39 : Int32 → Int32 → Int32 → xN → Option (Int32 × xN)) (v1 : Int32) (v2 : Int32) (v3 : Int32) (u : xN) : Option (Int32 × xN) := if v3 ≤ (0 : Int32) then some (v1, mI u 0 10 v2) else Option.bind (f_J6_bitCount_0f7a4 v3) (fun r44 => if (2 : Int32) < r44 then f_X3_two_L64 N rec39 v1 v2 v3 u else Option.bind (f_X3_isClash N v3 u) (fun r53 => if r53 = (0 : Int32) then f_X3_two_L64 N rec39 v1 v2 v3 u else f_X3_two_L64 N rec39 v3 (v2 + (1 : Int32)) v3 u))
set_option maxRecDepth 20000 in
theorem go_X3_two_L39b (N : Nat) (rec39 : Int32 → Int32 → Int32 → xN → Option (Int32 × xN)) (h39 : ∀ (v1 : Int32) (v2 : Int32) (v3 : Int32) (u : xN), xGm md_X3_two rsM (rec39 v1 v2 v3 u) 39 [(0, .ref 0), (1, .int v1), (2, .int v2), (3, .int v3)] [] (xU u)) (v1 : Int32) (v2 : Int32) (v3 : Int32) (u : xN) : xGm md_X3_two rsM (f_X3_two_L39b N rec39 v1 v2 v3 u) 39 [(0, .ref 0), (1, .int v1), (2, .int v2), (3, .int v3)] [] (xU u) := by
  unfold f_X3_two_L39b
  refine xm_blk0 (pc' := 40) (lv' := [(0, .ref 0), (1, .int v1), (2, .int v2), (3, .int v3)]) (st' := [.int v3]) (u' := (xU u)) [(.iload_n 3, (0, 0, 0), 0, 0)] (by decide +kernel) rfl ?_
  refine xm_if_le (pc := 40) (off := 30) (tgt := 70) (by decide +kernel) (by decide) ?_ ?_
  · refine xm_blk0 (pc' := 76) (lv' := [(0, .ref 0), (1, .int v1), (2, .int v2), (3, .int v3)]) (st' := [.int v1]) (u' := (xU (mI u 0 10 v2))) [(.aload_n 0, (0, 0, 0), 0, 0), (.iload_n 2, (0, 0, 0), 0, 0), (.putfield 71, (3, 10, 216), 0, 0), (.iload_n 1, (0, 0, 0), 0, 0)] (by decide +kernel) rfl ?_
    exact xm_iret (pc := 76) (by decide +kernel) rfl rfl
  · refine xm_blk0 (pc' := 44) (lv' := [(0, .ref 0), (1, .int v1), (2, .int v2), (3, .int v3)]) (st' := [.int v3]) (u' := (xU u)) [(.iload_n 3, (0, 0, 0), 0, 0)] (by decide +kernel) rfl ?_
    refine xm_Si (pc := 44) (mz := md_J6_bitCount_0f7a4) (idx := 186) (p1 := 509) (as := [.int v3]) (st := []) (ev_J6_bitCount_0f7a4 v3 u) mw_J6_bitCount_0f7a4 (by decide +kernel) (by decide +kernel) (by decide) rfl (Nat.le_of_ble_eq_true rfl) (fun r44 => ?_)
    refine xm_blk0 (pc' := 48) (lv' := [(0, .ref 0), (1, .int v1), (2, .int v2), (3, .int v3)]) (st' := [.int (2 : Int32), .int r44]) (u' := (xU u)) [(.iconst 2, (0, 0, 0), 2, 0)] (by decide +kernel) rfl ?_
    refine xm_icmp_gt (pc := 48) (off := 16) (tgt := 64) (by decide +kernel) (by decide) ?_ ?_
    · exact go_X3_two_L64 N rec39 h39 v1 v2 v3 u
    · refine xm_blk0 (pc' := 53) (lv' := [(0, .ref 0), (1, .int v1), (2, .int v2), (3, .int v3)]) (st' := [.int v3, .ref 0]) (u' := (xU u)) [(.aload_n 0, (0, 0, 0), 0, 0), (.iload_n 3, (0, 0, 0), 0, 0)] (by decide +kernel) rfl ?_
      refine xm_Vi (pc := 53) (mz := md_X3_isClash) (idx := 247) (p1 := 621) (a := 0) (as := [.int v3]) (st := []) (ev_X3_isClash N v3 u) mw_X3_isClash (by decide +kernel) (by decide +kernel) (by decide) rfl rfl (by decide) rfl (Nat.le_of_ble_eq_true rfl) (fun r53 => ?_)
      refine xm_if_eq (pc := 56) (off := 8) (tgt := 64) (by decide +kernel) (by decide) ?_ ?_
      · exact go_X3_two_L64 N rec39 h39 v1 v2 v3 u
      · refine xm_blk0 (pc' := 64) (lv' := [(0, .ref 0), (1, .int v3), (2, .int (v2 + (1 : Int32))), (3, .int v3)]) (st' := []) (u' := (xU u)) [(.iload_n 3, (0, 0, 0), 0, 0), (.istore_n 1, (0, 0, 0), 0, 0), (.iinc 2 1, (0, 0, 0), 1, 0)] (by decide +kernel) rfl ?_
        exact go_X3_two_L64 N rec39 h39 v3 (v2 + (1 : Int32)) v3 u
def f_X3_two_L39 (N : Nat) : Nat → Int32 → Int32 → Int32 → xN → Option (Int32 × xN)
  | 0 => fun _ _ _ _ => none
  | n + 1 => fun v1 v2 v3 u => f_X3_two_L39b N (f_X3_two_L39 N n) v1 v2 v3 u
theorem go_X3_two_L39 (N : Nat) : ∀ (n : Nat) (v1 : Int32) (v2 : Int32) (v3 : Int32) (u : xN), xGm md_X3_two rsM (f_X3_two_L39 N n v1 v2 v3 u) 39 [(0, .ref 0), (1, .int v1), (2, .int v2), (3, .int v3)] [] (xU u) := by
  intro n
  induction n with
  | zero => intro v1 v2 v3 u; exact xm_none
  | succ n ih => intro v1 v2 v3 u; exact go_X3_two_L39b N _ ih v1 v2 v3 u
def f_X3_two (N : Nat) (u : xN) : Option (Int32 × xN) := if (u.1 7 0) = (0 : Int32) then some ((-4 : Int32), u) else Option.bind (f_X3_judgeWays_20 N u) (fun r21 => Option.bind (f_X0_clauseSets_7 r21) (fun r33 => f_X3_two_L39 N N (-9 : Int32) (0 : Int32) (r33 - (1 : Int32)) r21))
set_option maxRecDepth 20000 in
theorem go_X3_two (N : Nat) (u : xN) : xGm md_X3_two rsM (f_X3_two N u) 0 [(0, .ref 0)] [] (xU u) := by
  unfold f_X3_two
  refine xm_blk0 (pc' := 7) (lv' := [(0, .ref 0)]) (st' := [.int (u.1 7 0)]) (u' := (xU u)) [(.aload_n 0, (0, 0, 0), 0, 0), (.getfield 24, (3, 2, 208), 0, 0), (.getfield 119, (0, 0, 143), 0, 0)] (by decide +kernel) rfl ?_
  refine xm_if_ne (pc := 7) (off := 6) (tgt := 13) (by decide +kernel) (by decide) ?_ ?_
  · refine xm_blk0 (pc' := 21) (lv' := [(0, .ref 0)]) (st' := [.ref 20, .ref 0]) (u' := (xU u)) [(.aload_n 0, (0, 0, 0), 0, 0), (.aload_n 0, (0, 0, 0), 0, 0), (.getfield 34, (3, 4, 210), 0, 0), (.getfield 170, (2, 3, 185), 0, 0)] (by decide +kernel) rfl ?_
    refine xm_Vv (pc := 21) (mz := md_X3_judgeWays_20) (idx := 227) (p1 := 583) (a := 0) (as := [.ref 20]) (st := []) (ev_X3_judgeWays_20 N u) mw_X3_judgeWays (by decide +kernel) (by decide +kernel) (by decide) rfl rfl (by decide) rfl (Nat.le_of_ble_eq_true rfl) (fun r21 => ?_)
    refine xm_blk0 (pc' := 33) (lv' := [(0, .ref 0), (1, .int (-9 : Int32)), (2, .int (0 : Int32))]) (st' := [.ref 7]) (u' := (xU r21)) [(.bipush (-9), (0, 0, 0), -9, 0), (.istore_n 1, (0, 0, 0), 0, 0), (.iconst 0, (0, 0, 0), 0, 0), (.istore_n 2, (0, 0, 0), 0, 0), (.aload_n 0, (0, 0, 0), 0, 0), (.getfield 24, (3, 2, 208), 0, 0)] (by decide +kernel) rfl ?_
    refine xm_Vi (pc := 33) (mz := md_X0_clauseSets_7) (idx := 244) (p1 := 617) (a := 7) (as := []) (st := []) (ev_X0_clauseSets_7 r21) mw_X0_clauseSets (by decide +kernel) (by decide +kernel) (by decide) rfl rfl (by decide) rfl (Nat.le_of_ble_eq_true rfl) (fun r33 => ?_)
    refine xm_blk0 (pc' := 39) (lv' := [(0, .ref 0), (1, .int (-9 : Int32)), (2, .int (0 : Int32)), (3, .int (r33 - (1 : Int32)))]) (st' := []) (u' := (xU r21)) [(.iconst 1, (0, 0, 0), 1, 0), (.isub, (0, 0, 0), 0, 0), (.istore_n 3, (0, 0, 0), 0, 0)] (by decide +kernel) rfl ?_
    exact go_X3_two_L39 N N (-9 : Int32) (0 : Int32) (r33 - (1 : Int32)) r21
  · refine xm_blk0 (pc' := 12) (lv' := [(0, .ref 0)]) (st' := [.int (-4 : Int32)]) (u' := (xU u)) [(.bipush (-4), (0, 0, 0), -4, 0)] (by decide +kernel) rfl ?_
    exact xm_iret (pc := 12) (by decide +kernel) rfl rfl
theorem ev_X3_two (N : Nat) (u : xN) : ∀ r, f_X3_two N u = some r → xEm md_X3_two yX3_two [.ref 0] (xU u) (some (.int r.1), xU r.2) := xm_met (res := rsM) (as := [.ref 0]) (go_X3_two N u) (by decide) rfl (Nat.le_of_ble_eq_true rfl)
theorem mw_X3_least : xMv yX3_least cX3_least 5 (some .int) 0 := xMv_of (p1 := 632) (p2 := 630) (p3 := 92) (p4 := 631) (by decide +kernel)
/-! NeitherBare.least()I (0,) -/
abbrev md_X3_least : xMd := (cX3_least, RX3, 5, some .int, 7)
def f_X3_least_L68 (N : Nat) (rec32 : Int32 → Int32 → Int32 → xN → Option (Int32 × xN)) (v1 : Int32) (v2 : Int32) (v3 : Int32) (u : xN) : Option (Int32 × xN) := rec32 v1 v2 (v3 + (1 : Int32)) u
set_option maxRecDepth 20000 in
theorem go_X3_least_L68 (N : Nat) (rec32 : Int32 → Int32 → Int32 → xN → Option (Int32 × xN)) (h32 : ∀ (v1 : Int32) (v2 : Int32) (v3 : Int32) (u : xN), xGm md_X3_least rsM (rec32 v1 v2 v3 u) 32 [(0, .ref 0), (1, .int v1), (2, .int v2), (3, .int v3)] [] (xU u)) (v1 : Int32) (v2 : Int32) (v3 : Int32) (u : xN) : xGm md_X3_least rsM (f_X3_least_L68 N rec32 v1 v2 v3 u) 68 [(0, .ref 0), (1, .int v1), (2, .int v2), (3, .int v3)] [] (xU u) := by
  unfold f_X3_least_L68
  refine xm_blk0 (pc' := 71) (lv' := [(0, .ref 0), (1, .int v1), (2, .int v2), (3, .int (v3 + (1 : Int32)))]) (st' := []) (u' := (xU u)) [(.iinc 3 1, (0, 0, 0), 1, 0)] (by decide +kernel) rfl ?_
  refine xm_goto (pc := 71) (off := -39) (tgt := 32) (by decide +kernel) (by decide) ?_
  exact h32 v1 v2 (v3 + (1 : Int32)) u
def f_X3_least_L32b (N : Nat) (rec32 : Int32 → Int32 → Int32 → xN → Option (Int32 × xN)) (v1 : Int32) (v2 : Int32) (v3 : Int32) (u : xN) : Option (Int32 × xN) := Option.bind (f_X0_clauseSets_7 u) (fun r37 => if r37 ≤ v3 then (if v2 = (-9 : Int32) then some ((-9 : Int32), u) else some (v1, mI u 0 10 v2)) else Option.bind (f_J6_bitCount_0f7a4 v3) (fun r44 => if v1 ≤ r44 then f_X3_least_L68 N rec32 v1 v2 v3 u else Option.bind (f_X3_isClash N v3 u) (fun r57 => if r57 = (0 : Int32) then f_X3_least_L68 N rec32 v1 v2 v3 u else f_X3_least_L68 N rec32 r44 v3 v3 u)))
set_option maxRecDepth 20000 in
theorem go_X3_least_L32b (N : Nat) (rec32 : Int32 → Int32 → Int32 → xN → Option (Int32 × xN)) (h32 : ∀ (v1 : Int32) (v2 : Int32) (v3 : Int32) (u : xN), xGm md_X3_least rsM (rec32 v1 v2 v3 u) 32 [(0, .ref 0), (1, .int v1), (2, .int v2), (3, .int v3)] [] (xU u)) (v1 : Int32) (v2 : Int32) (v3 : Int32) (u : xN) : xGm md_X3_least rsM (f_X3_least_L32b N rec32 v1 v2 v3 u) 32 [(0, .ref 0), (1, .int v1), (2, .int v2), (3, .int v3)] [] (xU u) := by
  unfold f_X3_least_L32b
  refine xm_blk0 (pc' := 37) (lv' := [(0, .ref 0), (1, .int v1), (2, .int v2), (3, .int v3)]) (st' := [.ref 7, .int v3]) (u' := (xU u)) [(.iload_n 3, (0, 0, 0), 0, 0), (.aload_n 0, (0, 0, 0), 0, 0), (.getfield 24, (3, 2, 208), 0, 0)] (by decide +kernel) rfl ?_
  refine xm_Vi (pc := 37) (mz := md_X0_clauseSets_7) (idx := 244) (p1 := 617) (a := 7) (as := []) (st := [.int v3]) (ev_X0_clauseSets_7 u) mw_X0_clauseSets (by decide +kernel) (by decide +kernel) (by decide) rfl rfl (by decide) rfl (Nat.le_of_ble_eq_true rfl) (fun r37 => ?_)
  refine xm_icmp_ge (pc := 40) (off := 34) (tgt := 74) (by decide +kernel) (by decide) ?_ ?_
  · refine xm_blk0 (pc' := 77) (lv' := [(0, .ref 0), (1, .int v1), (2, .int v2), (3, .int v3)]) (st' := [.int (-9 : Int32), .int v2]) (u' := (xU u)) [(.iload_n 2, (0, 0, 0), 0, 0), (.bipush (-9), (0, 0, 0), -9, 0)] (by decide +kernel) rfl ?_
    refine xm_icmp_ne (pc := 77) (off := 6) (tgt := 83) (by decide +kernel) (by decide) ?_ ?_
    · refine xm_blk0 (pc' := 89) (lv' := [(0, .ref 0), (1, .int v1), (2, .int v2), (3, .int v3)]) (st' := [.int v1]) (u' := (xU (mI u 0 10 v2))) [(.aload_n 0, (0, 0, 0), 0, 0), (.iload_n 2, (0, 0, 0), 0, 0), (.putfield 71, (3, 10, 216), 0, 0), (.iload_n 1, (0, 0, 0), 0, 0)] (by decide +kernel) rfl ?_
      exact xm_iret (pc := 89) (by decide +kernel) rfl rfl
    · refine xm_blk0 (pc' := 82) (lv' := [(0, .ref 0), (1, .int v1), (2, .int v2), (3, .int v3)]) (st' := [.int (-9 : Int32)]) (u' := (xU u)) [(.bipush (-9), (0, 0, 0), -9, 0)] (by decide +kernel) rfl ?_
      exact xm_iret (pc := 82) (by decide +kernel) rfl rfl
  · refine xm_blk0 (pc' := 44) (lv' := [(0, .ref 0), (1, .int v1), (2, .int v2), (3, .int v3)]) (st' := [.int v3]) (u' := (xU u)) [(.iload_n 3, (0, 0, 0), 0, 0)] (by decide +kernel) rfl ?_
    refine xm_Si (pc := 44) (mz := md_J6_bitCount_0f7a4) (idx := 186) (p1 := 509) (as := [.int v3]) (st := []) (ev_J6_bitCount_0f7a4 v3 u) mw_J6_bitCount_0f7a4 (by decide +kernel) (by decide +kernel) (by decide) rfl (Nat.le_of_ble_eq_true rfl) (fun r44 => ?_)
    refine xm_blk0 (pc' := 52) (lv' := [(0, .ref 0), (1, .int v1), (2, .int v2), (3, .int v3), (4, .int r44)]) (st' := [.int v1, .int r44]) (u' := (xU u)) [(.istore 4, (0, 0, 0), 0, 0), (.iload 4, (0, 0, 0), 0, 0), (.iload_n 1, (0, 0, 0), 0, 0)] (by decide +kernel) rfl ?_
    refine xm_icmp_ge (pc := 52) (off := 16) (tgt := 68) (by decide +kernel) (by decide) ?_ ?_
    · refine xm_wk [0, 1, 2, 3] (lv' := [(0, .ref 0), (1, .int v1), (2, .int v2), (3, .int v3)]) rfl ?_
      exact go_X3_least_L68 N rec32 h32 v1 v2 v3 u
    · refine xm_blk0 (pc' := 57) (lv' := [(0, .ref 0), (1, .int v1), (2, .int v2), (3, .int v3), (4, .int r44)]) (st' := [.int v3, .ref 0]) (u' := (xU u)) [(.aload_n 0, (0, 0, 0), 0, 0), (.iload_n 3, (0, 0, 0), 0, 0)] (by decide +kernel) rfl ?_
      refine xm_Vi (pc := 57) (mz := md_X3_isClash) (idx := 247) (p1 := 621) (a := 0) (as := [.int v3]) (st := []) (ev_X3_isClash N v3 u) mw_X3_isClash (by decide +kernel) (by decide +kernel) (by decide) rfl rfl (by decide) rfl (Nat.le_of_ble_eq_true rfl) (fun r57 => ?_)
      refine xm_if_eq (pc := 60) (off := 8) (tgt := 68) (by decide +kernel) (by decide) ?_ ?_
      · refine xm_wk [0, 1, 2, 3] (lv' := [(0, .ref 0), (1, .int v1), (2, .int v2), (3, .int v3)]) rfl ?_
        exact go_X3_least_L68 N rec32 h32 v1 v2 v3 u
      · refine xm_blk0 (pc' := 68) (lv' := [(0, .ref 0), (1, .int r44), (2, .int v3), (3, .int v3), (4, .int r44)]) (st' := []) (u' := (xU u)) [(.iload 4, (0, 0, 0), 0, 0), (.istore_n 1, (0, 0, 0), 0, 0), (.iload_n 3, (0, 0, 0), 0, 0), (.istore_n 2, (0, 0, 0), 0, 0)] (by decide +kernel) rfl ?_
        refine xm_wk [0, 1, 2, 3] (lv' := [(0, .ref 0), (1, .int r44), (2, .int v3), (3, .int v3)]) rfl ?_
        exact go_X3_least_L68 N rec32 h32 r44 v3 v3 u
def f_X3_least_L32 (N : Nat) : Nat → Int32 → Int32 → Int32 → xN → Option (Int32 × xN)
  | 0 => fun _ _ _ _ => none
  | n + 1 => fun v1 v2 v3 u => f_X3_least_L32b N (f_X3_least_L32 N n) v1 v2 v3 u
theorem go_X3_least_L32 (N : Nat) : ∀ (n : Nat) (v1 : Int32) (v2 : Int32) (v3 : Int32) (u : xN), xGm md_X3_least rsM (f_X3_least_L32 N n v1 v2 v3 u) 32 [(0, .ref 0), (1, .int v1), (2, .int v2), (3, .int v3)] [] (xU u) := by
  intro n
  induction n with
  | zero => intro v1 v2 v3 u; exact xm_none
  | succ n ih => intro v1 v2 v3 u; exact go_X3_least_L32b N _ ih v1 v2 v3 u
def f_X3_least (N : Nat) (u : xN) : Option (Int32 × xN) := if (u.1 7 0) = (0 : Int32) then some ((-4 : Int32), u) else Option.bind (f_X3_judgeWays_20 N u) (fun r21 => f_X3_least_L32 N N (9 : Int32) (-9 : Int32) (1 : Int32) r21)
set_option maxRecDepth 20000 in
theorem go_X3_least (N : Nat) (u : xN) : xGm md_X3_least rsM (f_X3_least N u) 0 [(0, .ref 0)] [] (xU u) := by
  unfold f_X3_least
  refine xm_blk0 (pc' := 7) (lv' := [(0, .ref 0)]) (st' := [.int (u.1 7 0)]) (u' := (xU u)) [(.aload_n 0, (0, 0, 0), 0, 0), (.getfield 24, (3, 2, 208), 0, 0), (.getfield 119, (0, 0, 143), 0, 0)] (by decide +kernel) rfl ?_
  refine xm_if_ne (pc := 7) (off := 6) (tgt := 13) (by decide +kernel) (by decide) ?_ ?_
  · refine xm_blk0 (pc' := 21) (lv' := [(0, .ref 0)]) (st' := [.ref 20, .ref 0]) (u' := (xU u)) [(.aload_n 0, (0, 0, 0), 0, 0), (.aload_n 0, (0, 0, 0), 0, 0), (.getfield 34, (3, 4, 210), 0, 0), (.getfield 170, (2, 3, 185), 0, 0)] (by decide +kernel) rfl ?_
    refine xm_Vv (pc := 21) (mz := md_X3_judgeWays_20) (idx := 227) (p1 := 583) (a := 0) (as := [.ref 20]) (st := []) (ev_X3_judgeWays_20 N u) mw_X3_judgeWays (by decide +kernel) (by decide +kernel) (by decide) rfl rfl (by decide) rfl (Nat.le_of_ble_eq_true rfl) (fun r21 => ?_)
    refine xm_blk0 (pc' := 32) (lv' := [(0, .ref 0), (1, .int (9 : Int32)), (2, .int (-9 : Int32)), (3, .int (1 : Int32))]) (st' := []) (u' := (xU r21)) [(.bipush 9, (0, 0, 0), 9, 0), (.istore_n 1, (0, 0, 0), 0, 0), (.bipush (-9), (0, 0, 0), -9, 0), (.istore_n 2, (0, 0, 0), 0, 0), (.iconst 1, (0, 0, 0), 1, 0), (.istore_n 3, (0, 0, 0), 0, 0)] (by decide +kernel) rfl ?_
    exact go_X3_least_L32 N N (9 : Int32) (-9 : Int32) (1 : Int32) r21
  · refine xm_blk0 (pc' := 12) (lv' := [(0, .ref 0)]) (st' := [.int (-4 : Int32)]) (u' := (xU u)) [(.bipush (-4), (0, 0, 0), -4, 0)] (by decide +kernel) rfl ?_
    exact xm_iret (pc := 12) (by decide +kernel) rfl rfl
theorem ev_X3_least (N : Nat) (u : xN) : ∀ r, f_X3_least N u = some r → xEm md_X3_least yX3_least [.ref 0] (xU u) (some (.int r.1), xU r.2) := xm_met (res := rsM) (as := [.ref 0]) (go_X3_least N u) (by decide) rfl (Nat.le_of_ble_eq_true rfl)
theorem mw_J6_compare_7cf53 : xMs yJ6_compare_7cf53 cJ6_compare_7cf53 2 (some .int) 2 := xMs_of (p1 := 642) (p2 := 641) (p3 := 99) (by decide +kernel)
/-! java/lang/Integer.compare(II)I  -/
abbrev md_J6_compare_7cf53 : xMd := (cJ6_compare_7cf53, RJ6, 2, some .int, 1)
def f_J6_compare_7cf53_L19 (t0 : Int32) : Option Int32 := some t0
set_option maxRecDepth 20000 in
theorem go_J6_compare_7cf53_L19 (u : xN) (t0 : Int32) : xGm md_J6_compare_7cf53 (rsI (xU u)) (f_J6_compare_7cf53_L19 t0) 19 [] [.int t0] (xU u) := by
  unfold f_J6_compare_7cf53_L19
  exact xm_iret (pc := 19) (by decide +kernel) rfl rfl
def f_J6_compare_7cf53 (a0 : Int32) (a1 : Int32) : Option Int32 := if a1 ≤ a0 then (if a0 = a1 then f_J6_compare_7cf53_L19 (0 : Int32) else f_J6_compare_7cf53_L19 (1 : Int32)) else f_J6_compare_7cf53_L19 (-1 : Int32)
set_option maxRecDepth 20000 in
theorem go_J6_compare_7cf53 (a0 : Int32) (a1 : Int32) (u : xN) : xGm md_J6_compare_7cf53 (rsI (xU u)) (f_J6_compare_7cf53 a0 a1) 0 [(0, .int a0), (1, .int a1)] [] (xU u) := by
  unfold f_J6_compare_7cf53
  refine xm_blk0 (pc' := 2) (lv' := [(0, .int a0), (1, .int a1)]) (st' := [.int a1, .int a0]) (u' := (xU u)) [(.iload_n 0, (0, 0, 0), 0, 0), (.iload_n 1, (0, 0, 0), 0, 0)] (by decide +kernel) rfl ?_
  refine xm_icmp_ge (pc := 2) (off := 7) (tgt := 9) (by decide +kernel) (by decide) ?_ ?_
  · refine xm_blk0 (pc' := 11) (lv' := [(0, .int a0), (1, .int a1)]) (st' := [.int a1, .int a0]) (u' := (xU u)) [(.iload_n 0, (0, 0, 0), 0, 0), (.iload_n 1, (0, 0, 0), 0, 0)] (by decide +kernel) rfl ?_
    refine xm_icmp_ne (pc := 11) (off := 7) (tgt := 18) (by decide +kernel) (by decide) ?_ ?_
    · refine xm_blk0 (pc' := 19) (lv' := [(0, .int a0), (1, .int a1)]) (st' := [.int (1 : Int32)]) (u' := (xU u)) [(.iconst 1, (0, 0, 0), 1, 0)] (by decide +kernel) rfl ?_
      refine xm_wk [] (lv' := []) rfl ?_
      exact go_J6_compare_7cf53_L19 u (1 : Int32)
    · refine xm_blk0 (pc' := 15) (lv' := [(0, .int a0), (1, .int a1)]) (st' := [.int (0 : Int32)]) (u' := (xU u)) [(.iconst 0, (0, 0, 0), 0, 0)] (by decide +kernel) rfl ?_
      refine xm_goto (pc := 15) (off := 4) (tgt := 19) (by decide +kernel) (by decide) ?_
      refine xm_wk [] (lv' := []) rfl ?_
      exact go_J6_compare_7cf53_L19 u (0 : Int32)
  · refine xm_blk0 (pc' := 6) (lv' := [(0, .int a0), (1, .int a1)]) (st' := [.int (-1 : Int32)]) (u' := (xU u)) [(.iconst (-1), (0, 0, 0), -1, 0)] (by decide +kernel) rfl ?_
    refine xm_goto (pc := 6) (off := 13) (tgt := 19) (by decide +kernel) (by decide) ?_
    refine xm_wk [] (lv' := []) rfl ?_
    exact go_J6_compare_7cf53_L19 u (-1 : Int32)
theorem ev_J6_compare_7cf53 (a0 : Int32) (a1 : Int32) (u : xN) : ∀ r, f_J6_compare_7cf53 a0 a1 = some r → xEm md_J6_compare_7cf53 yJ6_compare_7cf53 [.int a0, .int a1] (xU u) (some (.int r), (xU u)) := xm_met (res := (rsI (xU u))) (as := [.int a0, .int a1]) (go_J6_compare_7cf53 a0 a1 u) (by decide) rfl (Nat.le_of_ble_eq_true rfl)
