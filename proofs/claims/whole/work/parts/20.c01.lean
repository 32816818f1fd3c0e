theorem mw_X1_isPlace : xMv yX1_isPlace cX1_isPlace 2 (some .boolean) 1 := xMv_of (p1 := 257) (p2 := 255) (p3 := 93) (p4 := 256) (by decide +kernel)
/-! NeitherBare$Shelf.isPlace(I)Z (1, None) -/
abbrev md_X1_isPlace_1 : xMd := (cX1_isPlace, RX1, 2, some .boolean, 1)
def f_X1_isPlace_1_L17 (u : xN) (t0 : Int32) : Option Int32 := gdl [isb t0] (some t0)
set_option maxRecDepth 20000 in
theorem go_X1_isPlace_1_L17 (u : xN) (t0 : Int32) : xGm md_X1_isPlace_1 (rsI (xU u)) (f_X1_isPlace_1_L17 u t0) 17 [] [.int t0] (xU u) := by
  unfold f_X1_isPlace_1_L17
  exact xm_zret (pc := 17) (by decide +kernel) rfl rfl
def f_X1_isPlace_1_L16 (u : xN) : Option Int32 := f_X1_isPlace_1_L17 u (0 : Int32)
set_option maxRecDepth 20000 in
theorem go_X1_isPlace_1_L16 (u : xN) : xGm md_X1_isPlace_1 (rsI (xU u)) (f_X1_isPlace_1_L16 u) 16 [] [] (xU u) := by
  unfold f_X1_isPlace_1_L16
  refine xm_blk0 (pc' := 17) (lv' := []) (st' := [.int (0 : Int32)]) (u' := (xU u)) [(.iconst 0, (0, 0, 0), 0, 0)] (by decide +kernel) rfl ?_
  exact go_X1_isPlace_1_L17 u (0 : Int32)
def f_X1_isPlace_1 (a1 : Int32) (u : xN) : Option Int32 := if a1 < (0 : Int32) then f_X1_isPlace_1_L16 u else if (u.1 1 0) ≤ a1 then f_X1_isPlace_1_L16 u else f_X1_isPlace_1_L17 u (1 : Int32)
set_option maxRecDepth 20000 in
theorem go_X1_isPlace_1 (a1 : Int32) (u : xN) : xGm md_X1_isPlace_1 (rsI (xU u)) (f_X1_isPlace_1 a1 u) 0 [(0, .ref 1), (1, .int a1)] [] (xU u) := by
  unfold f_X1_isPlace_1
  refine xm_blk0 (pc' := 1) (lv' := [(0, .ref 1), (1, .int a1)]) (st' := [.int a1]) (u' := (xU u)) [(.iload_n 1, (0, 0, 0), 0, 0)] (by decide +kernel) rfl ?_
  refine xm_if_lt (pc := 1) (off := 15) (tgt := 16) (by decide +kernel) (by decide) ?_ ?_
  · refine xm_wk [] (lv' := []) rfl ?_
    exact go_X1_isPlace_1_L16 u
  · refine xm_blk0 (pc' := 9) (lv' := [(0, .ref 1), (1, .int a1)]) (st' := [.int (u.1 1 0), .int a1]) (u' := (xU u)) [(.iload_n 1, (0, 0, 0), 0, 0), (.aload_n 0, (0, 0, 0), 0, 0), (.getfield 7, (1, 0, 118), 0, 0)] (by decide +kernel) rfl ?_
    refine xm_icmp_ge (pc := 9) (off := 7) (tgt := 16) (by decide +kernel) (by decide) ?_ ?_
    · refine xm_wk [] (lv' := []) rfl ?_
      exact go_X1_isPlace_1_L16 u
    · refine xm_blk0 (pc' := 13) (lv' := [(0, .ref 1), (1, .int a1)]) (st' := [.int (1 : Int32)]) (u' := (xU u)) [(.iconst 1, (0, 0, 0), 1, 0)] (by decide +kernel) rfl ?_
      refine xm_goto (pc := 13) (off := 4) (tgt := 17) (by decide +kernel) (by decide) ?_
      refine xm_wk [] (lv' := []) rfl ?_
      exact go_X1_isPlace_1_L17 u (1 : Int32)
theorem ev_X1_isPlace_1 (a1 : Int32) (u : xN) : ∀ r, f_X1_isPlace_1 a1 u = some r → xEm md_X1_isPlace_1 yX1_isPlace [.ref 1, .int a1] (xU u) (some (.int r), (xU u)) := xm_met (res := (rsI (xU u))) (as := [.ref 1, .int a1]) (go_X1_isPlace_1 a1 u) (by decide) rfl (Nat.le_of_ble_eq_true rfl)
theorem mw_J7_rangeCheck_23922 : xMs yJ7_rangeCheck_23922 cJ7_rangeCheck_23922 3 none 3 := xMs_of (p1 := 271) (p2 := 270) (p3 := 94) (by decide +kernel)
/-! java/util/Arrays.rangeCheck(III)V  -/
abbrev md_J7_rangeCheck_23922 : xMd := (cJ7_rangeCheck_23922, RJ7, 3, none, 1)
def f_J7_rangeCheck_23922 (a0 : Int32) (a1 : Int32) (a2 : Int32) (u : xN) : Option xN := if a1 ≤ a2 then (if (0 : Int32) ≤ a1 then (if a2 ≤ a0 then some u else none) else none) else none
set_option maxRecDepth 20000 in
theorem go_J7_rangeCheck_23922 (a0 : Int32) (a1 : Int32) (a2 : Int32) (u : xN) : xGm md_J7_rangeCheck_23922 rsV (f_J7_rangeCheck_23922 a0 a1 a2 u) 0 [(0, .int a0), (1, .int a1), (2, .int a2)] [] (xU u) := by
  unfold f_J7_rangeCheck_23922
  refine xm_blk0 (pc' := 2) (lv' := [(0, .int a0), (1, .int a1), (2, .int a2)]) (st' := [.int a2, .int a1]) (u' := (xU u)) [(.iload_n 1, (0, 0, 0), 0, 0), (.iload_n 2, (0, 0, 0), 0, 0)] (by decide +kernel) rfl ?_
  refine xm_icmp_le (pc := 2) (off := 44) (tgt := 46) (by decide +kernel) (by decide) ?_ ?_
  · refine xm_blk0 (pc' := 47) (lv' := [(0, .int a0), (1, .int a1), (2, .int a2)]) (st' := [.int a1]) (u' := (xU u)) [(.iload_n 1, (0, 0, 0), 0, 0)] (by decide +kernel) rfl ?_
    refine xm_if_ge (pc := 47) (off := 12) (tgt := 59) (by decide +kernel) (by decide) ?_ ?_
    · refine xm_blk0 (pc' := 61) (lv' := [(0, .int a0), (1, .int a1), (2, .int a2)]) (st' := [.int a0, .int a2]) (u' := (xU u)) [(.iload_n 2, (0, 0, 0), 0, 0), (.iload_n 0, (0, 0, 0), 0, 0)] (by decide +kernel) rfl ?_
      refine xm_icmp_le (pc := 61) (off := 12) (tgt := 73) (by decide +kernel) (by decide) ?_ ?_
      · exact xm_vret (pc := 73) (by decide +kernel) rfl rfl
      · exact xm_none
    · exact xm_none
  · exact xm_none
theorem ev_J7_rangeCheck_23922 (a0 : Int32) (a1 : Int32) (a2 : Int32) (u : xN) : ∀ r, f_J7_rangeCheck_23922 a0 a1 a2 u = some r → xEm md_J7_rangeCheck_23922 yJ7_rangeCheck_23922 [.int a0, .int a1, .int a2] (xU u) (none, xU r) := xm_met (res := rsV) (as := [.int a0, .int a1, .int a2]) (go_J7_rangeCheck_23922 a0 a1 a2 u) (by decide) rfl (Nat.le_of_ble_eq_true rfl)
theorem mw_J7_fill_fda19 : xMs yJ7_fill_fda19 cJ7_fill_fda19 5 none 4 := xMs_of (p1 := 268) (p2 := 267) (p3 := 94) (by decide +kernel)
/-! java/util/Arrays.fill([IIII)V (2, None, None, None) -/
abbrev md_J7_fill_fda19_2 : xMd := (cJ7_fill_fda19, RJ7, 5, none, 2)
def f_J7_fill_fda19_2_L10b (N : Nat) (rec10 : Int32 → Int32 → Int32 → xN → Option xN) (v2 : Int32) (v3 : Int32) (v4 : Int32) (u : xN) : Option xN := if v2 ≤ v4 then some u else gdl [inb v4 240] (rec10 v2 v3 (v4 + (1 : Int32)) (mI u 2 (Int32.toNatClampNeg v4) v3))
set_option maxRecDepth 20000 in
theorem go_J7_fill_fda19_2_L10b (N : Nat) (rec10 : Int32 → Int32 → Int32 → xN → Option xN) (h10 : ∀ (v2 : Int32) (v3 : Int32) (v4 : Int32) (u : xN), xGm md_J7_fill_fda19_2 rsV (rec10 v2 v3 v4 u) 10 [(0, .ref 2), (2, .int v2), (3, .int v3), (4, .int v4)] [] (xU u)) (v2 : Int32) (v3 : Int32) (v4 : Int32) (u : xN) : xGm md_J7_fill_fda19_2 rsV (f_J7_fill_fda19_2_L10b N rec10 v2 v3 v4 u) 10 [(0, .ref 2), (2, .int v2), (3, .int v3), (4, .int v4)] [] (xU u) := by
  unfold f_J7_fill_fda19_2_L10b
  refine xm_blk0 (pc' := 13) (lv' := [(0, .ref 2), (2, .int v2), (3, .int v3), (4, .int v4)]) (st' := [.int v2, .int v4]) (u' := (xU u)) [(.iload 4, (0, 0, 0), 0, 0), (.iload_n 2, (0, 0, 0), 0, 0)] (by decide +kernel) rfl ?_
  refine xm_icmp_ge (pc := 13) (off := 14) (tgt := 27) (by decide +kernel) (by decide) ?_ ?_
  · exact xm_vret (pc := 27) (by decide +kernel) rfl rfl
  · refine xm_blk (bs := [inb v4 240]) (pc' := 24) (lv' := [(0, .ref 2), (2, .int v2), (3, .int v3), (4, .int (v4 + (1 : Int32)))]) (st' := []) (u' := (xU (mI u 2 (Int32.toNatClampNeg v4) v3))) [(.aload_n 0, (0, 0, 0), 0, 0), (.iload 4, (0, 0, 0), 0, 0), (.iload_n 3, (0, 0, 0), 0, 0), (.iastore, (0, 0, 0), 0, 0), (.iinc 4 1, (0, 0, 0), 1, 0)] (by decide +kernel) rfl ?_
    refine xm_goto (pc := 24) (off := -14) (tgt := 10) (by decide +kernel) (by decide) ?_
    exact h10 v2 v3 (v4 + (1 : Int32)) (mI u 2 (Int32.toNatClampNeg v4) v3)
def f_J7_fill_fda19_2_L10 (N : Nat) : Nat → Int32 → Int32 → Int32 → xN → Option xN
  | 0 => fun _ _ _ _ => none
  | n + 1 => fun v2 v3 v4 u => f_J7_fill_fda19_2_L10b N (f_J7_fill_fda19_2_L10 N n) v2 v3 v4 u
theorem go_J7_fill_fda19_2_L10 (N : Nat) : ∀ (n : Nat) (v2 : Int32) (v3 : Int32) (v4 : Int32) (u : xN), xGm md_J7_fill_fda19_2 rsV (f_J7_fill_fda19_2_L10 N n v2 v3 v4 u) 10 [(0, .ref 2), (2, .int v2), (3, .int v3), (4, .int v4)] [] (xU u) := by
  intro n
  induction n with
  | zero => intro v2 v3 v4 u; exact xm_none
  | succ n ih => intro v2 v3 v4 u; exact go_J7_fill_fda19_2_L10b N _ ih v2 v3 v4 u
def f_J7_fill_fda19_2 (N : Nat) (a1 : Int32) (a2 : Int32) (a3 : Int32) (u : xN) : Option xN := Option.bind (f_J7_rangeCheck_23922 (240 : Int32) a1 a2 u) (fun r4 => f_J7_fill_fda19_2_L10 N N a2 a3 a1 r4)
set_option maxRecDepth 20000 in
theorem go_J7_fill_fda19_2 (N : Nat) (a1 : Int32) (a2 : Int32) (a3 : Int32) (u : xN) : xGm md_J7_fill_fda19_2 rsV (f_J7_fill_fda19_2 N a1 a2 a3 u) 0 [(0, .ref 2), (1, .int a1), (2, .int a2), (3, .int a3)] [] (xU u) := by
  unfold f_J7_fill_fda19_2
  refine xm_blk0 (pc' := 4) (lv' := [(0, .ref 2), (1, .int a1), (2, .int a2), (3, .int a3)]) (st' := [.int a2, .int a1, .int (240 : Int32)]) (u' := (xU u)) [(.aload_n 0, (0, 0, 0), 0, 0), (.arraylength, (0, 0, 0), 0, 0), (.iload_n 1, (0, 0, 0), 0, 0), (.iload_n 2, (0, 0, 0), 0, 0)] (by decide +kernel) rfl ?_
  refine xm_Sv (pc := 4) (mz := md_J7_rangeCheck_23922) (idx := 13) (p1 := 269) (as := [.int (240 : Int32), .int a1, .int a2]) (st := []) (ev_J7_rangeCheck_23922 (240 : Int32) a1 a2 u) mw_J7_rangeCheck_23922 (by decide +kernel) (by decide +kernel) (by decide) rfl (Nat.le_of_ble_eq_true rfl) (fun r4 => ?_)
  refine xm_blk0 (pc' := 10) (lv' := [(0, .ref 2), (1, .int a1), (2, .int a2), (3, .int a3), (4, .int a1)]) (st' := []) (u' := (xU r4)) [(.iload_n 1, (0, 0, 0), 0, 0), (.istore 4, (0, 0, 0), 0, 0)] (by decide +kernel) rfl ?_
  refine xm_wk [0, 2, 3, 4] (lv' := [(0, .ref 2), (2, .int a2), (3, .int a3), (4, .int a1)]) rfl ?_
  exact go_J7_fill_fda19_2_L10 N N a2 a3 a1 r4
theorem ev_J7_fill_fda19_2 (N : Nat) (a1 : Int32) (a2 : Int32) (a3 : Int32) (u : xN) : ∀ r, f_J7_fill_fda19_2 N a1 a2 a3 u = some r → xEm md_J7_fill_fda19_2 yJ7_fill_fda19 [.ref 2, .int a1, .int a2, .int a3] (xU u) (none, xU r) := xm_met (res := rsV) (as := [.ref 2, .int a1, .int a2, .int a3]) (go_J7_fill_fda19_2 N a1 a2 a3 u) (by decide) rfl (Nat.le_of_ble_eq_true rfl)
theorem mw_X1_lieAnew : xMv yX1_lieAnew cX1_lieAnew 3 none 2 := xMv_of (p1 := 265) (p2 := 263) (p3 := 93) (p4 := 264) (by decide +kernel)
/-! NeitherBare$Shelf.lieAnew(II)V (1, None, None) -/
abbrev md_X1_lieAnew_1 : xMd := (cX1_lieAnew, RX1, 3, none, 3)
def f_X1_lieAnew_1 (N : Nat) (a1 : Int32) (a2 : Int32) (u : xN) : Option xN := gdl [inb a1 6] (Option.bind (f_J7_fill_fda19_2 N (a1 * ((mI u 3 (Int32.toNatClampNeg a1) a2).1 1 1)) ((a1 * ((mI u 3 (Int32.toNatClampNeg a1) a2).1 1 1)) + a2) ((mI u 3 (Int32.toNatClampNeg a1) a2).1 1 2) (mI u 3 (Int32.toNatClampNeg a1) a2)) (fun r29 => some r29))
set_option maxRecDepth 20000 in
theorem go_X1_lieAnew_1 (N : Nat) (a1 : Int32) (a2 : Int32) (u : xN) : xGm md_X1_lieAnew_1 rsV (f_X1_lieAnew_1 N a1 a2 u) 0 [(0, .ref 1), (1, .int a1), (2, .int a2)] [] (xU u) := by
  unfold f_X1_lieAnew_1
  refine xm_blk (bs := [inb a1 6]) (pc' := 29) (lv' := [(0, .ref 1), (1, .int a1), (2, .int a2)]) (st' := [.int ((mI u 3 (Int32.toNatClampNeg a1) a2).1 1 2), .int ((a1 * ((mI u 3 (Int32.toNatClampNeg a1) a2).1 1 1)) + a2), .int (a1 * ((mI u 3 (Int32.toNatClampNeg a1) a2).1 1 1)), .ref 2]) (u' := (xU (mI u 3 (Int32.toNatClampNeg a1) a2))) [(.aload_n 0, (0, 0, 0), 0, 0), (.getfield 23, (1, 4, 123), 0, 0), (.iload_n 1, (0, 0, 0), 0, 0), (.iload_n 2, (0, 0, 0), 0, 0), (.iastore, (0, 0, 0), 0, 0), (.aload_n 0, (0, 0, 0), 0, 0), (.getfield 19, (1, 3, 122), 0, 0), (.iload_n 1, (0, 0, 0), 0, 0), (.aload_n 0, (0, 0, 0), 0, 0), (.getfield 13, (1, 1, 119), 0, 0), (.imul, (0, 0, 0), 0, 0), (.iload_n 1, (0, 0, 0), 0, 0), (.aload_n 0, (0, 0, 0), 0, 0), (.getfield 13, (1, 1, 119), 0, 0), (.imul, (0, 0, 0), 0, 0), (.iload_n 2, (0, 0, 0), 0, 0), (.iadd, (0, 0, 0), 0, 0), (.aload_n 0, (0, 0, 0), 0, 0), (.getfield 16, (1, 2, 121), 0, 0)] (by decide +kernel) rfl ?_
  refine xm_Sv (pc := 29) (mz := md_J7_fill_fda19_2) (idx := 32) (p1 := 266) (as := [.ref 2, .int (a1 * ((mI u 3 (Int32.toNatClampNeg a1) a2).1 1 1)), .int ((a1 * ((mI u 3 (Int32.toNatClampNeg a1) a2).1 1 1)) + a2), .int ((mI u 3 (Int32.toNatClampNeg a1) a2).1 1 2)]) (st := []) (ev_J7_fill_fda19_2 N (a1 * ((mI u 3 (Int32.toNatClampNeg a1) a2).1 1 1)) ((a1 * ((mI u 3 (Int32.toNatClampNeg a1) a2).1 1 1)) + a2) ((mI u 3 (Int32.toNatClampNeg a1) a2).1 1 2) (mI u 3 (Int32.toNatClampNeg a1) a2)) mw_J7_fill_fda19 (by decide +kernel) (by decide +kernel) (by decide) rfl (Nat.le_of_ble_eq_true rfl) (fun r29 => ?_)
  exact xm_vret (pc := 32) (by decide +kernel) rfl rfl
theorem ev_X1_lieAnew_1 (N : Nat) (a1 : Int32) (a2 : Int32) (u : xN) : ∀ r, f_X1_lieAnew_1 N a1 a2 u = some r → xEm md_X1_lieAnew_1 yX1_lieAnew [.ref 1, .int a1, .int a2] (xU u) (none, xU r) := xm_met (res := rsV) (as := [.ref 1, .int a1, .int a2]) (go_X1_lieAnew_1 N a1 a2 u) (by decide) rfl (Nat.le_of_ble_eq_true rfl)
theorem mw_X3_refuse : xMv yX3_refuse cX3_refuse 2 (some .int) 1 := xMv_of (p1 := 261) (p2 := 260) (p3 := 92) (p4 := 1) (by decide +kernel)
/-! NeitherBare.refuse(I)I (0, None) -/
abbrev md_X3_refuse : xMd := (cX3_refuse, RX3, 2, some .int, 1)
def f_X3_refuse (a1 : Int32) (u : xN) : Option (Int32 × xN) := gdl [inb a1 6, inb a1 6] (some ((-3 : Int32), mI (mI u 0 9 a1) 38 (Int32.toNatClampNeg a1) (((mI u 0 9 a1).1 38 (Int32.toNatClampNeg a1)) + (1 : Int32))))
set_option maxRecDepth 20000 in
theorem go_X3_refuse (a1 : Int32) (u : xN) : xGm md_X3_refuse rsM (f_X3_refuse a1 u) 0 [(0, .ref 0), (1, .int a1)] [] (xU u) := by
  unfold f_X3_refuse
  refine xm_blk (bs := [inb a1 6, inb a1 6]) (pc' := 17) (lv' := [(0, .ref 0), (1, .int a1)]) (st' := [.int (-3 : Int32)]) (u' := (xU (mI (mI u 0 9 a1) 38 (Int32.toNatClampNeg a1) (((mI u 0 9 a1).1 38 (Int32.toNatClampNeg a1)) + (1 : Int32))))) [(.aload_n 0, (0, 0, 0), 0, 0), (.iload_n 1, (0, 0, 0), 0, 0), (.putfield 311, (3, 9, 215), 0, 0), (.aload_n 0, (0, 0, 0), 0, 0), (.getfield 49, (3, 8, 214), 0, 0), (.iload_n 1, (0, 0, 0), 0, 0), (.dup2, (0, 0, 0), 0, 0), (.iaload, (0, 0, 0), 0, 0), (.iconst 1, (0, 0, 0), 1, 0), (.iadd, (0, 0, 0), 0, 0), (.iastore, (0, 0, 0), 0, 0), (.bipush (-3), (0, 0, 0), -3, 0)] (by decide +kernel) rfl ?_
  exact xm_iret (pc := 17) (by decide +kernel) rfl rfl
theorem ev_X3_refuse (a1 : Int32) (u : xN) : ∀ r, f_X3_refuse a1 u = some r → xEm md_X3_refuse yX3_refuse [.ref 0, .int a1] (xU u) (some (.int r.1), xU r.2) := xm_met (res := rsM) (as := [.ref 0, .int a1]) (go_X3_refuse a1 u) (by decide) rfl (Nat.le_of_ble_eq_true rfl)
theorem mw_X3_make : xMv yX3_make cX3_make 4 (some .int) 3 := xMv_of (p1 := 253) (p2 := 252) (p3 := 92) (p4 := 0) (by decide +kernel)
/-! NeitherBare.make(LNeitherBare$Shelf;II)I (0, 1, None, None) -/
abbrev md_X3_make_1 : xMd := (cX3_make, RX3, 4, some .int, 4)
def f_X3_make_1_L16 (N : Nat) (u : xN) : Option (Int32 × xN) := some ((-1 : Int32), u)
set_option maxRecDepth 20000 in
theorem go_X3_make_1_L16 (N : Nat) (u : xN) : xGm md_X3_make_1 rsM (f_X3_make_1_L16 N u) 16 [] [] (xU u) := by
  unfold f_X3_make_1_L16
  refine xm_blk0 (pc' := 17) (lv' := []) (st' := [.int (-1 : Int32)]) (u' := (xU u)) [(.iconst (-1), (0, 0, 0), -1, 0)] (by decide +kernel) rfl ?_
  exact xm_iret (pc := 17) (by decide +kernel) rfl rfl
def f_X3_make_1 (N : Nat) (a2 : Int32) (a3 : Int32) (u : xN) : Option (Int32 × xN) := Option.bind (f_X1_isPlace_1 a2 u) (fun r2 => if r2 = (0 : Int32) then f_X3_make_1_L16 N u else if a3 ≤ (u.1 1 1) then (if (0 : Int32) ≤ a3 then Option.bind (f_X1_lieAnew_1 N a2 a3 u) (fun r31 => some (a3, r31)) else Option.bind (f_X3_refuse (5 : Int32) u) (fun r24 => some (r24.1, r24.2))) else f_X3_make_1_L16 N u)
set_option maxRecDepth 20000 in
theorem go_X3_make_1 (N : Nat) (a2 : Int32) (a3 : Int32) (u : xN) : xGm md_X3_make_1 rsM (f_X3_make_1 N a2 a3 u) 0 [(0, .ref 0), (1, .ref 1), (2, .int a2), (3, .int a3)] [] (xU u) := by
  unfold f_X3_make_1
  refine xm_blk0 (pc' := 2) (lv' := [(0, .ref 0), (1, .ref 1), (2, .int a2), (3, .int a3)]) (st' := [.int a2, .ref 1]) (u' := (xU u)) [(.aload_n 1, (0, 0, 0), 0, 0), (.iload_n 2, (0, 0, 0), 0, 0)] (by decide +kernel) rfl ?_
  refine xm_Vi (pc := 2) (mz := md_X1_isPlace_1) (idx := 85) (p1 := 254) (a := 1) (as := [.int a2]) (st := []) (ev_X1_isPlace_1 a2 u) mw_X1_isPlace (by decide +kernel) (by decide +kernel) (by decide) rfl rfl (by decide) rfl (Nat.le_of_ble_eq_true rfl) (fun r2 => ?_)
  refine xm_if_eq (pc := 5) (off := 11) (tgt := 16) (by decide +kernel) (by decide) ?_ ?_
  · refine xm_wk [] (lv' := []) rfl ?_
    exact go_X3_make_1_L16 N u
  · refine xm_blk0 (pc' := 13) (lv' := [(0, .ref 0), (1, .ref 1), (2, .int a2), (3, .int a3)]) (st' := [.int (u.1 1 1), .int a3]) (u' := (xU u)) [(.iload_n 3, (0, 0, 0), 0, 0), (.aload_n 1, (0, 0, 0), 0, 0), (.getfield 323, (1, 1, 120), 0, 0)] (by decide +kernel) rfl ?_
    refine xm_icmp_le (pc := 13) (off := 5) (tgt := 18) (by decide +kernel) (by decide) ?_ ?_
    · refine xm_blk0 (pc' := 19) (lv' := [(0, .ref 0), (1, .ref 1), (2, .int a2), (3, .int a3)]) (st' := [.int a3]) (u' := (xU u)) [(.iload_n 3, (0, 0, 0), 0, 0)] (by decide +kernel) rfl ?_
      refine xm_if_ge (pc := 19) (off := 9) (tgt := 28) (by decide +kernel) (by decide) ?_ ?_
      · refine xm_blk0 (pc' := 31) (lv' := [(0, .ref 0), (1, .ref 1), (2, .int a2), (3, .int a3)]) (st' := [.int a3, .int a2, .ref 1]) (u' := (xU u)) [(.aload_n 1, (0, 0, 0), 0, 0), (.iload_n 2, (0, 0, 0), 0, 0), (.iload_n 3, (0, 0, 0), 0, 0)] (by decide +kernel) rfl ?_
        refine xm_Vv (pc := 31) (mz := md_X1_lieAnew_1) (idx := 326) (p1 := 262) (a := 1) (as := [.int a2, .int a3]) (st := []) (ev_X1_lieAnew_1 N a2 a3 u) mw_X1_lieAnew (by decide +kernel) (by decide +kernel) (by decide) rfl rfl (by decide) rfl (Nat.le_of_ble_eq_true rfl) (fun r31 => ?_)
        refine xm_blk0 (pc' := 35) (lv' := [(0, .ref 0), (1, .ref 1), (2, .int a2), (3, .int a3)]) (st' := [.int a3]) (u' := (xU r31)) [(.iload_n 3, (0, 0, 0), 0, 0)] (by decide +kernel) rfl ?_
        exact xm_iret (pc := 35) (by decide +kernel) rfl rfl
      · refine xm_blk0 (pc' := 24) (lv' := [(0, .ref 0), (1, .ref 1), (2, .int a2), (3, .int a3)]) (st' := [.int (5 : Int32), .ref 0]) (u' := (xU u)) [(.aload_n 0, (0, 0, 0), 0, 0), (.iconst 5, (0, 0, 0), 5, 0)] (by decide +kernel) rfl ?_
        refine xm_Vm (pc := 24) (mz := md_X3_refuse) (idx := 89) (p1 := 258) (a := 0) (as := [.int (5 : Int32)]) (st := []) (ev_X3_refuse (5 : Int32) u) mw_X3_refuse (by decide +kernel) (by decide +kernel) (by decide) rfl rfl (by decide) rfl (Nat.le_of_ble_eq_true rfl) (fun r24 => ?_)
        exact xm_iret (pc := 27) (by decide +kernel) rfl rfl
    · refine xm_wk [] (lv' := []) rfl ?_
      exact go_X3_make_1_L16 N u
theorem ev_X3_make_1 (N : Nat) (a2 : Int32) (a3 : Int32) (u : xN) : ∀ r, f_X3_make_1 N a2 a3 u = some r → xEm md_X3_make_1 yX3_make [.ref 0, .ref 1, .int a2, .int a3] (xU u) (some (.int r.1), xU r.2) := xm_met (res := rsM) (as := [.ref 0, .ref 1, .int a2, .int a3]) (go_X3_make_1 N a2 a3 u) (by decide) rfl (Nat.le_of_ble_eq_true rfl)
theorem mw_X3_row : xMv yX3_row cX3_row 3 (some .int) 2 := xMv_of (p1 := 249) (p2 := 247) (p3 := 92) (p4 := 248) (by decide +kernel)
/-! NeitherBare.row(II)I (0, None, None) -/
abbrev md_X3_row : xMd := (cX3_row, RX3, 3, some .int, 5)
def f_X3_row (N : Nat) (a1 : Int32) (a2 : Int32) (u : xN) : Option (Int32 × xN) := Option.bind (f_X3_make_1 N a1 a2 u) (fun r7 => some (r7.1, r7.2))
set_option maxRecDepth 20000 in
theorem go_X3_row (N : Nat) (a1 : Int32) (a2 : Int32) (u : xN) : xGm md_X3_row rsM (f_X3_row N a1 a2 u) 0 [(0, .ref 0), (1, .int a1), (2, .int a2)] [] (xU u) := by
  unfold f_X3_row
  refine xm_blk0 (pc' := 7) (lv' := [(0, .ref 0), (1, .int a1), (2, .int a2)]) (st' := [.int a2, .int a1, .ref 1, .ref 0]) (u' := (xU u)) [(.aload_n 0, (0, 0, 0), 0, 0), (.aload_n 0, (0, 0, 0), 0, 0), (.getfield 14, (3, 0, 206), 0, 0), (.iload_n 1, (0, 0, 0), 0, 0), (.iload_n 2, (0, 0, 0), 0, 0)] (by decide +kernel) rfl ?_
  refine xm_Vm (pc := 7) (mz := md_X3_make_1) (idx := 60) (p1 := 250) (a := 0) (as := [.ref 1, .int a1, .int a2]) (st := []) (ev_X3_make_1 N a1 a2 u) mw_X3_make (by decide +kernel) (by decide +kernel) (by decide) rfl rfl (by decide) rfl (Nat.le_of_ble_eq_true rfl) (fun r7 => ?_)
  exact xm_iret (pc := 10) (by decide +kernel) rfl rfl
theorem ev_X3_row (N : Nat) (a1 : Int32) (a2 : Int32) (u : xN) : ∀ r, f_X3_row N a1 a2 u = some r → xEm md_X3_row yX3_row [.ref 0, .int a1, .int a2] (xU u) (some (.int r.1), xU r.2) := xm_met (res := rsM) (as := [.ref 0, .int a1, .int a2]) (go_X3_row N a1 a2 u) (by decide) rfl (Nat.le_of_ble_eq_true rfl)
theorem mw_X1_isThere : xMv yX1_isThere cX1_isThere 2 (some .boolean) 1 := xMv_of (p1 := 287) (p2 := 285) (p3 := 93) (p4 := 286) (by decide +kernel)
/-! NeitherBare$Shelf.isThere(I)Z (1, None) -/
abbrev md_X1_isThere_1 : xMd := (cX1_isThere, RX1, 2, some .boolean, 1)
def f_X1_isThere_1_L14 (u : xN) (t0 : Int32) : Option Int32 := gdl [isb t0] (some t0)
set_option maxRecDepth 20000 in
theorem go_X1_isThere_1_L14 (u : xN) (t0 : Int32) : xGm md_X1_isThere_1 (rsI (xU u)) (f_X1_isThere_1_L14 u t0) 14 [] [.int t0] (xU u) := by
  unfold f_X1_isThere_1_L14
  exact xm_zret (pc := 14) (by decide +kernel) rfl rfl
def f_X1_isThere_1 (a1 : Int32) (u : xN) : Option Int32 := gdl [inb a1 6] (if (u.1 3 (Int32.toNatClampNeg a1)) < (0 : Int32) then f_X1_isThere_1_L14 u (0 : Int32) else f_X1_isThere_1_L14 u (1 : Int32))
set_option maxRecDepth 20000 in
theorem go_X1_isThere_1 (a1 : Int32) (u : xN) : xGm md_X1_isThere_1 (rsI (xU u)) (f_X1_isThere_1 a1 u) 0 [(0, .ref 1), (1, .int a1)] [] (xU u) := by
  unfold f_X1_isThere_1
  refine xm_blk (bs := [inb a1 6]) (pc' := 6) (lv' := [(0, .ref 1), (1, .int a1)]) (st' := [.int (u.1 3 (Int32.toNatClampNeg a1))]) (u' := (xU u)) [(.aload_n 0, (0, 0, 0), 0, 0), (.getfield 23, (1, 4, 123), 0, 0), (.iload_n 1, (0, 0, 0), 0, 0), (.iaload, (0, 0, 0), 0, 0)] (by decide +kernel) rfl ?_
  refine xm_if_lt (pc := 6) (off := 7) (tgt := 13) (by decide +kernel) (by decide) ?_ ?_
  · refine xm_blk0 (pc' := 14) (lv' := [(0, .ref 1), (1, .int a1)]) (st' := [.int (0 : Int32)]) (u' := (xU u)) [(.iconst 0, (0, 0, 0), 0, 0)] (by decide +kernel) rfl ?_
    refine xm_wk [] (lv' := []) rfl ?_
    exact go_X1_isThere_1_L14 u (0 : Int32)
  · refine xm_blk0 (pc' := 10) (lv' := [(0, .ref 1), (1, .int a1)]) (st' := [.int (1 : Int32)]) (u' := (xU u)) [(.iconst 1, (0, 0, 0), 1, 0)] (by decide +kernel) rfl ?_
    refine xm_goto (pc := 10) (off := 4) (tgt := 14) (by decide +kernel) (by decide) ?_
    refine xm_wk [] (lv' := []) rfl ?_
    exact go_X1_isThere_1_L14 u (1 : Int32)
theorem ev_X1_isThere_1 (a1 : Int32) (u : xN) : ∀ r, f_X1_isThere_1 a1 u = some r → xEm md_X1_isThere_1 yX1_isThere [.ref 1, .int a1] (xU u) (some (.int r), (xU u)) := xm_met (res := (rsI (xU u))) (as := [.ref 1, .int a1]) (go_X1_isThere_1 a1 u) (by decide) rfl (Nat.le_of_ble_eq_true rfl)
theorem mw_X3_refusedPlace : xMv yX3_refusedPlace cX3_refusedPlace 3 (some .int) 2 := xMv_of (p1 := 283) (p2 := 282) (p3 := 92) (p4 := 3) (by decide +kernel)
/-! NeitherBare.refusedPlace(LNeitherBare$Shelf;I)I (0, 1, None) -/
abbrev md_X3_refusedPlace_1 : xMd := (cX3_refusedPlace, RX3, 3, some .int, 2)
def f_X3_refusedPlace_1_L27 (t0 : Int32) (u : xN) : Option (Int32 × xN) := some (t0, u)
set_option maxRecDepth 20000 in
theorem go_X3_refusedPlace_1_L27 (t0 : Int32) (u : xN) : xGm md_X3_refusedPlace_1 rsM (f_X3_refusedPlace_1_L27 t0 u) 27 [] [.int t0] (xU u) := by
  unfold f_X3_refusedPlace_1_L27
  exact xm_iret (pc := 27) (by decide +kernel) rfl rfl
def f_X3_refusedPlace_1 (a2 : Int32) (u : xN) : Option (Int32 × xN) := Option.bind (f_X1_isPlace_1 a2 u) (fun r2 => if r2 = (0 : Int32) then some ((-1 : Int32), u) else Option.bind (f_X1_isThere_1 a2 u) (fun r12 => if r12 = (0 : Int32) then Option.bind (f_X3_refuse (1 : Int32) u) (fun r24 => f_X3_refusedPlace_1_L27 r24.1 r24.2) else f_X3_refusedPlace_1_L27 (0 : Int32) u))
set_option maxRecDepth 20000 in
theorem go_X3_refusedPlace_1 (a2 : Int32) (u : xN) : xGm md_X3_refusedPlace_1 rsM (f_X3_refusedPlace_1 a2 u) 0 [(0, .ref 0), (1, .ref 1), (2, .int a2)] [] (xU u) := by
  unfold f_X3_refusedPlace_1
  refine xm_blk0 (pc' := 2) (lv' := [(0, .ref 0), (1, .ref 1), (2, .int a2)]) (st' := [.int a2, .ref 1]) (u' := (xU u)) [(.aload_n 1, (0, 0, 0), 0, 0), (.iload_n 2, (0, 0, 0), 0, 0)] (by decide +kernel) rfl ?_
  refine xm_Vi (pc := 2) (mz := md_X1_isPlace_1) (idx := 85) (p1 := 254) (a := 1) (as := [.int a2]) (st := []) (ev_X1_isPlace_1 a2 u) mw_X1_isPlace (by decide +kernel) (by decide +kernel) (by decide) rfl rfl (by decide) rfl (Nat.le_of_ble_eq_true rfl) (fun r2 => ?_)
  refine xm_if_ne (pc := 5) (off := 5) (tgt := 10) (by decide +kernel) (by decide) ?_ ?_
  · refine xm_blk0 (pc' := 12) (lv' := [(0, .ref 0), (1, .ref 1), (2, .int a2)]) (st' := [.int a2, .ref 1]) (u' := (xU u)) [(.aload_n 1, (0, 0, 0), 0, 0), (.iload_n 2, (0, 0, 0), 0, 0)] (by decide +kernel) rfl ?_
    refine xm_Vi (pc := 12) (mz := md_X1_isThere_1) (idx := 93) (p1 := 284) (a := 1) (as := [.int a2]) (st := []) (ev_X1_isThere_1 a2 u) mw_X1_isThere (by decide +kernel) (by decide +kernel) (by decide) rfl rfl (by decide) rfl (Nat.le_of_ble_eq_true rfl) (fun r12 => ?_)
    refine xm_if_eq (pc := 15) (off := 7) (tgt := 22) (by decide +kernel) (by decide) ?_ ?_
    · refine xm_blk0 (pc' := 24) (lv' := [(0, .ref 0), (1, .ref 1), (2, .int a2)]) (st' := [.int (1 : Int32), .ref 0]) (u' := (xU u)) [(.aload_n 0, (0, 0, 0), 0, 0), (.iconst 1, (0, 0, 0), 1, 0)] (by decide +kernel) rfl ?_
      refine xm_Vm (pc := 24) (mz := md_X3_refuse) (idx := 89) (p1 := 258) (a := 0) (as := [.int (1 : Int32)]) (st := []) (ev_X3_refuse (1 : Int32) u) mw_X3_refuse (by decide +kernel) (by decide +kernel) (by decide) rfl rfl (by decide) rfl (Nat.le_of_ble_eq_true rfl) (fun r24 => ?_)
      refine xm_wk [] (lv' := []) rfl ?_
      exact go_X3_refusedPlace_1_L27 r24.1 r24.2
    · refine xm_blk0 (pc' := 19) (lv' := [(0, .ref 0), (1, .ref 1), (2, .int a2)]) (st' := [.int (0 : Int32)]) (u' := (xU u)) [(.iconst 0, (0, 0, 0), 0, 0)] (by decide +kernel) rfl ?_
      refine xm_goto (pc := 19) (off := 8) (tgt := 27) (by decide +kernel) (by decide) ?_
      refine xm_wk [] (lv' := []) rfl ?_
      exact go_X3_refusedPlace_1_L27 (0 : Int32) u
  · refine xm_blk0 (pc' := 9) (lv' := [(0, .ref 0), (1, .ref 1), (2, .int a2)]) (st' := [.int (-1 : Int32)]) (u' := (xU u)) [(.iconst (-1), (0, 0, 0), -1, 0)] (by decide +kernel) rfl ?_
    exact xm_iret (pc := 9) (by decide +kernel) rfl rfl
theorem ev_X3_refusedPlace_1 (a2 : Int32) (u : xN) : ∀ r, f_X3_refusedPlace_1 a2 u = some r → xEm md_X3_refusedPlace_1 yX3_refusedPlace [.ref 0, .ref 1, .int a2] (xU u) (some (.int r.1), xU r.2) := xm_met (res := rsM) (as := [.ref 0, .ref 1, .int a2]) (go_X3_refusedPlace_1 a2 u) (by decide) rfl (Nat.le_of_ble_eq_true rfl)
theorem mw_X1_hasStretch : xMv yX1_hasStretch cX1_hasStretch 4 (some .boolean) 3 := xMv_of (p1 := 291) (p2 := 289) (p3 := 93) (p4 := 290) (by decide +kernel)
/-! NeitherBare$Shelf.hasStretch(III)Z (1, None, None, None) -/
abbrev md_X1_hasStretch_1 : xMd := (cX1_hasStretch, RX1, 4, some .boolean, 1)
def f_X1_hasStretch_1_L35 (u : xN) (t0 : Int32) : Option Int32 := gdl [isb t0] (some t0)
set_option maxRecDepth 20000 in
theorem go_X1_hasStretch_1_L35 (u : xN) (t0 : Int32) : xGm md_X1_hasStretch_1 (rsI (xU u)) (f_X1_hasStretch_1_L35 u t0) 35 [] [.int t0] (xU u) := by
  unfold f_X1_hasStretch_1_L35
  exact xm_zret (pc := 35) (by decide +kernel) rfl rfl
def f_X1_hasStretch_1_L34 (u : xN) : Option Int32 := f_X1_hasStretch_1_L35 u (0 : Int32)
set_option maxRecDepth 20000 in
theorem go_X1_hasStretch_1_L34 (u : xN) : xGm md_X1_hasStretch_1 (rsI (xU u)) (f_X1_hasStretch_1_L34 u) 34 [] [] (xU u) := by
  unfold f_X1_hasStretch_1_L34
  refine xm_blk0 (pc' := 35) (lv' := []) (st' := [.int (0 : Int32)]) (u' := (xU u)) [(.iconst 0, (0, 0, 0), 0, 0)] (by decide +kernel) rfl ?_
  exact go_X1_hasStretch_1_L35 u (0 : Int32)
def f_X1_hasStretch_1 (a1 : Int32) (a2 : Int32) (a3 : Int32) (u : xN) : Option Int32 := if a2 < (0 : Int32) then f_X1_hasStretch_1_L34 u else if a3 < (0 : Int32) then f_X1_hasStretch_1_L34 u else gdl [inb a1 6] (if (u.1 3 (Int32.toNatClampNeg a1)) < a3 then f_X1_hasStretch_1_L34 u else gdl [inb a1 6] (if ((u.1 3 (Int32.toNatClampNeg a1)) - a3) < a2 then f_X1_hasStretch_1_L34 u else f_X1_hasStretch_1_L35 u (1 : Int32)))
set_option maxRecDepth 20000 in
theorem go_X1_hasStretch_1 (a1 : Int32) (a2 : Int32) (a3 : Int32) (u : xN) : xGm md_X1_hasStretch_1 (rsI (xU u)) (f_X1_hasStretch_1 a1 a2 a3 u) 0 [(0, .ref 1), (1, .int a1), (2, .int a2), (3, .int a3)] [] (xU u) := by
  unfold f_X1_hasStretch_1
  refine xm_blk0 (pc' := 1) (lv' := [(0, .ref 1), (1, .int a1), (2, .int a2), (3, .int a3)]) (st' := [.int a2]) (u' := (xU u)) [(.iload_n 2, (0, 0, 0), 0, 0)] (by decide +kernel) rfl ?_
  refine xm_if_lt (pc := 1) (off := 33) (tgt := 34) (by decide +kernel) (by decide) ?_ ?_
  · refine xm_wk [] (lv' := []) rfl ?_
    exact go_X1_hasStretch_1_L34 u
  · refine xm_blk0 (pc' := 5) (lv' := [(0, .ref 1), (1, .int a1), (2, .int a2), (3, .int a3)]) (st' := [.int a3]) (u' := (xU u)) [(.iload_n 3, (0, 0, 0), 0, 0)] (by decide +kernel) rfl ?_
    refine xm_if_lt (pc := 5) (off := 29) (tgt := 34) (by decide +kernel) (by decide) ?_ ?_
    · refine xm_wk [] (lv' := []) rfl ?_
      exact go_X1_hasStretch_1_L34 u
    · refine xm_blk (bs := [inb a1 6]) (pc' := 15) (lv' := [(0, .ref 1), (1, .int a1), (2, .int a2), (3, .int a3)]) (st' := [.int (u.1 3 (Int32.toNatClampNeg a1)), .int a3]) (u' := (xU u)) [(.iload_n 3, (0, 0, 0), 0, 0), (.aload_n 0, (0, 0, 0), 0, 0), (.getfield 23, (1, 4, 123), 0, 0), (.iload_n 1, (0, 0, 0), 0, 0), (.iaload, (0, 0, 0), 0, 0)] (by decide +kernel) rfl ?_
      refine xm_icmp_gt (pc := 15) (off := 19) (tgt := 34) (by decide +kernel) (by decide) ?_ ?_
      · refine xm_wk [] (lv' := []) rfl ?_
        exact go_X1_hasStretch_1_L34 u
      · refine xm_blk (bs := [inb a1 6]) (pc' := 27) (lv' := [(0, .ref 1), (1, .int a1), (2, .int a2), (3, .int a3)]) (st' := [.int ((u.1 3 (Int32.toNatClampNeg a1)) - a3), .int a2]) (u' := (xU u)) [(.iload_n 2, (0, 0, 0), 0, 0), (.aload_n 0, (0, 0, 0), 0, 0), (.getfield 23, (1, 4, 123), 0, 0), (.iload_n 1, (0, 0, 0), 0, 0), (.iaload, (0, 0, 0), 0, 0), (.iload_n 3, (0, 0, 0), 0, 0), (.isub, (0, 0, 0), 0, 0)] (by decide +kernel) rfl ?_
        refine xm_icmp_gt (pc := 27) (off := 7) (tgt := 34) (by decide +kernel) (by decide) ?_ ?_
        · refine xm_wk [] (lv' := []) rfl ?_
          exact go_X1_hasStretch_1_L34 u
        · refine xm_blk0 (pc' := 31) (lv' := [(0, .ref 1), (1, .int a1), (2, .int a2), (3, .int a3)]) (st' := [.int (1 : Int32)]) (u' := (xU u)) [(.iconst 1, (0, 0, 0), 1, 0)] (by decide +kernel) rfl ?_
          refine xm_goto (pc := 31) (off := 4) (tgt := 35) (by decide +kernel) (by decide) ?_
          refine xm_wk [] (lv' := []) rfl ?_
          exact go_X1_hasStretch_1_L35 u (1 : Int32)
theorem ev_X1_hasStretch_1 (a1 : Int32) (a2 : Int32) (a3 : Int32) (u : xN) : ∀ r, f_X1_hasStretch_1 a1 a2 a3 u = some r → xEm md_X1_hasStretch_1 yX1_hasStretch [.ref 1, .int a1, .int a2, .int a3] (xU u) (some (.int r), (xU u)) := xm_met (res := (rsI (xU u))) (as := [.ref 1, .int a1, .int a2, .int a3]) (go_X1_hasStretch_1 a1 a2 a3 u) (by decide) rfl (Nat.le_of_ble_eq_true rfl)
theorem mw_X3_refusedCell : xMv yX3_refusedCell cX3_refusedCell 5 (some .int) 3 := xMv_of (p1 := 279) (p2 := 278) (p3 := 92) (p4 := 2) (by decide +kernel)
/-! NeitherBare.refusedCell(LNeitherBare$Shelf;II)I (0, 1, None, None) -/
abbrev md_X3_refusedCell_1 : xMd := (cX3_refusedCell, RX3, 5, some .int, 3)
def f_X3_refusedCell_1_L35 (t0 : Int32) (u : xN) : Option (Int32 × xN) := some (t0, u)
set_option maxRecDepth 20000 in
theorem go_X3_refusedCell_1_L35 (t0 : Int32) (u : xN) : xGm md_X3_refusedCell_1 rsM (f_X3_refusedCell_1_L35 t0 u) 35 [] [.int t0] (xU u) := by
  unfold f_X3_refusedCell_1_L35
  exact xm_iret (pc := 35) (by decide +kernel) rfl rfl
def f_X3_refusedCell_1 (a2 : Int32) (a3 : Int32) (u : xN) : Option (Int32 × xN) := Option.bind (f_X3_refusedPlace_1 a2 u) (fun r3 => if r3.1 = (0 : Int32) then Option.bind (f_X1_hasStretch_1 a2 a3 (1 : Int32) r3.2) (fun r20 => if r20 = (0 : Int32) then Option.bind (f_X3_refuse (2 : Int32) r3.2) (fun r32 => f_X3_refusedCell_1_L35 r32.1 r32.2) else f_X3_refusedCell_1_L35 (0 : Int32) r3.2) else some (r3.1, r3.2))
set_option maxRecDepth 20000 in
theorem go_X3_refusedCell_1 (a2 : Int32) (a3 : Int32) (u : xN) : xGm md_X3_refusedCell_1 rsM (f_X3_refusedCell_1 a2 a3 u) 0 [(0, .ref 0), (1, .ref 1), (2, .int a2), (3, .int a3)] [] (xU u) := by
  unfold f_X3_refusedCell_1
  refine xm_blk0 (pc' := 3) (lv' := [(0, .ref 0), (1, .ref 1), (2, .int a2), (3, .int a3)]) (st' := [.int a2, .ref 1, .ref 0]) (u' := (xU u)) [(.aload_n 0, (0, 0, 0), 0, 0), (.aload_n 1, (0, 0, 0), 0, 0), (.iload_n 2, (0, 0, 0), 0, 0)] (by decide +kernel) rfl ?_
  refine xm_Vm (pc := 3) (mz := md_X3_refusedPlace_1) (idx := 78) (p1 := 280) (a := 0) (as := [.ref 1, .int a2]) (st := []) (ev_X3_refusedPlace_1 a2 u) mw_X3_refusedPlace (by decide +kernel) (by decide +kernel) (by decide) rfl rfl (by decide) rfl (Nat.le_of_ble_eq_true rfl) (fun r3 => ?_)
  refine xm_blk0 (pc' := 10) (lv' := [(0, .ref 0), (1, .ref 1), (2, .int a2), (3, .int a3), (4, .int r3.1)]) (st' := [.int r3.1]) (u' := (xU r3.2)) [(.istore 4, (0, 0, 0), 0, 0), (.iload 4, (0, 0, 0), 0, 0)] (by decide +kernel) rfl ?_
  refine xm_if_eq (pc := 10) (off := 6) (tgt := 16) (by decide +kernel) (by decide) ?_ ?_
  · refine xm_blk0 (pc' := 20) (lv' := [(0, .ref 0), (1, .ref 1), (2, .int a2), (3, .int a3), (4, .int r3.1)]) (st' := [.int (1 : Int32), .int a3, .int a2, .ref 1]) (u' := (xU r3.2)) [(.aload_n 1, (0, 0, 0), 0, 0), (.iload_n 2, (0, 0, 0), 0, 0), (.iload_n 3, (0, 0, 0), 0, 0), (.iconst 1, (0, 0, 0), 1, 0)] (by decide +kernel) rfl ?_
    refine xm_Vi (pc := 20) (mz := md_X1_hasStretch_1) (idx := 96) (p1 := 288) (a := 1) (as := [.int a2, .int a3, .int (1 : Int32)]) (st := []) (ev_X1_hasStretch_1 a2 a3 (1 : Int32) r3.2) mw_X1_hasStretch (by decide +kernel) (by decide +kernel) (by decide) rfl rfl (by decide) rfl (Nat.le_of_ble_eq_true rfl) (fun r20 => ?_)
    refine xm_if_eq (pc := 23) (off := 7) (tgt := 30) (by decide +kernel) (by decide) ?_ ?_
    · refine xm_blk0 (pc' := 32) (lv' := [(0, .ref 0), (1, .ref 1), (2, .int a2), (3, .int a3), (4, .int r3.1)]) (st' := [.int (2 : Int32), .ref 0]) (u' := (xU r3.2)) [(.aload_n 0, (0, 0, 0), 0, 0), (.iconst 2, (0, 0, 0), 2, 0)] (by decide +kernel) rfl ?_
      refine xm_Vm (pc := 32) (mz := md_X3_refuse) (idx := 89) (p1 := 258) (a := 0) (as := [.int (2 : Int32)]) (st := []) (ev_X3_refuse (2 : Int32) r3.2) mw_X3_refuse (by decide +kernel) (by decide +kernel) (by decide) rfl rfl (by decide) rfl (Nat.le_of_ble_eq_true rfl) (fun r32 => ?_)
      refine xm_wk [] (lv' := []) rfl ?_
      exact go_X3_refusedCell_1_L35 r32.1 r32.2
    · refine xm_blk0 (pc' := 27) (lv' := [(0, .ref 0), (1, .ref 1), (2, .int a2), (3, .int a3), (4, .int r3.1)]) (st' := [.int (0 : Int32)]) (u' := (xU r3.2)) [(.iconst 0, (0, 0, 0), 0, 0)] (by decide +kernel) rfl ?_
      refine xm_goto (pc := 27) (off := 8) (tgt := 35) (by decide +kernel) (by decide) ?_
      refine xm_wk [] (lv' := []) rfl ?_
      exact go_X3_refusedCell_1_L35 (0 : Int32) r3.2
  · refine xm_blk0 (pc' := 15) (lv' := [(0, .ref 0), (1, .ref 1), (2, .int a2), (3, .int a3), (4, .int r3.1)]) (st' := [.int r3.1]) (u' := (xU r3.2)) [(.iload 4, (0, 0, 0), 0, 0)] (by decide +kernel) rfl ?_
    exact xm_iret (pc := 15) (by decide +kernel) rfl rfl
theorem ev_X3_refusedCell_1 (a2 : Int32) (a3 : Int32) (u : xN) : ∀ r, f_X3_refusedCell_1 a2 a3 u = some r → xEm md_X3_refusedCell_1 yX3_refusedCell [.ref 0, .ref 1, .int a2, .int a3] (xU u) (some (.int r.1), xU r.2) := xm_met (res := rsM) (as := [.ref 0, .ref 1, .int a2, .int a3]) (go_X3_refusedCell_1 a2 a3 u) (by decide) rfl (Nat.le_of_ble_eq_true rfl)
theorem mw_X1_cellOf : xMv yX1_cellOf cX1_cellOf 3 (some .int) 2 := xMv_of (p1 := 295) (p2 := 293) (p3 := 93) (p4 := 294) (by decide +kernel)
/-! NeitherBare$Shelf.cellOf(II)I (1, None, None) -/
abbrev md_X1_cellOf_1 : xMd := (cX1_cellOf, RX1, 3, some .int, 1)
def f_X1_cellOf_1 (a1 : Int32) (a2 : Int32) (u : xN) : Option Int32 := gdl [inb ((a1 * (u.1 1 1)) + a2) 240] (some (u.1 2 (Int32.toNatClampNeg ((a1 * (u.1 1 1)) + a2))))
set_option maxRecDepth 20000 in
theorem go_X1_cellOf_1 (a1 : Int32) (a2 : Int32) (u : xN) : xGm md_X1_cellOf_1 (rsI (xU u)) (f_X1_cellOf_1 a1 a2 u) 0 [(0, .ref 1), (1, .int a1), (2, .int a2)] [] (xU u) := by
  unfold f_X1_cellOf_1
  refine xm_blk (bs := [inb ((a1 * (u.1 1 1)) + a2) 240]) (pc' := 13) (lv' := [(0, .ref 1), (1, .int a1), (2, .int a2)]) (st' := [.int (u.1 2 (Int32.toNatClampNeg ((a1 * (u.1 1 1)) + a2)))]) (u' := (xU u)) [(.aload_n 0, (0, 0, 0), 0, 0), (.getfield 19, (1, 3, 122), 0, 0), (.iload_n 1, (0, 0, 0), 0, 0), (.aload_n 0, (0, 0, 0), 0, 0), (.getfield 13, (1, 1, 119), 0, 0), (.imul, (0, 0, 0), 0, 0), (.iload_n 2, (0, 0, 0), 0, 0), (.iadd, (0, 0, 0), 0, 0), (.iaload, (0, 0, 0), 0, 0)] (by decide +kernel) rfl ?_
  exact xm_iret (pc := 13) (by decide +kernel) rfl rfl
theorem ev_X1_cellOf_1 (a1 : Int32) (a2 : Int32) (u : xN) : ∀ r, f_X1_cellOf_1 a1 a2 u = some r → xEm md_X1_cellOf_1 yX1_cellOf [.ref 1, .int a1, .int a2] (xU u) (some (.int r), (xU u)) := xm_met (res := (rsI (xU u))) (as := [.ref 1, .int a1, .int a2]) (go_X1_cellOf_1 a1 a2 u) (by decide) rfl (Nat.le_of_ble_eq_true rfl)
theorem mw_X1_setCell : xMv yX1_setCell cX1_setCell 4 none 3 := xMv_of (p1 := 299) (p2 := 297) (p3 := 93) (p4 := 298) (by decide +kernel)
/-! NeitherBare$Shelf.setCell(III)V (1, None, None, None) -/
abbrev md_X1_setCell_1 : xMd := (cX1_setCell, RX1, 4, none, 1)
def f_X1_setCell_1 (a1 : Int32) (a2 : Int32) (a3 : Int32) (u : xN) : Option xN := gdl [inb ((a1 * (u.1 1 1)) + a2) 240] (some (mI u 2 (Int32.toNatClampNeg ((a1 * (u.1 1 1)) + a2)) a3))
set_option maxRecDepth 20000 in
theorem go_X1_setCell_1 (a1 : Int32) (a2 : Int32) (a3 : Int32) (u : xN) : xGm md_X1_setCell_1 rsV (f_X1_setCell_1 a1 a2 a3 u) 0 [(0, .ref 1), (1, .int a1), (2, .int a2), (3, .int a3)] [] (xU u) := by
  unfold f_X1_setCell_1
  refine xm_blk (bs := [inb ((a1 * (u.1 1 1)) + a2) 240]) (pc' := 14) (lv' := [(0, .ref 1), (1, .int a1), (2, .int a2), (3, .int a3)]) (st' := []) (u' := (xU (mI u 2 (Int32.toNatClampNeg ((a1 * (u.1 1 1)) + a2)) a3))) [(.aload_n 0, (0, 0, 0), 0, 0), (.getfield 19, (1, 3, 122), 0, 0), (.iload_n 1, (0, 0, 0), 0, 0), (.aload_n 0, (0, 0, 0), 0, 0), (.getfield 13, (1, 1, 119), 0, 0), (.imul, (0, 0, 0), 0, 0), (.iload_n 2, (0, 0, 0), 0, 0), (.iadd, (0, 0, 0), 0, 0), (.iload_n 3, (0, 0, 0), 0, 0), (.iastore, (0, 0, 0), 0, 0)] (by decide +kernel) rfl ?_
  exact xm_vret (pc := 14) (by decide +kernel) rfl rfl
theorem ev_X1_setCell_1 (a1 : Int32) (a2 : Int32) (a3 : Int32) (u : xN) : ∀ r, f_X1_setCell_1 a1 a2 a3 u = some r → xEm md_X1_setCell_1 yX1_setCell [.ref 1, .int a1, .int a2, .int a3] (xU u) (none, xU r) := xm_met (res := rsV) (as := [.ref 1, .int a1, .int a2, .int a3]) (go_X1_setCell_1 a1 a2 a3 u) (by decide) rfl (Nat.le_of_ble_eq_true rfl)
theorem mw_X3_lay : xMv yX3_lay cX3_lay 5 (some .int) 3 := xMv_of (p1 := 275) (p2 := 273) (p3 := 92) (p4 := 274) (by decide +kernel)
/-! NeitherBare.lay(III)I (0, None, None, None) -/
abbrev md_X3_lay : xMd := (cX3_lay, RX3, 5, some .int, 4)
def f_X3_lay (a1 : Int32) (a2 : Int32) (a3 : Int32) (u : xN) : Option (Int32 × xN) := Option.bind (f_X3_refusedCell_1 a1 a2 u) (fun r7 => if r7.1 = (0 : Int32) then Option.bind (f_X1_cellOf_1 a1 a2 r7.2) (fun r27 => Option.bind (f_X1_setCell_1 a1 a2 a3 (mI r7.2 0 10 r27)) (fun r40 => some ((1 : Int32), r40))) else some (r7.1, r7.2))
set_option maxRecDepth 20000 in
theorem go_X3_lay (a1 : Int32) (a2 : Int32) (a3 : Int32) (u : xN) : xGm md_X3_lay rsM (f_X3_lay a1 a2 a3 u) 0 [(0, .ref 0), (1, .int a1), (2, .int a2), (3, .int a3)] [] (xU u) := by
  unfold f_X3_lay
  refine xm_blk0 (pc' := 7) (lv' := [(0, .ref 0), (1, .int a1), (2, .int a2), (3, .int a3)]) (st' := [.int a2, .int a1, .ref 1, .ref 0]) (u' := (xU u)) [(.aload_n 0, (0, 0, 0), 0, 0), (.aload_n 0, (0, 0, 0), 0, 0), (.getfield 14, (3, 0, 206), 0, 0), (.iload_n 1, (0, 0, 0), 0, 0), (.iload_n 2, (0, 0, 0), 0, 0)] (by decide +kernel) rfl ?_
  refine xm_Vm (pc := 7) (mz := md_X3_refusedCell_1) (idx := 64) (p1 := 276) (a := 0) (as := [.ref 1, .int a1, .int a2]) (st := []) (ev_X3_refusedCell_1 a1 a2 u) mw_X3_refusedCell (by decide +kernel) (by decide +kernel) (by decide) rfl rfl (by decide) rfl (Nat.le_of_ble_eq_true rfl) (fun r7 => ?_)
  refine xm_blk0 (pc' := 14) (lv' := [(0, .ref 0), (1, .int a1), (2, .int a2), (3, .int a3), (4, .int r7.1)]) (st' := [.int r7.1]) (u' := (xU r7.2)) [(.istore 4, (0, 0, 0), 0, 0), (.iload 4, (0, 0, 0), 0, 0)] (by decide +kernel) rfl ?_
  refine xm_if_eq (pc := 14) (off := 6) (tgt := 20) (by decide +kernel) (by decide) ?_ ?_
  · refine xm_blk0 (pc' := 27) (lv' := [(0, .ref 0), (1, .int a1), (2, .int a2), (3, .int a3), (4, .int r7.1)]) (st' := [.int a2, .int a1, .ref 1, .ref 0]) (u' := (xU r7.2)) [(.aload_n 0, (0, 0, 0), 0, 0), (.aload_n 0, (0, 0, 0), 0, 0), (.getfield 14, (3, 0, 206), 0, 0), (.iload_n 1, (0, 0, 0), 0, 0), (.iload_n 2, (0, 0, 0), 0, 0)] (by decide +kernel) rfl ?_
    refine xm_Vi (pc := 27) (mz := md_X1_cellOf_1) (idx := 67) (p1 := 292) (a := 1) (as := [.int a1, .int a2]) (st := [.ref 0]) (ev_X1_cellOf_1 a1 a2 r7.2) mw_X1_cellOf (by decide +kernel) (by decide +kernel) (by decide) rfl rfl (by decide) rfl (Nat.le_of_ble_eq_true rfl) (fun r27 => ?_)
    refine xm_blk0 (pc' := 40) (lv' := [(0, .ref 0), (1, .int a1), (2, .int a2), (3, .int a3), (4, .int r7.1)]) (st' := [.int a3, .int a2, .int a1, .ref 1]) (u' := (xU (mI r7.2 0 10 r27))) [(.putfield 71, (3, 10, 216), 0, 0), (.aload_n 0, (0, 0, 0), 0, 0), (.getfield 14, (3, 0, 206), 0, 0), (.iload_n 1, (0, 0, 0), 0, 0), (.iload_n 2, (0, 0, 0), 0, 0), (.iload_n 3, (0, 0, 0), 0, 0)] (by decide +kernel) rfl ?_
    refine xm_Vv (pc := 40) (mz := md_X1_setCell_1) (idx := 75) (p1 := 296) (a := 1) (as := [.int a1, .int a2, .int a3]) (st := []) (ev_X1_setCell_1 a1 a2 a3 (mI r7.2 0 10 r27)) mw_X1_setCell (by decide +kernel) (by decide +kernel) (by decide) rfl rfl (by decide) rfl (Nat.le_of_ble_eq_true rfl) (fun r40 => ?_)
    refine xm_blk0 (pc' := 44) (lv' := [(0, .ref 0), (1, .int a1), (2, .int a2), (3, .int a3), (4, .int r7.1)]) (st' := [.int (1 : Int32)]) (u' := (xU r40)) [(.iconst 1, (0, 0, 0), 1, 0)] (by decide +kernel) rfl ?_
    exact xm_iret (pc := 44) (by decide +kernel) rfl rfl
  · refine xm_blk0 (pc' := 19) (lv' := [(0, .ref 0), (1, .int a1), (2, .int a2), (3, .int a3), (4, .int r7.1)]) (st' := [.int r7.1]) (u' := (xU r7.2)) [(.iload 4, (0, 0, 0), 0, 0)] (by decide +kernel) rfl ?_
    exact xm_iret (pc := 19) (by decide +kernel) rfl rfl
theorem ev_X3_lay (a1 : Int32) (a2 : Int32) (a3 : Int32) (u : xN) : ∀ r, f_X3_lay a1 a2 a3 u = some r → xEm md_X3_lay yX3_lay [.ref 0, .int a1, .int a2, .int a3] (xU u) (some (.int r.1), xU r.2) := xm_met (res := rsM) (as := [.ref 0, .int a1, .int a2, .int a3]) (go_X3_lay a1 a2 a3 u) (by decide) rfl (Nat.le_of_ble_eq_true rfl)
theorem mw_X3_at : xMv yX3_at cX3_at 4 (some .int) 2 := xMv_of (p1 := 303) (p2 := 301) (p3 := 92) (p4 := 302) (by decide +kernel)
/-! NeitherBare.at(II)I (0, None, None) -/
abbrev md_X3_at : xMd := (cX3_at, RX3, 4, some .int, 4)
def f_X3_at (a1 : Int32) (a2 : Int32) (u : xN) : Option (Int32 × xN) := Option.bind (f_X3_refusedCell_1 a1 a2 u) (fun r7 => if r7.1 = (0 : Int32) then Option.bind (f_X1_cellOf_1 a1 a2 r7.2) (fun r24 => some ((1 : Int32), mI r7.2 0 10 r24)) else some (r7.1, r7.2))
set_option maxRecDepth 20000 in
theorem go_X3_at (a1 : Int32) (a2 : Int32) (u : xN) : xGm md_X3_at rsM (f_X3_at a1 a2 u) 0 [(0, .ref 0), (1, .int a1), (2, .int a2)] [] (xU u) := by
  unfold f_X3_at
  refine xm_blk0 (pc' := 7) (lv' := [(0, .ref 0), (1, .int a1), (2, .int a2)]) (st' := [.int a2, .int a1, .ref 1, .ref 0]) (u' := (xU u)) [(.aload_n 0, (0, 0, 0), 0, 0), (.aload_n 0, (0, 0, 0), 0, 0), (.getfield 14, (3, 0, 206), 0, 0), (.iload_n 1, (0, 0, 0), 0, 0), (.iload_n 2, (0, 0, 0), 0, 0)] (by decide +kernel) rfl ?_
  refine xm_Vm (pc := 7) (mz := md_X3_refusedCell_1) (idx := 64) (p1 := 276) (a := 0) (as := [.ref 1, .int a1, .int a2]) (st := []) (ev_X3_refusedCell_1 a1 a2 u) mw_X3_refusedCell (by decide +kernel) (by decide +kernel) (by decide) rfl rfl (by decide) rfl (Nat.le_of_ble_eq_true rfl) (fun r7 => ?_)
  refine xm_blk0 (pc' := 12) (lv' := [(0, .ref 0), (1, .int a1), (2, .int a2), (3, .int r7.1)]) (st' := [.int r7.1]) (u' := (xU r7.2)) [(.istore_n 3, (0, 0, 0), 0, 0), (.iload_n 3, (0, 0, 0), 0, 0)] (by decide +kernel) rfl ?_
  refine xm_if_eq (pc := 12) (off := 5) (tgt := 17) (by decide +kernel) (by decide) ?_ ?_
  · refine xm_blk0 (pc' := 24) (lv' := [(0, .ref 0), (1, .int a1), (2, .int a2), (3, .int r7.1)]) (st' := [.int a2, .int a1, .ref 1, .ref 0]) (u' := (xU r7.2)) [(.aload_n 0, (0, 0, 0), 0, 0), (.aload_n 0, (0, 0, 0), 0, 0), (.getfield 14, (3, 0, 206), 0, 0), (.iload_n 1, (0, 0, 0), 0, 0), (.iload_n 2, (0, 0, 0), 0, 0)] (by decide +kernel) rfl ?_
    refine xm_Vi (pc := 24) (mz := md_X1_cellOf_1) (idx := 67) (p1 := 292) (a := 1) (as := [.int a1, .int a2]) (st := [.ref 0]) (ev_X1_cellOf_1 a1 a2 r7.2) mw_X1_cellOf (by decide +kernel) (by decide +kernel) (by decide) rfl rfl (by decide) rfl (Nat.le_of_ble_eq_true rfl) (fun r24 => ?_)
    refine xm_blk0 (pc' := 31) (lv' := [(0, .ref 0), (1, .int a1), (2, .int a2), (3, .int r7.1)]) (st' := [.int (1 : Int32)]) (u' := (xU (mI r7.2 0 10 r24))) [(.putfield 71, (3, 10, 216), 0, 0), (.iconst 1, (0, 0, 0), 1, 0)] (by decide +kernel) rfl ?_
    exact xm_iret (pc := 31) (by decide +kernel) rfl rfl
  · refine xm_blk0 (pc' := 16) (lv' := [(0, .ref 0), (1, .int a1), (2, .int a2), (3, .int r7.1)]) (st' := [.int r7.1]) (u' := (xU r7.2)) [(.iload_n 3, (0, 0, 0), 0, 0)] (by decide +kernel) rfl ?_
    exact xm_iret (pc := 16) (by decide +kernel) rfl rfl
theorem ev_X3_at (a1 : Int32) (a2 : Int32) (u : xN) : ∀ r, f_X3_at a1 a2 u = some r → xEm md_X3_at yX3_at [.ref 0, .int a1, .int a2] (xU u) (some (.int r.1), xU r.2) := xm_met (res := rsM) (as := [.ref 0, .int a1, .int a2]) (go_X3_at a1 a2 u) (by decide) rfl (Nat.le_of_ble_eq_true rfl)
theorem mw_X1_remove : xMv yX1_remove cX1_remove 2 none 1 := xMv_of (p1 := 311) (p2 := 309) (p3 := 93) (p4 := 310) (by decide +kernel)
/-! NeitherBare$Shelf.remove(I)V (1, None) -/
abbrev md_X1_remove_1 : xMd := (cX1_remove, RX1, 2, none, 1)
def f_X1_remove_1 (a1 : Int32) (u : xN) : Option xN := gdl [inb a1 6] (some (mI u 3 (Int32.toNatClampNeg a1) (-1 : Int32)))
set_option maxRecDepth 20000 in
theorem go_X1_remove_1 (a1 : Int32) (u : xN) : xGm md_X1_remove_1 rsV (f_X1_remove_1 a1 u) 0 [(0, .ref 1), (1, .int a1)] [] (xU u) := by
  unfold f_X1_remove_1
  refine xm_blk (bs := [inb a1 6]) (pc' := 7) (lv' := [(0, .ref 1), (1, .int a1)]) (st' := []) (u' := (xU (mI u 3 (Int32.toNatClampNeg a1) (-1 : Int32)))) [(.aload_n 0, (0, 0, 0), 0, 0), (.getfield 23, (1, 4, 123), 0, 0), (.iload_n 1, (0, 0, 0), 0, 0), (.iconst (-1), (0, 0, 0), -1, 0), (.iastore, (0, 0, 0), 0, 0)] (by decide +kernel) rfl ?_
  exact xm_vret (pc := 7) (by decide +kernel) rfl rfl
theorem ev_X1_remove_1 (a1 : Int32) (u : xN) : ∀ r, f_X1_remove_1 a1 u = some r → xEm md_X1_remove_1 yX1_remove [.ref 1, .int a1] (xU u) (none, xU r) := xm_met (res := rsV) (as := [.ref 1, .int a1]) (go_X1_remove_1 a1 u) (by decide) rfl (Nat.le_of_ble_eq_true rfl)
theorem mw_X3_tear : xMv yX3_tear cX3_tear 3 (some .int) 1 := xMv_of (p1 := 307) (p2 := 305) (p3 := 92) (p4 := 306) (by decide +kernel)
/-! NeitherBare.tear(I)I (0, None) -/
abbrev md_X3_tear : xMd := (cX3_tear, RX3, 3, some .int, 3)
def f_X3_tear (a1 : Int32) (u : xN) : Option (Int32 × xN) := Option.bind (f_X3_refusedPlace_1 a1 u) (fun r6 => if r6.1 = (0 : Int32) then Option.bind (f_X1_remove_1 a1 r6.2) (fun r21 => some ((1 : Int32), r21)) else some (r6.1, r6.2))
set_option maxRecDepth 20000 in
theorem go_X3_tear (a1 : Int32) (u : xN) : xGm md_X3_tear rsM (f_X3_tear a1 u) 0 [(0, .ref 0), (1, .int a1)] [] (xU u) := by
  unfold f_X3_tear
  refine xm_blk0 (pc' := 6) (lv' := [(0, .ref 0), (1, .int a1)]) (st' := [.int a1, .ref 1, .ref 0]) (u' := (xU u)) [(.aload_n 0, (0, 0, 0), 0, 0), (.aload_n 0, (0, 0, 0), 0, 0), (.getfield 14, (3, 0, 206), 0, 0), (.iload_n 1, (0, 0, 0), 0, 0)] (by decide +kernel) rfl ?_
  refine xm_Vm (pc := 6) (mz := md_X3_refusedPlace_1) (idx := 78) (p1 := 280) (a := 0) (as := [.ref 1, .int a1]) (st := []) (ev_X3_refusedPlace_1 a1 u) mw_X3_refusedPlace (by decide +kernel) (by decide +kernel) (by decide) rfl rfl (by decide) rfl (Nat.le_of_ble_eq_true rfl) (fun r6 => ?_)
  refine xm_blk0 (pc' := 11) (lv' := [(0, .ref 0), (1, .int a1), (2, .int r6.1)]) (st' := [.int r6.1]) (u' := (xU r6.2)) [(.istore_n 2, (0, 0, 0), 0, 0), (.iload_n 2, (0, 0, 0), 0, 0)] (by decide +kernel) rfl ?_
  refine xm_if_eq (pc := 11) (off := 5) (tgt := 16) (by decide +kernel) (by decide) ?_ ?_
  · refine xm_blk0 (pc' := 21) (lv' := [(0, .ref 0), (1, .int a1), (2, .int r6.1)]) (st' := [.int a1, .ref 1]) (u' := (xU r6.2)) [(.aload_n 0, (0, 0, 0), 0, 0), (.getfield 14, (3, 0, 206), 0, 0), (.iload_n 1, (0, 0, 0), 0, 0)] (by decide +kernel) rfl ?_
    refine xm_Vv (pc := 21) (mz := md_X1_remove_1) (idx := 82) (p1 := 308) (a := 1) (as := [.int a1]) (st := []) (ev_X1_remove_1 a1 r6.2) mw_X1_remove (by decide +kernel) (by decide +kernel) (by decide) rfl rfl (by decide) rfl (Nat.le_of_ble_eq_true rfl) (fun r21 => ?_)
    refine xm_blk0 (pc' := 25) (lv' := [(0, .ref 0), (1, .int a1), (2, .int r6.1)]) (st' := [.int (1 : Int32)]) (u' := (xU r21)) [(.iconst 1, (0, 0, 0), 1, 0)] (by decide +kernel) rfl ?_
    exact xm_iret (pc := 25) (by decide +kernel) rfl rfl
  · refine xm_blk0 (pc' := 15) (lv' := [(0, .ref 0), (1, .int a1), (2, .int r6.1)]) (st' := [.int r6.1]) (u' := (xU r6.2)) [(.iload_n 2, (0, 0, 0), 0, 0)] (by decide +kernel) rfl ?_
    exact xm_iret (pc := 15) (by decide +kernel) rfl rfl
theorem ev_X3_tear (a1 : Int32) (u : xN) : ∀ r, f_X3_tear a1 u = some r → xEm md_X3_tear yX3_tear [.ref 0, .int a1] (xU u) (some (.int r.1), xU r.2) := xm_met (res := rsM) (as := [.ref 0, .int a1]) (go_X3_tear a1 u) (by decide) rfl (Nat.le_of_ble_eq_true rfl)
theorem mw_X1_moveStretch : xMv yX1_moveStretch cX1_moveStretch 6 none 5 := xMv_of (p1 := 319) (p2 := 317) (p3 := 93) (p4 := 318) (by decide +kernel)
/-! NeitherBare$Shelf.moveStretch(IIIII)V (1, None, None, None, None, None) -/
abbrev md_X1_moveStretch_1 : xMd := (cX1_moveStretch, RX1, 6, none, 1)
def f_X1_moveStretch_1 (a1 : Int32) (a2 : Int32) (a3 : Int32) (a4 : Int32) (a5 : Int32) (u : xN) : Option xN := gdl [cpok ((a1 * (u.1 1 1)) + a2) ((a3 * (u.1 1 1)) + a4) a5 240 240] (some (mCp u 2 2 ((a1 * (u.1 1 1)) + a2) ((a3 * (u.1 1 1)) + a4) a5))
set_option maxRecDepth 20000 in
theorem go_X1_moveStretch_1 (a1 : Int32) (a2 : Int32) (a3 : Int32) (a4 : Int32) (a5 : Int32) (u : xN) : xGm md_X1_moveStretch_1 rsV (f_X1_moveStretch_1 a1 a2 a3 a4 a5 u) 0 [(0, .ref 1), (1, .int a1), (2, .int a2), (3, .int a3), (4, .int a4), (5, .int a5)] [] (xU u) := by
  unfold f_X1_moveStretch_1
  refine xm_blk0 (pc' := 27) (lv' := [(0, .ref 1), (1, .int a1), (2, .int a2), (3, .int a3), (4, .int a4), (5, .int a5)]) (st' := [.int a5, .int ((a3 * (u.1 1 1)) + a4), .ref 2, .int ((a1 * (u.1 1 1)) + a2), .ref 2]) (u' := (xU u)) [(.aload_n 0, (0, 0, 0), 0, 0), (.getfield 19, (1, 3, 122), 0, 0), (.iload_n 1, (0, 0, 0), 0, 0), (.aload_n 0, (0, 0, 0), 0, 0), (.getfield 13, (1, 1, 119), 0, 0), (.imul, (0, 0, 0), 0, 0), (.iload_n 2, (0, 0, 0), 0, 0), (.iadd, (0, 0, 0), 0, 0), (.aload_n 0, (0, 0, 0), 0, 0), (.getfield 19, (1, 3, 122), 0, 0), (.iload_n 3, (0, 0, 0), 0, 0), (.aload_n 0, (0, 0, 0), 0, 0), (.getfield 13, (1, 1, 119), 0, 0), (.imul, (0, 0, 0), 0, 0), (.iload 4, (0, 0, 0), 0, 0), (.iadd, (0, 0, 0), 0, 0), (.iload 5, (0, 0, 0), 0, 0)] (by decide +kernel) rfl ?_
  refine xm_acopy (pc := 27) (idx := 35) (p1 := 320) 240 240 (by decide +kernel) (by decide +kernel) rfl rfl (by decide) (by decide) (by decide) (Nat.le_of_ble_eq_true rfl) ?_
  show xGm md_X1_moveStretch_1 rsV _ 30 [(0, .ref 1), (1, .int a1), (2, .int a2), (3, .int a3), (4, .int a4), (5, .int a5)] [] (xU (mCp u 2 2 ((a1 * (u.1 1 1)) + a2) ((a3 * (u.1 1 1)) + a4) a5))
  exact xm_vret (pc := 30) (by decide +kernel) rfl rfl
theorem ev_X1_moveStretch_1 (a1 : Int32) (a2 : Int32) (a3 : Int32) (a4 : Int32) (a5 : Int32) (u : xN) : ∀ r, f_X1_moveStretch_1 a1 a2 a3 a4 a5 u = some r → xEm md_X1_moveStretch_1 yX1_moveStretch [.ref 1, .int a1, .int a2, .int a3, .int a4, .int a5] (xU u) (none, xU r) := xm_met (res := rsV) (as := [.ref 1, .int a1, .int a2, .int a3, .int a4, .int a5]) (go_X1_moveStretch_1 a1 a2 a3 a4 a5 u) (by decide) rfl (Nat.le_of_ble_eq_true rfl)
theorem mw_X3_copy : xMv yX3_copy cX3_copy 6 (some .int) 5 := xMv_of (p1 := 315) (p2 := 313) (p3 := 92) (p4 := 314) (by decide +kernel)
/-! NeitherBare.copy(IIIII)I (0, None, None, None, None, None) -/
abbrev md_X3_copy : xMd := (cX3_copy, RX3, 6, some .int, 2)
def f_X3_copy_L22 (u : xN) : Option (Int32 × xN) := some ((-1 : Int32), u)
set_option maxRecDepth 20000 in
theorem go_X3_copy_L22 (u : xN) : xGm md_X3_copy rsM (f_X3_copy_L22 u) 22 [] [] (xU u) := by
  unfold f_X3_copy_L22
  refine xm_blk0 (pc' := 23) (lv' := []) (st' := [.int (-1 : Int32)]) (u' := (xU u)) [(.iconst (-1), (0, 0, 0), -1, 0)] (by decide +kernel) rfl ?_
  exact xm_iret (pc := 23) (by decide +kernel) rfl rfl
def f_X3_copy_L57 (u : xN) : Option (Int32 × xN) := Option.bind (f_X3_refuse (1 : Int32) u) (fun r59 => some (r59.1, r59.2))
set_option maxRecDepth 20000 in
theorem go_X3_copy_L57 (u : xN) : xGm md_X3_copy rsM (f_X3_copy_L57 u) 57 [(0, .ref 0)] [] (xU u) := by
  unfold f_X3_copy_L57
  refine xm_blk0 (pc' := 59) (lv' := [(0, .ref 0)]) (st' := [.int (1 : Int32), .ref 0]) (u' := (xU u)) [(.aload_n 0, (0, 0, 0), 0, 0), (.iconst 1, (0, 0, 0), 1, 0)] (by decide +kernel) rfl ?_
  refine xm_Vm (pc := 59) (mz := md_X3_refuse) (idx := 89) (p1 := 258) (a := 0) (as := [.int (1 : Int32)]) (st := []) (ev_X3_refuse (1 : Int32) u) mw_X3_refuse (by decide +kernel) (by decide +kernel) (by decide) rfl rfl (by decide) rfl (Nat.le_of_ble_eq_true rfl) (fun r59 => ?_)
  exact xm_iret (pc := 62) (by decide +kernel) rfl rfl
def f_X3_copy_L92 (u : xN) : Option (Int32 × xN) := Option.bind (f_X3_refuse (2 : Int32) u) (fun r94 => some (r94.1, r94.2))
set_option maxRecDepth 20000 in
theorem go_X3_copy_L92 (u : xN) : xGm md_X3_copy rsM (f_X3_copy_L92 u) 92 [(0, .ref 0)] [] (xU u) := by
  unfold f_X3_copy_L92
  refine xm_blk0 (pc' := 94) (lv' := [(0, .ref 0)]) (st' := [.int (2 : Int32), .ref 0]) (u' := (xU u)) [(.aload_n 0, (0, 0, 0), 0, 0), (.iconst 2, (0, 0, 0), 2, 0)] (by decide +kernel) rfl ?_
  refine xm_Vm (pc := 94) (mz := md_X3_refuse) (idx := 89) (p1 := 258) (a := 0) (as := [.int (2 : Int32)]) (st := []) (ev_X3_refuse (2 : Int32) u) mw_X3_refuse (by decide +kernel) (by decide +kernel) (by decide) rfl rfl (by decide) rfl (Nat.le_of_ble_eq_true rfl) (fun r94 => ?_)
  exact xm_iret (pc := 97) (by decide +kernel) rfl rfl
def f_X3_copy (a1 : Int32) (a2 : Int32) (a3 : Int32) (a4 : Int32) (a5 : Int32) (u : xN) : Option (Int32 × xN) := Option.bind (f_X1_isPlace_1 a1 u) (fun r5 => if r5 = (0 : Int32) then f_X3_copy_L22 u else Option.bind (f_X1_isPlace_1 a3 u) (fun r16 => if r16 = (0 : Int32) then f_X3_copy_L22 u else if (0 : Int32) ≤ a5 then Option.bind (f_X1_isThere_1 a1 u) (fun r40 => if r40 = (0 : Int32) then f_X3_copy_L57 u else Option.bind (f_X1_isThere_1 a3 u) (fun r51 => if r51 = (0 : Int32) then f_X3_copy_L57 u else Option.bind (f_X1_hasStretch_1 a1 a2 a5 u) (fun r71 => if r71 = (0 : Int32) then f_X3_copy_L92 u else Option.bind (f_X1_hasStretch_1 a3 a4 a5 u) (fun r86 => if r86 = (0 : Int32) then f_X3_copy_L92 u else Option.bind (f_X1_moveStretch_1 a1 a2 a3 a4 a5 u) (fun r109 => some ((1 : Int32), r109)))))) else Option.bind (f_X3_refuse (5 : Int32) u) (fun r31 => some (r31.1, r31.2))))
set_option maxRecDepth 20000 in
theorem go_X3_copy (a1 : Int32) (a2 : Int32) (a3 : Int32) (a4 : Int32) (a5 : Int32) (u : xN) : xGm md_X3_copy rsM (f_X3_copy a1 a2 a3 a4 a5 u) 0 [(0, .ref 0), (1, .int a1), (2, .int a2), (3, .int a3), (4, .int a4), (5, .int a5)] [] (xU u) := by
  unfold f_X3_copy
  refine xm_blk0 (pc' := 5) (lv' := [(0, .ref 0), (1, .int a1), (2, .int a2), (3, .int a3), (4, .int a4), (5, .int a5)]) (st' := [.int a1, .ref 1]) (u' := (xU u)) [(.aload_n 0, (0, 0, 0), 0, 0), (.getfield 14, (3, 0, 206), 0, 0), (.iload_n 1, (0, 0, 0), 0, 0)] (by decide +kernel) rfl ?_
  refine xm_Vi (pc := 5) (mz := md_X1_isPlace_1) (idx := 85) (p1 := 254) (a := 1) (as := [.int a1]) (st := []) (ev_X1_isPlace_1 a1 u) mw_X1_isPlace (by decide +kernel) (by decide +kernel) (by decide) rfl rfl (by decide) rfl (Nat.le_of_ble_eq_true rfl) (fun r5 => ?_)
  refine xm_if_eq (pc := 8) (off := 14) (tgt := 22) (by decide +kernel) (by decide) ?_ ?_
  · refine xm_wk [] (lv' := []) rfl ?_
    exact go_X3_copy_L22 u
  · refine xm_blk0 (pc' := 16) (lv' := [(0, .ref 0), (1, .int a1), (2, .int a2), (3, .int a3), (4, .int a4), (5, .int a5)]) (st' := [.int a3, .ref 1]) (u' := (xU u)) [(.aload_n 0, (0, 0, 0), 0, 0), (.getfield 14, (3, 0, 206), 0, 0), (.iload_n 3, (0, 0, 0), 0, 0)] (by decide +kernel) rfl ?_
    refine xm_Vi (pc := 16) (mz := md_X1_isPlace_1) (idx := 85) (p1 := 254) (a := 1) (as := [.int a3]) (st := []) (ev_X1_isPlace_1 a3 u) mw_X1_isPlace (by decide +kernel) (by decide +kernel) (by decide) rfl rfl (by decide) rfl (Nat.le_of_ble_eq_true rfl) (fun r16 => ?_)
    refine xm_if_ne (pc := 19) (off := 5) (tgt := 24) (by decide +kernel) (by decide) ?_ ?_
    · refine xm_blk0 (pc' := 26) (lv' := [(0, .ref 0), (1, .int a1), (2, .int a2), (3, .int a3), (4, .int a4), (5, .int a5)]) (st' := [.int a5]) (u' := (xU u)) [(.iload 5, (0, 0, 0), 0, 0)] (by decide +kernel) rfl ?_
      refine xm_if_ge (pc := 26) (off := 9) (tgt := 35) (by decide +kernel) (by decide) ?_ ?_
      · refine xm_blk0 (pc' := 40) (lv' := [(0, .ref 0), (1, .int a1), (2, .int a2), (3, .int a3), (4, .int a4), (5, .int a5)]) (st' := [.int a1, .ref 1]) (u' := (xU u)) [(.aload_n 0, (0, 0, 0), 0, 0), (.getfield 14, (3, 0, 206), 0, 0), (.iload_n 1, (0, 0, 0), 0, 0)] (by decide +kernel) rfl ?_
        refine xm_Vi (pc := 40) (mz := md_X1_isThere_1) (idx := 93) (p1 := 284) (a := 1) (as := [.int a1]) (st := []) (ev_X1_isThere_1 a1 u) mw_X1_isThere (by decide +kernel) (by decide +kernel) (by decide) rfl rfl (by decide) rfl (Nat.le_of_ble_eq_true rfl) (fun r40 => ?_)
        refine xm_if_eq (pc := 43) (off := 14) (tgt := 57) (by decide +kernel) (by decide) ?_ ?_
        · refine xm_wk [0] (lv' := [(0, .ref 0)]) rfl ?_
          exact go_X3_copy_L57 u
        · refine xm_blk0 (pc' := 51) (lv' := [(0, .ref 0), (1, .int a1), (2, .int a2), (3, .int a3), (4, .int a4), (5, .int a5)]) (st' := [.int a3, .ref 1]) (u' := (xU u)) [(.aload_n 0, (0, 0, 0), 0, 0), (.getfield 14, (3, 0, 206), 0, 0), (.iload_n 3, (0, 0, 0), 0, 0)] (by decide +kernel) rfl ?_
          refine xm_Vi (pc := 51) (mz := md_X1_isThere_1) (idx := 93) (p1 := 284) (a := 1) (as := [.int a3]) (st := []) (ev_X1_isThere_1 a3 u) mw_X1_isThere (by decide +kernel) (by decide +kernel) (by decide) rfl rfl (by decide) rfl (Nat.le_of_ble_eq_true rfl) (fun r51 => ?_)
          refine xm_if_ne (pc := 54) (off := 9) (tgt := 63) (by decide +kernel) (by decide) ?_ ?_
          · refine xm_blk0 (pc' := 71) (lv' := [(0, .ref 0), (1, .int a1), (2, .int a2), (3, .int a3), (4, .int a4), (5, .int a5)]) (st' := [.int a5, .int a2, .int a1, .ref 1]) (u' := (xU u)) [(.aload_n 0, (0, 0, 0), 0, 0), (.getfield 14, (3, 0, 206), 0, 0), (.iload_n 1, (0, 0, 0), 0, 0), (.iload_n 2, (0, 0, 0), 0, 0), (.iload 5, (0, 0, 0), 0, 0)] (by decide +kernel) rfl ?_
            refine xm_Vi (pc := 71) (mz := md_X1_hasStretch_1) (idx := 96) (p1 := 288) (a := 1) (as := [.int a1, .int a2, .int a5]) (st := []) (ev_X1_hasStretch_1 a1 a2 a5 u) mw_X1_hasStretch (by decide +kernel) (by decide +kernel) (by decide) rfl rfl (by decide) rfl (Nat.le_of_ble_eq_true rfl) (fun r71 => ?_)
            refine xm_if_eq (pc := 74) (off := 18) (tgt := 92) (by decide +kernel) (by decide) ?_ ?_
            · refine xm_wk [0] (lv' := [(0, .ref 0)]) rfl ?_
              exact go_X3_copy_L92 u
            · refine xm_blk0 (pc' := 86) (lv' := [(0, .ref 0), (1, .int a1), (2, .int a2), (3, .int a3), (4, .int a4), (5, .int a5)]) (st' := [.int a5, .int a4, .int a3, .ref 1]) (u' := (xU u)) [(.aload_n 0, (0, 0, 0), 0, 0), (.getfield 14, (3, 0, 206), 0, 0), (.iload_n 3, (0, 0, 0), 0, 0), (.iload 4, (0, 0, 0), 0, 0), (.iload 5, (0, 0, 0), 0, 0)] (by decide +kernel) rfl ?_
              refine xm_Vi (pc := 86) (mz := md_X1_hasStretch_1) (idx := 96) (p1 := 288) (a := 1) (as := [.int a3, .int a4, .int a5]) (st := []) (ev_X1_hasStretch_1 a3 a4 a5 u) mw_X1_hasStretch (by decide +kernel) (by decide +kernel) (by decide) rfl rfl (by decide) rfl (Nat.le_of_ble_eq_true rfl) (fun r86 => ?_)
              refine xm_if_ne (pc := 89) (off := 9) (tgt := 98) (by decide +kernel) (by decide) ?_ ?_
              · refine xm_blk0 (pc' := 109) (lv' := [(0, .ref 0), (1, .int a1), (2, .int a2), (3, .int a3), (4, .int a4), (5, .int a5)]) (st' := [.int a5, .int a4, .int a3, .int a2, .int a1, .ref 1]) (u' := (xU u)) [(.aload_n 0, (0, 0, 0), 0, 0), (.getfield 14, (3, 0, 206), 0, 0), (.iload_n 1, (0, 0, 0), 0, 0), (.iload_n 2, (0, 0, 0), 0, 0), (.iload_n 3, (0, 0, 0), 0, 0), (.iload 4, (0, 0, 0), 0, 0), (.iload 5, (0, 0, 0), 0, 0)] (by decide +kernel) rfl ?_
                refine xm_Vv (pc := 109) (mz := md_X1_moveStretch_1) (idx := 100) (p1 := 316) (a := 1) (as := [.int a1, .int a2, .int a3, .int a4, .int a5]) (st := []) (ev_X1_moveStretch_1 a1 a2 a3 a4 a5 u) mw_X1_moveStretch (by decide +kernel) (by decide +kernel) (by decide) rfl rfl (by decide) rfl (Nat.le_of_ble_eq_true rfl) (fun r109 => ?_)
                refine xm_blk0 (pc' := 113) (lv' := [(0, .ref 0), (1, .int a1), (2, .int a2), (3, .int a3), (4, .int a4), (5, .int a5)]) (st' := [.int (1 : Int32)]) (u' := (xU r109)) [(.iconst 1, (0, 0, 0), 1, 0)] (by decide +kernel) rfl ?_
                exact xm_iret (pc := 113) (by decide +kernel) rfl rfl
              · refine xm_wk [0] (lv' := [(0, .ref 0)]) rfl ?_
                exact go_X3_copy_L92 u
          · refine xm_wk [0] (lv' := [(0, .ref 0)]) rfl ?_
            exact go_X3_copy_L57 u
      · refine xm_blk0 (pc' := 31) (lv' := [(0, .ref 0), (1, .int a1), (2, .int a2), (3, .int a3), (4, .int a4), (5, .int a5)]) (st' := [.int (5 : Int32), .ref 0]) (u' := (xU u)) [(.aload_n 0, (0, 0, 0), 0, 0), (.iconst 5, (0, 0, 0), 5, 0)] (by decide +kernel) rfl ?_
        refine xm_Vm (pc := 31) (mz := md_X3_refuse) (idx := 89) (p1 := 258) (a := 0) (as := [.int (5 : Int32)]) (st := []) (ev_X3_refuse (5 : Int32) u) mw_X3_refuse (by decide +kernel) (by decide +kernel) (by decide) rfl rfl (by decide) rfl (Nat.le_of_ble_eq_true rfl) (fun r31 => ?_)
        exact xm_iret (pc := 34) (by decide +kernel) rfl rfl
    · refine xm_wk [] (lv' := []) rfl ?_
      exact go_X3_copy_L22 u
theorem ev_X3_copy (a1 : Int32) (a2 : Int32) (a3 : Int32) (a4 : Int32) (a5 : Int32) (u : xN) : ∀ r, f_X3_copy a1 a2 a3 a4 a5 u = some r → xEm md_X3_copy yX3_copy [.ref 0, .int a1, .int a2, .int a3, .int a4, .int a5] (xU u) (some (.int r.1), xU r.2) := xm_met (res := rsM) (as := [.ref 0, .int a1, .int a2, .int a3, .int a4, .int a5]) (go_X3_copy a1 a2 a3 a4 a5 u) (by decide) rfl (Nat.le_of_ble_eq_true rfl)
theorem mw_X1_sizeOf : xMv yX1_sizeOf cX1_sizeOf 2 (some .int) 1 := xMv_of (p1 := 330) (p2 := 328) (p3 := 93) (p4 := 329) (by decide +kernel)
/-! NeitherBare$Shelf.sizeOf(I)I (1, None) -/
abbrev md_X1_sizeOf_1 : xMd := (cX1_sizeOf, RX1, 2, some .int, 1)
def f_X1_sizeOf_1 (a1 : Int32) (u : xN) : Option Int32 := gdl [inb a1 6] (some (u.1 3 (Int32.toNatClampNeg a1)))
set_option maxRecDepth 20000 in
theorem go_X1_sizeOf_1 (a1 : Int32) (u : xN) : xGm md_X1_sizeOf_1 (rsI (xU u)) (f_X1_sizeOf_1 a1 u) 0 [(0, .ref 1), (1, .int a1)] [] (xU u) := by
  unfold f_X1_sizeOf_1
  refine xm_blk (bs := [inb a1 6]) (pc' := 6) (lv' := [(0, .ref 1), (1, .int a1)]) (st' := [.int (u.1 3 (Int32.toNatClampNeg a1))]) (u' := (xU u)) [(.aload_n 0, (0, 0, 0), 0, 0), (.getfield 23, (1, 4, 123), 0, 0), (.iload_n 1, (0, 0, 0), 0, 0), (.iaload, (0, 0, 0), 0, 0)] (by decide +kernel) rfl ?_
  exact xm_iret (pc := 6) (by decide +kernel) rfl rfl
theorem ev_X1_sizeOf_1 (a1 : Int32) (u : xN) : ∀ r, f_X1_sizeOf_1 a1 u = some r → xEm md_X1_sizeOf_1 yX1_sizeOf [.ref 1, .int a1] (xU u) (some (.int r), (xU u)) := xm_met (res := (rsI (xU u))) (as := [.ref 1, .int a1]) (go_X1_sizeOf_1 a1 u) (by decide) rfl (Nat.le_of_ble_eq_true rfl)
theorem mw_X3_mean : xMv yX3_mean cX3_mean 7 (some .int) 1 := xMv_of (p1 := 326) (p2 := 324) (p3 := 92) (p4 := 325) (by decide +kernel)
/-! NeitherBare.mean(I)I (0, None) -/
abbrev md_X3_mean : xMd := (cX3_mean, RX3, 7, some .int, 3)
def f_X3_mean_L41b (N : Nat) (rec41 : Int32 → Int32 → Int64 → Int32 → xN → Option (Int32 × xN)) (v1 : Int32) (v3 : Int32) (v4 : Int64) (v6 : Int32) (u : xN) : Option (Int32 × xN) := if v3 ≤ v6 then (gdl [nzl (Int32.toInt64 v3)] (some ((1 : Int32), mI u 0 10 (Int64.toInt32 (v4 / (Int32.toInt64 v3)))))) else Option.bind (f_X1_cellOf_1 v1 v6 u) (fun r56 => rec41 v1 v3 (v4 + (Int32.toInt64 r56)) (v6 + (1 : Int32)) u)
set_option maxRecDepth 20000 in
theorem go_X3_mean_L41b (N : Nat) (rec41 : Int32 → Int32 → Int64 → Int32 → xN → Option (Int32 × xN)) (h41 : ∀ (v1 : Int32) (v3 : Int32) (v4 : Int64) (v6 : Int32) (u : xN), xGm md_X3_mean rsM (rec41 v1 v3 v4 v6 u) 41 [(0, .ref 0), (1, .int v1), (3, .int v3), (4, .long v4), (6, .int v6)] [] (xU u)) (v1 : Int32) (v3 : Int32) (v4 : Int64) (v6 : Int32) (u : xN) : xGm md_X3_mean rsM (f_X3_mean_L41b N rec41 v1 v3 v4 v6 u) 41 [(0, .ref 0), (1, .int v1), (3, .int v3), (4, .long v4), (6, .int v6)] [] (xU u) := by
  unfold f_X3_mean_L41b
  refine xm_blk0 (pc' := 44) (lv' := [(0, .ref 0), (1, .int v1), (3, .int v3), (4, .long v4), (6, .int v6)]) (st' := [.int v3, .int v6]) (u' := (xU u)) [(.iload 6, (0, 0, 0), 0, 0), (.iload_n 3, (0, 0, 0), 0, 0)] (by decide +kernel) rfl ?_
  refine xm_icmp_ge (pc := 44) (off := 25) (tgt := 69) (by decide +kernel) (by decide) ?_ ?_
  · refine xm_blk (bs := [nzl (Int32.toInt64 v3)]) (pc' := 80) (lv' := [(0, .ref 0), (1, .int v1), (3, .int v3), (4, .long v4), (6, .int v6)]) (st' := [.int (1 : Int32)]) (u' := (xU (mI u 0 10 (Int64.toInt32 (v4 / (Int32.toInt64 v3)))))) [(.aload_n 0, (0, 0, 0), 0, 0), (.lload 4, (0, 0, 0), 0, 0), (.iload_n 3, (0, 0, 0), 0, 0), (.i2l, (0, 0, 0), 0, 0), (.ldiv, (0, 0, 0), 0, 0), (.l2i, (0, 0, 0), 0, 0), (.putfield 71, (3, 10, 216), 0, 0), (.iconst 1, (0, 0, 0), 1, 0)] (by decide +kernel) rfl ?_
    exact xm_iret (pc := 80) (by decide +kernel) rfl rfl
  · refine xm_blk0 (pc' := 56) (lv' := [(0, .ref 0), (1, .int v1), (3, .int v3), (4, .long v4), (6, .int v6)]) (st' := [.int v6, .int v1, .ref 1, .long v4]) (u' := (xU u)) [(.lload 4, (0, 0, 0), 0, 0), (.aload_n 0, (0, 0, 0), 0, 0), (.getfield 14, (3, 0, 206), 0, 0), (.iload_n 1, (0, 0, 0), 0, 0), (.iload 6, (0, 0, 0), 0, 0)] (by decide +kernel) rfl ?_
    refine xm_Vi (pc := 56) (mz := md_X1_cellOf_1) (idx := 67) (p1 := 292) (a := 1) (as := [.int v1, .int v6]) (st := [.long v4]) (ev_X1_cellOf_1 v1 v6 u) mw_X1_cellOf (by decide +kernel) (by decide +kernel) (by decide) rfl rfl (by decide) rfl (Nat.le_of_ble_eq_true rfl) (fun r56 => ?_)
    refine xm_blk0 (pc' := 66) (lv' := [(0, .ref 0), (1, .int v1), (3, .int v3), (4, .long (v4 + (Int32.toInt64 r56))), (6, .int (v6 + (1 : Int32)))]) (st' := []) (u' := (xU u)) [(.i2l, (0, 0, 0), 0, 0), (.ladd, (0, 0, 0), 0, 0), (.lstore 4, (0, 0, 0), 0, 0), (.iinc 6 1, (0, 0, 0), 1, 0)] (by decide +kernel) rfl ?_
    refine xm_goto (pc := 66) (off := -25) (tgt := 41) (by decide +kernel) (by decide) ?_
    exact h41 v1 v3 (v4 + (Int32.toInt64 r56)) (v6 + (1 : Int32)) u
def f_X3_mean_L41 (N : Nat) : Nat → Int32 → Int32 → Int64 → Int32 → xN → Option (Int32 × xN)
  | 0 => fun _ _ _ _ _ => none
  | n + 1 => fun v1 v3 v4 v6 u => f_X3_mean_L41b N (f_X3_mean_L41 N n) v1 v3 v4 v6 u
theorem go_X3_mean_L41 (N : Nat) : ∀ (n : Nat) (v1 : Int32) (v3 : Int32) (v4 : Int64) (v6 : Int32) (u : xN), xGm md_X3_mean rsM (f_X3_mean_L41 N n v1 v3 v4 v6 u) 41 [(0, .ref 0), (1, .int v1), (3, .int v3), (4, .long v4), (6, .int v6)] [] (xU u) := by
  intro n
  induction n with
  | zero => intro v1 v3 v4 v6 u; exact xm_none
  | succ n ih => intro v1 v3 v4 v6 u; exact go_X3_mean_L41b N _ ih v1 v3 v4 v6 u
def f_X3_mean (N : Nat) (a1 : Int32) (u : xN) : Option (Int32 × xN) := Option.bind (f_X3_refusedPlace_1 a1 u) (fun r6 => if r6.1 = (0 : Int32) then Option.bind (f_X1_sizeOf_1 a1 r6.2) (fun r21 => if (0 : Int32) < r21 then f_X3_mean_L41 N N a1 r21 (0 : Int64) (0 : Int32) r6.2 else Option.bind (f_X3_refuse (4 : Int32) r6.2) (fun r31 => some (r31.1, r31.2))) else some (r6.1, r6.2))
set_option maxRecDepth 20000 in
theorem go_X3_mean (N : Nat) (a1 : Int32) (u : xN) : xGm md_X3_mean rsM (f_X3_mean N a1 u) 0 [(0, .ref 0), (1, .int a1)] [] (xU u) := by
  unfold f_X3_mean
  refine xm_blk0 (pc' := 6) (lv' := [(0, .ref 0), (1, .int a1)]) (st' := [.int a1, .ref 1, .ref 0]) (u' := (xU u)) [(.aload_n 0, (0, 0, 0), 0, 0), (.aload_n 0, (0, 0, 0), 0, 0), (.getfield 14, (3, 0, 206), 0, 0), (.iload_n 1, (0, 0, 0), 0, 0)] (by decide +kernel) rfl ?_
  refine xm_Vm (pc := 6) (mz := md_X3_refusedPlace_1) (idx := 78) (p1 := 280) (a := 0) (as := [.ref 1, .int a1]) (st := []) (ev_X3_refusedPlace_1 a1 u) mw_X3_refusedPlace (by decide +kernel) (by decide +kernel) (by decide) rfl rfl (by decide) rfl (Nat.le_of_ble_eq_true rfl) (fun r6 => ?_)
  refine xm_blk0 (pc' := 11) (lv' := [(0, .ref 0), (1, .int a1), (2, .int r6.1)]) (st' := [.int r6.1]) (u' := (xU r6.2)) [(.istore_n 2, (0, 0, 0), 0, 0), (.iload_n 2, (0, 0, 0), 0, 0)] (by decide +kernel) rfl ?_
  refine xm_if_eq (pc := 11) (off := 5) (tgt := 16) (by decide +kernel) (by decide) ?_ ?_
  · refine xm_blk0 (pc' := 21) (lv' := [(0, .ref 0), (1, .int a1), (2, .int r6.1)]) (st' := [.int a1, .ref 1]) (u' := (xU r6.2)) [(.aload_n 0, (0, 0, 0), 0, 0), (.getfield 14, (3, 0, 206), 0, 0), (.iload_n 1, (0, 0, 0), 0, 0)] (by decide +kernel) rfl ?_
    refine xm_Vi (pc := 21) (mz := md_X1_sizeOf_1) (idx := 104) (p1 := 327) (a := 1) (as := [.int a1]) (st := []) (ev_X1_sizeOf_1 a1 r6.2) mw_X1_sizeOf (by decide +kernel) (by decide +kernel) (by decide) rfl rfl (by decide) rfl (Nat.le_of_ble_eq_true rfl) (fun r21 => ?_)
    refine xm_blk0 (pc' := 26) (lv' := [(0, .ref 0), (1, .int a1), (2, .int r6.1), (3, .int r21)]) (st' := [.int r21]) (u' := (xU r6.2)) [(.istore_n 3, (0, 0, 0), 0, 0), (.iload_n 3, (0, 0, 0), 0, 0)] (by decide +kernel) rfl ?_
    refine xm_if_gt (pc := 26) (off := 9) (tgt := 35) (by decide +kernel) (by decide) ?_ ?_
    · refine xm_blk0 (pc' := 41) (lv' := [(0, .ref 0), (1, .int a1), (2, .int r6.1), (3, .int r21), (4, .long (0 : Int64)), (6, .int (0 : Int32))]) (st' := []) (u' := (xU r6.2)) [(.lconst 0, (0, 0, 0), 0, 0), (.lstore 4, (0, 0, 0), 0, 0), (.iconst 0, (0, 0, 0), 0, 0), (.istore 6, (0, 0, 0), 0, 0)] (by decide +kernel) rfl ?_
      refine xm_wk [0, 1, 3, 4, 5] (lv' := [(0, .ref 0), (1, .int a1), (3, .int r21), (4, .long (0 : Int64)), (6, .int (0 : Int32))]) rfl ?_
      exact go_X3_mean_L41 N N a1 r21 (0 : Int64) (0 : Int32) r6.2
    · refine xm_blk0 (pc' := 31) (lv' := [(0, .ref 0), (1, .int a1), (2, .int r6.1), (3, .int r21)]) (st' := [.int (4 : Int32), .ref 0]) (u' := (xU r6.2)) [(.aload_n 0, (0, 0, 0), 0, 0), (.iconst 4, (0, 0, 0), 4, 0)] (by decide +kernel) rfl ?_
      refine xm_Vm (pc := 31) (mz := md_X3_refuse) (idx := 89) (p1 := 258) (a := 0) (as := [.int (4 : Int32)]) (st := []) (ev_X3_refuse (4 : Int32) r6.2) mw_X3_refuse (by decide +kernel) (by decide +kernel) (by decide) rfl rfl (by decide) rfl (Nat.le_of_ble_eq_true rfl) (fun r31 => ?_)
      exact xm_iret (pc := 34) (by decide +kernel) rfl rfl
  · refine xm_blk0 (pc' := 15) (lv' := [(0, .ref 0), (1, .int a1), (2, .int r6.1)]) (st' := [.int r6.1]) (u' := (xU r6.2)) [(.iload_n 2, (0, 0, 0), 0, 0)] (by decide +kernel) rfl ?_
    exact xm_iret (pc := 15) (by decide +kernel) rfl rfl
theorem ev_X3_mean (N : Nat) (a1 : Int32) (u : xN) : ∀ r, f_X3_mean N a1 u = some r → xEm md_X3_mean yX3_mean [.ref 0, .int a1] (xU u) (some (.int r.1), xU r.2) := xm_met (res := rsM) (as := [.ref 0, .int a1]) (go_X3_mean N a1 u) (by decide) rfl (Nat.le_of_ble_eq_true rfl)
/-! NeitherBare$Shelf.isPlace(I)Z (4, None) -/
abbrev md_X1_isPlace_4 : xMd := (cX1_isPlace, RX1, 2, some .boolean, 1)
def f_X1_isPlace_4_L17 (u : xN) (t0 : Int32) : Option Int32 := gdl [isb t0] (some t0)
set_option maxRecDepth 20000 in
theorem go_X1_isPlace_4_L17 (u : xN) (t0 : Int32) : xGm md_X1_isPlace_4 (rsI (xU u)) (f_X1_isPlace_4_L17 u t0) 17 [] [.int t0] (xU u) := by
  unfold f_X1_isPlace_4_L17
  exact xm_zret (pc := 17) (by decide +kernel) rfl rfl
def f_X1_isPlace_4_L16 (u : xN) : Option Int32 := f_X1_isPlace_4_L17 u (0 : Int32)
set_option maxRecDepth 20000 in
theorem go_X1_isPlace_4_L16 (u : xN) : xGm md_X1_isPlace_4 (rsI (xU u)) (f_X1_isPlace_4_L16 u) 16 [] [] (xU u) := by
  unfold f_X1_isPlace_4_L16
  refine xm_blk0 (pc' := 17) (lv' := []) (st' := [.int (0 : Int32)]) (u' := (xU u)) [(.iconst 0, (0, 0, 0), 0, 0)] (by decide +kernel) rfl ?_
  exact go_X1_isPlace_4_L17 u (0 : Int32)
def f_X1_isPlace_4 (a1 : Int32) (u : xN) : Option Int32 := if a1 < (0 : Int32) then f_X1_isPlace_4_L16 u else if (u.1 4 0) ≤ a1 then f_X1_isPlace_4_L16 u else f_X1_isPlace_4_L17 u (1 : Int32)
set_option maxRecDepth 20000 in
theorem go_X1_isPlace_4 (a1 : Int32) (u : xN) : xGm md_X1_isPlace_4 (rsI (xU u)) (f_X1_isPlace_4 a1 u) 0 [(0, .ref 4), (1, .int a1)] [] (xU u) := by
  unfold f_X1_isPlace_4
  refine xm_blk0 (pc' := 1) (lv' := [(0, .ref 4), (1, .int a1)]) (st' := [.int a1]) (u' := (xU u)) [(.iload_n 1, (0, 0, 0), 0, 0)] (by decide +kernel) rfl ?_
  refine xm_if_lt (pc := 1) (off := 15) (tgt := 16) (by decide +kernel) (by decide) ?_ ?_
  · refine xm_wk [] (lv' := []) rfl ?_
    exact go_X1_isPlace_4_L16 u
  · refine xm_blk0 (pc' := 9) (lv' := [(0, .ref 4), (1, .int a1)]) (st' := [.int (u.1 4 0), .int a1]) (u' := (xU u)) [(.iload_n 1, (0, 0, 0), 0, 0), (.aload_n 0, (0, 0, 0), 0, 0), (.getfield 7, (1, 0, 118), 0, 0)] (by decide +kernel) rfl ?_
    refine xm_icmp_ge (pc := 9) (off := 7) (tgt := 16) (by decide +kernel) (by decide) ?_ ?_
    · refine xm_wk [] (lv' := []) rfl ?_
      exact go_X1_isPlace_4_L16 u
    · refine xm_blk0 (pc' := 13) (lv' := [(0, .ref 4), (1, .int a1)]) (st' := [.int (1 : Int32)]) (u' := (xU u)) [(.iconst 1, (0, 0, 0), 1, 0)] (by decide +kernel) rfl ?_
      refine xm_goto (pc := 13) (off := 4) (tgt := 17) (by decide +kernel) (by decide) ?_
      refine xm_wk [] (lv' := []) rfl ?_
      exact go_X1_isPlace_4_L17 u (1 : Int32)
theorem ev_X1_isPlace_4 (a1 : Int32) (u : xN) : ∀ r, f_X1_isPlace_4 a1 u = some r → xEm md_X1_isPlace_4 yX1_isPlace [.ref 4, .int a1] (xU u) (some (.int r), (xU u)) := xm_met (res := (rsI (xU u))) (as := [.ref 4, .int a1]) (go_X1_isPlace_4 a1 u) (by decide) rfl (Nat.le_of_ble_eq_true rfl)
/-! java/util/Arrays.fill([IIII)V (5, None, None, None) -/
abbrev md_J7_fill_fda19_5 : xMd := (cJ7_fill_fda19, RJ7, 5, none, 2)
def f_J7_fill_fda19_5_L10b (N : Nat) (rec10 : Int32 → Int32 → Int32 → xN → Option xN) (v2 : Int32) (v3 : Int32) (v4 : Int32) (u : xN) : Option xN := if v2 ≤ v4 then some u else gdl [inb v4 320] (rec10 v2 v3 (v4 + (1 : Int32)) (mI u 5 (Int32.toNatClampNeg v4) v3))
set_option maxRecDepth 20000 in
theorem go_J7_fill_fda19_5_L10b (N : Nat) (rec10 : Int32 → Int32 → Int32 → xN → Option xN) (h10 : ∀ (v2 : Int32) (v3 : Int32) (v4 : Int32) (u : xN), xGm md_J7_fill_fda19_5 rsV (rec10 v2 v3 v4 u) 10 [(0, .ref 5), (2, .int v2), (3, .int v3), (4, .int v4)] [] (xU u)) (v2 : Int32) (v3 : Int32) (v4 : Int32) (u : xN) : xGm md_J7_fill_fda19_5 rsV (f_J7_fill_fda19_5_L10b N rec10 v2 v3 v4 u) 10 [(0, .ref 5), (2, .int v2), (3, .int v3), (4, .int v4)] [] (xU u) := by
  unfold f_J7_fill_fda19_5_L10b
  refine xm_blk0 (pc' := 13) (lv' := [(0, .ref 5), (2, .int v2), (3, .int v3), (4, .int v4)]) (st' := [.int v2, .int v4]) (u' := (xU u)) [(.iload 4, (0, 0, 0), 0, 0), (.iload_n 2, (0, 0, 0), 0, 0)] (by decide +kernel) rfl ?_
  refine xm_icmp_ge (pc := 13) (off := 14) (tgt := 27) (by decide +kernel) (by decide) ?_ ?_
  · exact xm_vret (pc := 27) (by decide +kernel) rfl rfl
  · refine xm_blk (bs := [inb v4 320]) (pc' := 24) (lv' := [(0, .ref 5), (2, .int v2), (3, .int v3), (4, .int (v4 + (1 : Int32)))]) (st' := []) (u' := (xU (mI u 5 (Int32.toNatClampNeg v4) v3))) [(.aload_n 0, (0, 0, 0), 0, 0), (.iload 4, (0, 0, 0), 0, 0), (.iload_n 3, (0, 0, 0), 0, 0), (.iastore, (0, 0, 0), 0, 0), (.iinc 4 1, (0, 0, 0), 1, 0)] (by decide +kernel) rfl ?_
    refine xm_goto (pc := 24) (off := -14) (tgt := 10) (by decide +kernel) (by decide) ?_
    exact h10 v2 v3 (v4 + (1 : Int32)) (mI u 5 (Int32.toNatClampNeg v4) v3)
def f_J7_fill_fda19_5_L10 (N : Nat) : Nat → Int32 → Int32 → Int32 → xN → Option xN
  | 0 => fun _ _ _ _ => none
  | n + 1 => fun v2 v3 v4 u => f_J7_fill_fda19_5_L10b N (f_J7_fill_fda19_5_L10 N n) v2 v3 v4 u
theorem go_J7_fill_fda19_5_L10 (N : Nat) : ∀ (n : Nat) (v2 : Int32) (v3 : Int32) (v4 : Int32) (u : xN), xGm md_J7_fill_fda19_5 rsV (f_J7_fill_fda19_5_L10 N n v2 v3 v4 u) 10 [(0, .ref 5), (2, .int v2), (3, .int v3), (4, .int v4)] [] (xU u) := by
  intro n
  induction n with
  | zero => intro v2 v3 v4 u; exact xm_none
  | succ n ih => intro v2 v3 v4 u; exact go_J7_fill_fda19_5_L10b N _ ih v2 v3 v4 u
def f_J7_fill_fda19_5 (N : Nat) (a1 : Int32) (a2 : Int32) (a3 : Int32) (u : xN) : Option xN := Option.bind (f_J7_rangeCheck_23922 (320 : Int32) a1 a2 u) (fun r4 => f_J7_fill_fda19_5_L10 N N a2 a3 a1 r4)
set_option maxRecDepth 20000 in
theorem go_J7_fill_fda19_5 (N : Nat) (a1 : Int32) (a2 : Int32) (a3 : Int32) (u : xN) : xGm md_J7_fill_fda19_5 rsV (f_J7_fill_fda19_5 N a1 a2 a3 u) 0 [(0, .ref 5), (1, .int a1), (2, .int a2), (3, .int a3)] [] (xU u) := by
  unfold f_J7_fill_fda19_5
  refine xm_blk0 (pc' := 4) (lv' := [(0, .ref 5), (1, .int a1), (2, .int a2), (3, .int a3)]) (st' := [.int a2, .int a1, .int (320 : Int32)]) (u' := (xU u)) [(.aload_n 0, (0, 0, 0), 0, 0), (.arraylength, (0, 0, 0), 0, 0), (.iload_n 1, (0, 0, 0), 0, 0), (.iload_n 2, (0, 0, 0), 0, 0)] (by decide +kernel) rfl ?_
  refine xm_Sv (pc := 4) (mz := md_J7_rangeCheck_23922) (idx := 13) (p1 := 269) (as := [.int (320 : Int32), .int a1, .int a2]) (st := []) (ev_J7_rangeCheck_23922 (320 : Int32) a1 a2 u) mw_J7_rangeCheck_23922 (by decide +kernel) (by decide +kernel) (by decide) rfl (Nat.le_of_ble_eq_true rfl) (fun r4 => ?_)
  refine xm_blk0 (pc' := 10) (lv' := [(0, .ref 5), (1, .int a1), (2, .int a2), (3, .int a3), (4, .int a1)]) (st' := []) (u' := (xU r4)) [(.iload_n 1, (0, 0, 0), 0, 0), (.istore 4, (0, 0, 0), 0, 0)] (by decide +kernel) rfl ?_
  refine xm_wk [0, 2, 3, 4] (lv' := [(0, .ref 5), (2, .int a2), (3, .int a3), (4, .int a1)]) rfl ?_
  exact go_J7_fill_fda19_5_L10 N N a2 a3 a1 r4
theorem ev_J7_fill_fda19_5 (N : Nat) (a1 : Int32) (a2 : Int32) (a3 : Int32) (u : xN) : ∀ r, f_J7_fill_fda19_5 N a1 a2 a3 u = some r → xEm md_J7_fill_fda19_5 yJ7_fill_fda19 [.ref 5, .int a1, .int a2, .int a3] (xU u) (none, xU r) := xm_met (res := rsV) (as := [.ref 5, .int a1, .int a2, .int a3]) (go_J7_fill_fda19_5 N a1 a2 a3 u) (by decide) rfl (Nat.le_of_ble_eq_true rfl)
/-! NeitherBare$Shelf.lieAnew(II)V (4, None, None) -/
abbrev md_X1_lieAnew_4 : xMd := (cX1_lieAnew, RX1, 3, none, 3)
def f_X1_lieAnew_4 (N : Nat) (a1 : Int32) (a2 : Int32) (u : xN) : Option xN := gdl [inb a1 4] (Option.bind (f_J7_fill_fda19_5 N (a1 * ((mI u 6 (Int32.toNatClampNeg a1) a2).1 4 1)) ((a1 * ((mI u 6 (Int32.toNatClampNeg a1) a2).1 4 1)) + a2) ((mI u 6 (Int32.toNatClampNeg a1) a2).1 4 2) (mI u 6 (Int32.toNatClampNeg a1) a2)) (fun r29 => some r29))
set_option maxRecDepth 20000 in
theorem go_X1_lieAnew_4 (N : Nat) (a1 : Int32) (a2 : Int32) (u : xN) : xGm md_X1_lieAnew_4 rsV (f_X1_lieAnew_4 N a1 a2 u) 0 [(0, .ref 4), (1, .int a1), (2, .int a2)] [] (xU u) := by
  unfold f_X1_lieAnew_4
  refine xm_blk (bs := [inb a1 4]) (pc' := 29) (lv' := [(0, .ref 4), (1, .int a1), (2, .int a2)]) (st' := [.int ((mI u 6 (Int32.toNatClampNeg a1) a2).1 4 2), .int ((a1 * ((mI u 6 (Int32.toNatClampNeg a1) a2).1 4 1)) + a2), .int (a1 * ((mI u 6 (Int32.toNatClampNeg a1) a2).1 4 1)), .ref 5]) (u' := (xU (mI u 6 (Int32.toNatClampNeg a1) a2))) [(.aload_n 0, (0, 0, 0), 0, 0), (.getfield 23, (1, 4, 123), 0, 0), (.iload_n 1, (0, 0, 0), 0, 0), (.iload_n 2, (0, 0, 0), 0, 0), (.iastore, (0, 0, 0), 0, 0), (.aload_n 0, (0, 0, 0), 0, 0), (.getfield 19, (1, 3, 122), 0, 0), (.iload_n 1, (0, 0, 0), 0, 0), (.aload_n 0, (0, 0, 0), 0, 0), (.getfield 13, (1, 1, 119), 0, 0), (.imul, (0, 0, 0), 0, 0), (.iload_n 1, (0, 0, 0), 0, 0), (.aload_n 0, (0, 0, 0), 0, 0), (.getfield 13, (1, 1, 119), 0, 0), (.imul, (0, 0, 0), 0, 0), (.iload_n 2, (0, 0, 0), 0, 0), (.iadd, (0, 0, 0), 0, 0), (.aload_n 0, (0, 0, 0), 0, 0), (.getfield 16, (1, 2, 121), 0, 0)] (by decide +kernel) rfl ?_
  refine xm_Sv (pc := 29) (mz := md_J7_fill_fda19_5) (idx := 32) (p1 := 266) (as := [.ref 5, .int (a1 * ((mI u 6 (Int32.toNatClampNeg a1) a2).1 4 1)), .int ((a1 * ((mI u 6 (Int32.toNatClampNeg a1) a2).1 4 1)) + a2), .int ((mI u 6 (Int32.toNatClampNeg a1) a2).1 4 2)]) (st := []) (ev_J7_fill_fda19_5 N (a1 * ((mI u 6 (Int32.toNatClampNeg a1) a2).1 4 1)) ((a1 * ((mI u 6 (Int32.toNatClampNeg a1) a2).1 4 1)) + a2) ((mI u 6 (Int32.toNatClampNeg a1) a2).1 4 2) (mI u 6 (Int32.toNatClampNeg a1) a2)) mw_J7_fill_fda19 (by decide +kernel) (by decide +kernel) (by decide) rfl (Nat.le_of_ble_eq_true rfl) (fun r29 => ?_)
  exact xm_vret (pc := 32) (by decide +kernel) rfl rfl
theorem ev_X1_lieAnew_4 (N : Nat) (a1 : Int32) (a2 : Int32) (u : xN) : ∀ r, f_X1_lieAnew_4 N a1 a2 u = some r → xEm md_X1_lieAnew_4 yX1_lieAnew [.ref 4, .int a1, .int a2] (xU u) (none, xU r) := xm_met (res := rsV) (as := [.ref 4, .int a1, .int a2]) (go_X1_lieAnew_4 N a1 a2 u) (by decide) rfl (Nat.le_of_ble_eq_true rfl)
/-! NeitherBare.make(LNeitherBare$Shelf;II)I (0, 4, None, None) -/
abbrev md_X3_make_4 : xMd := (cX3_make, RX3, 4, some .int, 4)
def f_X3_make_4_L16 (N : Nat) (u : xN) : Option (Int32 × xN) := some ((-1 : Int32), u)
set_option maxRecDepth 20000 in
theorem go_X3_make_4_L16 (N : Nat) (u : xN) : xGm md_X3_make_4 rsM (f_X3_make_4_L16 N u) 16 [] [] (xU u) := by
  unfold f_X3_make_4_L16
  refine xm_blk0 (pc' := 17) (lv' := []) (st' := [.int (-1 : Int32)]) (u' := (xU u)) [(.iconst (-1), (0, 0, 0), -1, 0)] (by decide +kernel) rfl ?_
  exact xm_iret (pc := 17) (by decide +kernel) rfl rfl
def f_X3_make_4 (N : Nat) (a2 : Int32) (a3 : Int32) (u : xN) : Option (Int32 × xN) := Option.bind (f_X1_isPlace_4 a2 u) (fun r2 => if r2 = (0 : Int32) then f_X3_make_4_L16 N u else if a3 ≤ (u.1 4 1) then (if (0 : Int32) ≤ a3 then Option.bind (f_X1_lieAnew_4 N a2 a3 u) (fun r31 => some (a3, r31)) else Option.bind (f_X3_refuse (5 : Int32) u) (fun r24 => some (r24.1, r24.2))) else f_X3_make_4_L16 N u)
set_option maxRecDepth 20000 in
theorem go_X3_make_4 (N : Nat) (a2 : Int32) (a3 : Int32) (u : xN) : xGm md_X3_make_4 rsM (f_X3_make_4 N a2 a3 u) 0 [(0, .ref 0), (1, .ref 4), (2, .int a2), (3, .int a3)] [] (xU u) := by
  unfold f_X3_make_4
  refine xm_blk0 (pc' := 2) (lv' := [(0, .ref 0), (1, .ref 4), (2, .int a2), (3, .int a3)]) (st' := [.int a2, .ref 4]) (u' := (xU u)) [(.aload_n 1, (0, 0, 0), 0, 0), (.iload_n 2, (0, 0, 0), 0, 0)] (by decide +kernel) rfl ?_
  refine xm_Vi (pc := 2) (mz := md_X1_isPlace_4) (idx := 85) (p1 := 254) (a := 4) (as := [.int a2]) (st := []) (ev_X1_isPlace_4 a2 u) mw_X1_isPlace (by decide +kernel) (by decide +kernel) (by decide) rfl rfl (by decide) rfl (Nat.le_of_ble_eq_true rfl) (fun r2 => ?_)
  refine xm_if_eq (pc := 5) (off := 11) (tgt := 16) (by decide +kernel) (by decide) ?_ ?_
  · refine xm_wk [] (lv' := []) rfl ?_
    exact go_X3_make_4_L16 N u
  · refine xm_blk0 (pc' := 13) (lv' := [(0, .ref 0), (1, .ref 4), (2, .int a2), (3, .int a3)]) (st' := [.int (u.1 4 1), .int a3]) (u' := (xU u)) [(.iload_n 3, (0, 0, 0), 0, 0), (.aload_n 1, (0, 0, 0), 0, 0), (.getfield 323, (1, 1, 120), 0, 0)] (by decide +kernel) rfl ?_
    refine xm_icmp_le (pc := 13) (off := 5) (tgt := 18) (by decide +kernel) (by decide) ?_ ?_
    · refine xm_blk0 (pc' := 19) (lv' := [(0, .ref 0), (1, .ref 4), (2, .int a2), (3, .int a3)]) (st' := [.int a3]) (u' := (xU u)) [(.iload_n 3, (0, 0, 0), 0, 0)] (by decide +kernel) rfl ?_
      refine xm_if_ge (pc := 19) (off := 9) (tgt := 28) (by decide +kernel) (by decide) ?_ ?_
      · refine xm_blk0 (pc' := 31) (lv' := [(0, .ref 0), (1, .ref 4), (2, .int a2), (3, .int a3)]) (st' := [.int a3, .int a2, .ref 4]) (u' := (xU u)) [(.aload_n 1, (0, 0, 0), 0, 0), (.iload_n 2, (0, 0, 0), 0, 0), (.iload_n 3, (0, 0, 0), 0, 0)] (by decide +kernel) rfl ?_
        refine xm_Vv (pc := 31) (mz := md_X1_lieAnew_4) (idx := 326) (p1 := 262) (a := 4) (as := [.int a2, .int a3]) (st := []) (ev_X1_lieAnew_4 N a2 a3 u) mw_X1_lieAnew (by decide +kernel) (by decide +kernel) (by decide) rfl rfl (by decide) rfl (Nat.le_of_ble_eq_true rfl) (fun r31 => ?_)
        refine xm_blk0 (pc' := 35) (lv' := [(0, .ref 0), (1, .ref 4), (2, .int a2), (3, .int a3)]) (st' := [.int a3]) (u' := (xU r31)) [(.iload_n 3, (0, 0, 0), 0, 0)] (by decide +kernel) rfl ?_
        exact xm_iret (pc := 35) (by decide +kernel) rfl rfl
      · refine xm_blk0 (pc' := 24) (lv' := [(0, .ref 0), (1, .ref 4), (2, .int a2), (3, .int a3)]) (st' := [.int (5 : Int32), .ref 0]) (u' := (xU u)) [(.aload_n 0, (0, 0, 0), 0, 0), (.iconst 5, (0, 0, 0), 5, 0)] (by decide +kernel) rfl ?_
        refine xm_Vm (pc := 24) (mz := md_X3_refuse) (idx := 89) (p1 := 258) (a := 0) (as := [.int (5 : Int32)]) (st := []) (ev_X3_refuse (5 : Int32) u) mw_X3_refuse (by decide +kernel) (by decide +kernel) (by decide) rfl rfl (by decide) rfl (Nat.le_of_ble_eq_true rfl) (fun r24 => ?_)
        exact xm_iret (pc := 27) (by decide +kernel) rfl rfl
    · refine xm_wk [] (lv' := []) rfl ?_
      exact go_X3_make_4_L16 N u
theorem ev_X3_make_4 (N : Nat) (a2 : Int32) (a3 : Int32) (u : xN) : ∀ r, f_X3_make_4 N a2 a3 u = some r → xEm md_X3_make_4 yX3_make [.ref 0, .ref 4, .int a2, .int a3] (xU u) (some (.int r.1), xU r.2) := xm_met (res := rsM) (as := [.ref 0, .ref 4, .int a2, .int a3]) (go_X3_make_4 N a2 a3 u) (by decide) rfl (Nat.le_of_ble_eq_true rfl)
theorem mw_X3_text : xMv yX3_text cX3_text 3 (some .int) 2 := xMv_of (p1 := 334) (p2 := 332) (p3 := 92) (p4 := 333) (by decide +kernel)
/-! NeitherBare.text(II)I (0, None, None) -/
abbrev md_X3_text : xMd := (cX3_text, RX3, 3, some .int, 5)
def f_X3_text (N : Nat) (a1 : Int32) (a2 : Int32) (u : xN) : Option (Int32 × xN) := Option.bind (f_X3_make_4 N a1 a2 u) (fun r7 => some (r7.1, r7.2))
set_option maxRecDepth 20000 in
theorem go_X3_text (N : Nat) (a1 : Int32) (a2 : Int32) (u : xN) : xGm md_X3_text rsM (f_X3_text N a1 a2 u) 0 [(0, .ref 0), (1, .int a1), (2, .int a2)] [] (xU u) := by
  unfold f_X3_text
  refine xm_blk0 (pc' := 7) (lv' := [(0, .ref 0), (1, .int a1), (2, .int a2)]) (st' := [.int a2, .int a1, .ref 4, .ref 0]) (u' := (xU u)) [(.aload_n 0, (0, 0, 0), 0, 0), (.aload_n 0, (0, 0, 0), 0, 0), (.getfield 18, (3, 1, 207), 0, 0), (.iload_n 1, (0, 0, 0), 0, 0), (.iload_n 2, (0, 0, 0), 0, 0)] (by decide +kernel) rfl ?_
  refine xm_Vm (pc := 7) (mz := md_X3_make_4) (idx := 60) (p1 := 250) (a := 0) (as := [.ref 4, .int a1, .int a2]) (st := []) (ev_X3_make_4 N a1 a2 u) mw_X3_make (by decide +kernel) (by decide +kernel) (by decide) rfl rfl (by decide) rfl (Nat.le_of_ble_eq_true rfl) (fun r7 => ?_)
  exact xm_iret (pc := 10) (by decide +kernel) rfl rfl
theorem ev_X3_text (N : Nat) (a1 : Int32) (a2 : Int32) (u : xN) : ∀ r, f_X3_text N a1 a2 u = some r → xEm md_X3_text yX3_text [.ref 0, .int a1, .int a2] (xU u) (some (.int r.1), xU r.2) := xm_met (res := rsM) (as := [.ref 0, .int a1, .int a2]) (go_X3_text N a1 a2 u) (by decide) rfl (Nat.le_of_ble_eq_true rfl)
/-! NeitherBare$Shelf.isThere(I)Z (4, None) -/
abbrev md_X1_isThere_4 : xMd := (cX1_isThere, RX1, 2, some .boolean, 1)
def f_X1_isThere_4_L14 (u : xN) (t0 : Int32) : Option Int32 := gdl [isb t0] (some t0)
set_option maxRecDepth 20000 in
theorem go_X1_isThere_4_L14 (u : xN) (t0 : Int32) : xGm md_X1_isThere_4 (rsI (xU u)) (f_X1_isThere_4_L14 u t0) 14 [] [.int t0] (xU u) := by
  unfold f_X1_isThere_4_L14
  exact xm_zret (pc := 14) (by decide +kernel) rfl rfl
def f_X1_isThere_4 (a1 : Int32) (u : xN) : Option Int32 := gdl [inb a1 4] (if (u.1 6 (Int32.toNatClampNeg a1)) < (0 : Int32) then f_X1_isThere_4_L14 u (0 : Int32) else f_X1_isThere_4_L14 u (1 : Int32))
set_option maxRecDepth 20000 in
theorem go_X1_isThere_4 (a1 : Int32) (u : xN) : xGm md_X1_isThere_4 (rsI (xU u)) (f_X1_isThere_4 a1 u) 0 [(0, .ref 4), (1, .int a1)] [] (xU u) := by
  unfold f_X1_isThere_4
  refine xm_blk (bs := [inb a1 4]) (pc' := 6) (lv' := [(0, .ref 4), (1, .int a1)]) (st' := [.int (u.1 6 (Int32.toNatClampNeg a1))]) (u' := (xU u)) [(.aload_n 0, (0, 0, 0), 0, 0), (.getfield 23, (1, 4, 123), 0, 0), (.iload_n 1, (0, 0, 0), 0, 0), (.iaload, (0, 0, 0), 0, 0)] (by decide +kernel) rfl ?_
  refine xm_if_lt (pc := 6) (off := 7) (tgt := 13) (by decide +kernel) (by decide) ?_ ?_
  · refine xm_blk0 (pc' := 14) (lv' := [(0, .ref 4), (1, .int a1)]) (st' := [.int (0 : Int32)]) (u' := (xU u)) [(.iconst 0, (0, 0, 0), 0, 0)] (by decide +kernel) rfl ?_
    refine xm_wk [] (lv' := []) rfl ?_
    exact go_X1_isThere_4_L14 u (0 : Int32)
  · refine xm_blk0 (pc' := 10) (lv' := [(0, .ref 4), (1, .int a1)]) (st' := [.int (1 : Int32)]) (u' := (xU u)) [(.iconst 1, (0, 0, 0), 1, 0)] (by decide +kernel) rfl ?_
    refine xm_goto (pc := 10) (off := 4) (tgt := 14) (by decide +kernel) (by decide) ?_
    refine xm_wk [] (lv' := []) rfl ?_
    exact go_X1_isThere_4_L14 u (1 : Int32)
theorem ev_X1_isThere_4 (a1 : Int32) (u : xN) : ∀ r, f_X1_isThere_4 a1 u = some r → xEm md_X1_isThere_4 yX1_isThere [.ref 4, .int a1] (xU u) (some (.int r), (xU u)) := xm_met (res := (rsI (xU u))) (as := [.ref 4, .int a1]) (go_X1_isThere_4 a1 u) (by decide) rfl (Nat.le_of_ble_eq_true rfl)
/-! NeitherBare.refusedPlace(LNeitherBare$Shelf;I)I (0, 4, None) -/
abbrev md_X3_refusedPlace_4 : xMd := (cX3_refusedPlace, RX3, 3, some .int, 2)
def f_X3_refusedPlace_4_L27 (t0 : Int32) (u : xN) : Option (Int32 × xN) := some (t0, u)
set_option maxRecDepth 20000 in
theorem go_X3_refusedPlace_4_L27 (t0 : Int32) (u : xN) : xGm md_X3_refusedPlace_4 rsM (f_X3_refusedPlace_4_L27 t0 u) 27 [] [.int t0] (xU u) := by
  unfold f_X3_refusedPlace_4_L27
  exact xm_iret (pc := 27) (by decide +kernel) rfl rfl
def f_X3_refusedPlace_4 (a2 : Int32) (u : xN) : Option (Int32 × xN) := Option.bind (f_X1_isPlace_4 a2 u) (fun r2 => if r2 = (0 : Int32) then some ((-1 : Int32), u) else Option.bind (f_X1_isThere_4 a2 u) (fun r12 => if r12 = (0 : Int32) then Option.bind (f_X3_refuse (1 : Int32) u) (fun r24 => f_X3_refusedPlace_4_L27 r24.1 r24.2) else f_X3_refusedPlace_4_L27 (0 : Int32) u))
set_option maxRecDepth 20000 in
theorem go_X3_refusedPlace_4 (a2 : Int32) (u : xN) : xGm md_X3_refusedPlace_4 rsM (f_X3_refusedPlace_4 a2 u) 0 [(0, .ref 0), (1, .ref 4), (2, .int a2)] [] (xU u) := by
  unfold f_X3_refusedPlace_4
  refine xm_blk0 (pc' := 2) (lv' := [(0, .ref 0), (1, .ref 4), (2, .int a2)]) (st' := [.int a2, .ref 4]) (u' := (xU u)) [(.aload_n 1, (0, 0, 0), 0, 0), (.iload_n 2, (0, 0, 0), 0, 0)] (by decide +kernel) rfl ?_
  refine xm_Vi (pc := 2) (mz := md_X1_isPlace_4) (idx := 85) (p1 := 254) (a := 4) (as := [.int a2]) (st := []) (ev_X1_isPlace_4 a2 u) mw_X1_isPlace (by decide +kernel) (by decide +kernel) (by decide) rfl rfl (by decide) rfl (Nat.le_of_ble_eq_true rfl) (fun r2 => ?_)
  refine xm_if_ne (pc := 5) (off := 5) (tgt := 10) (by decide +kernel) (by decide) ?_ ?_
  · refine xm_blk0 (pc' := 12) (lv' := [(0, .ref 0), (1, .ref 4), (2, .int a2)]) (st' := [.int a2, .ref 4]) (u' := (xU u)) [(.aload_n 1, (0, 0, 0), 0, 0), (.iload_n 2, (0, 0, 0), 0, 0)] (by decide +kernel) rfl ?_
    refine xm_Vi (pc := 12) (mz := md_X1_isThere_4) (idx := 93) (p1 := 284) (a := 4) (as := [.int a2]) (st := []) (ev_X1_isThere_4 a2 u) mw_X1_isThere (by decide +kernel) (by decide +kernel) (by decide) rfl rfl (by decide) rfl (Nat.le_of_ble_eq_true rfl) (fun r12 => ?_)
    refine xm_if_eq (pc := 15) (off := 7) (tgt := 22) (by decide +kernel) (by decide) ?_ ?_
    · refine xm_blk0 (pc' := 24) (lv' := [(0, .ref 0), (1, .ref 4), (2, .int a2)]) (st' := [.int (1 : Int32), .ref 0]) (u' := (xU u)) [(.aload_n 0, (0, 0, 0), 0, 0), (.iconst 1, (0, 0, 0), 1, 0)] (by decide +kernel) rfl ?_
      refine xm_Vm (pc := 24) (mz := md_X3_refuse) (idx := 89) (p1 := 258) (a := 0) (as := [.int (1 : Int32)]) (st := []) (ev_X3_refuse (1 : Int32) u) mw_X3_refuse (by decide +kernel) (by decide +kernel) (by decide) rfl rfl (by decide) rfl (Nat.le_of_ble_eq_true rfl) (fun r24 => ?_)
      refine xm_wk [] (lv' := []) rfl ?_
      exact go_X3_refusedPlace_4_L27 r24.1 r24.2
    · refine xm_blk0 (pc' := 19) (lv' := [(0, .ref 0), (1, .ref 4), (2, .int a2)]) (st' := [.int (0 : Int32)]) (u' := (xU u)) [(.iconst 0, (0, 0, 0), 0, 0)] (by decide +kernel) rfl ?_
      refine xm_goto (pc := 19) (off := 8) (tgt := 27) (by decide +kernel) (by decide) ?_
      refine xm_wk [] (lv' := []) rfl ?_
      exact go_X3_refusedPlace_4_L27 (0 : Int32) u
  · refine xm_blk0 (pc' := 9) (lv' := [(0, .ref 0), (1, .ref 4), (2, .int a2)]) (st' := [.int (-1 : Int32)]) (u' := (xU u)) [(.iconst (-1), (0, 0, 0), -1, 0)] (by decide +kernel) rfl ?_
    exact xm_iret (pc := 9) (by decide +kernel) rfl rfl
theorem ev_X3_refusedPlace_4 (a2 : Int32) (u : xN) : ∀ r, f_X3_refusedPlace_4 a2 u = some r → xEm md_X3_refusedPlace_4 yX3_refusedPlace [.ref 0, .ref 4, .int a2] (xU u) (some (.int r.1), xU r.2) := xm_met (res := rsM) (as := [.ref 0, .ref 4, .int a2]) (go_X3_refusedPlace_4 a2 u) (by decide) rfl (Nat.le_of_ble_eq_true rfl)
/-! NeitherBare$Shelf.hasStretch(III)Z (4, None, None, None) -/
abbrev md_X1_hasStretch_4 : xMd := (cX1_hasStretch, RX1, 4, some .boolean, 1)
def f_X1_hasStretch_4_L35 (u : xN) (t0 : Int32) : Option Int32 := gdl [isb t0] (some t0)
set_option maxRecDepth 20000 in
theorem go_X1_hasStretch_4_L35 (u : xN) (t0 : Int32) : xGm md_X1_hasStretch_4 (rsI (xU u)) (f_X1_hasStretch_4_L35 u t0) 35 [] [.int t0] (xU u) := by
  unfold f_X1_hasStretch_4_L35
  exact xm_zret (pc := 35) (by decide +kernel) rfl rfl
def f_X1_hasStretch_4_L34 (u : xN) : Option Int32 := f_X1_hasStretch_4_L35 u (0 : Int32)
set_option maxRecDepth 20000 in
theorem go_X1_hasStretch_4_L34 (u : xN) : xGm md_X1_hasStretch_4 (rsI (xU u)) (f_X1_hasStretch_4_L34 u) 34 [] [] (xU u) := by
  unfold f_X1_hasStretch_4_L34
  refine xm_blk0 (pc' := 35) (lv' := []) (st' := [.int (0 : Int32)]) (u' := (xU u)) [(.iconst 0, (0, 0, 0), 0, 0)] (by decide +kernel) rfl ?_
  exact go_X1_hasStretch_4_L35 u (0 : Int32)
def f_X1_hasStretch_4 (a1 : Int32) (a2 : Int32) (a3 : Int32) (u : xN) : Option Int32 := if a2 < (0 : Int32) then f_X1_hasStretch_4_L34 u else if a3 < (0 : Int32) then f_X1_hasStretch_4_L34 u else gdl [inb a1 4] (if (u.1 6 (Int32.toNatClampNeg a1)) < a3 then f_X1_hasStretch_4_L34 u else gdl [inb a1 4] (if ((u.1 6 (Int32.toNatClampNeg a1)) - a3) < a2 then f_X1_hasStretch_4_L34 u else f_X1_hasStretch_4_L35 u (1 : Int32)))
set_option maxRecDepth 20000 in
theorem go_X1_hasStretch_4 (a1 : Int32) (a2 : Int32) (a3 : Int32) (u : xN) : xGm md_X1_hasStretch_4 (rsI (xU u)) (f_X1_hasStretch_4 a1 a2 a3 u) 0 [(0, .ref 4), (1, .int a1), (2, .int a2), (3, .int a3)] [] (xU u) := by
  unfold f_X1_hasStretch_4
  refine xm_blk0 (pc' := 1) (lv' := [(0, .ref 4), (1, .int a1), (2, .int a2), (3, .int a3)]) (st' := [.int a2]) (u' := (xU u)) [(.iload_n 2, (0, 0, 0), 0, 0)] (by decide +kernel) rfl ?_
  refine xm_if_lt (pc := 1) (off := 33) (tgt := 34) (by decide +kernel) (by decide) ?_ ?_
  · refine xm_wk [] (lv' := []) rfl ?_
    exact go_X1_hasStretch_4_L34 u
  · refine xm_blk0 (pc' := 5) (lv' := [(0, .ref 4), (1, .int a1), (2, .int a2), (3, .int a3)]) (st' := [.int a3]) (u' := (xU u)) [(.iload_n 3, (0, 0, 0), 0, 0)] (by decide +kernel) rfl ?_
    refine xm_if_lt (pc := 5) (off := 29) (tgt := 34) (by decide +kernel) (by decide) ?_ ?_
    · refine xm_wk [] (lv' := []) rfl ?_
      exact go_X1_hasStretch_4_L34 u
    · refine xm_blk (bs := [inb a1 4]) (pc' := 15) (lv' := [(0, .ref 4), (1, .int a1), (2, .int a2), (3, .int a3)]) (st' := [.int (u.1 6 (Int32.toNatClampNeg a1)), .int a3]) (u' := (xU u)) [(.iload_n 3, (0, 0, 0), 0, 0), (.aload_n 0, (0, 0, 0), 0, 0), (.getfield 23, (1, 4, 123), 0, 0), (.iload_n 1, (0, 0, 0), 0, 0), (.iaload, (0, 0, 0), 0, 0)] (by decide +kernel) rfl ?_
      refine xm_icmp_gt (pc := 15) (off := 19) (tgt := 34) (by decide +kernel) (by decide) ?_ ?_
      · refine xm_wk [] (lv' := []) rfl ?_
        exact go_X1_hasStretch_4_L34 u
      · refine xm_blk (bs := [inb a1 4]) (pc' := 27) (lv' := [(0, .ref 4), (1, .int a1), (2, .int a2), (3, .int a3)]) (st' := [.int ((u.1 6 (Int32.toNatClampNeg a1)) - a3), .int a2]) (u' := (xU u)) [(.iload_n 2, (0, 0, 0), 0, 0), (.aload_n 0, (0, 0, 0), 0, 0), (.getfield 23, (1, 4, 123), 0, 0), (.iload_n 1, (0, 0, 0), 0, 0), (.iaload, (0, 0, 0), 0, 0), (.iload_n 3, (0, 0, 0), 0, 0), (.isub, (0, 0, 0), 0, 0)] (by decide +kernel) rfl ?_
        refine xm_icmp_gt (pc := 27) (off := 7) (tgt := 34) (by decide +kernel) (by decide) ?_ ?_
        · refine xm_wk [] (lv' := []) rfl ?_
          exact go_X1_hasStretch_4_L34 u
        · refine xm_blk0 (pc' := 31) (lv' := [(0, .ref 4), (1, .int a1), (2, .int a2), (3, .int a3)]) (st' := [.int (1 : Int32)]) (u' := (xU u)) [(.iconst 1, (0, 0, 0), 1, 0)] (by decide +kernel) rfl ?_
          refine xm_goto (pc := 31) (off := 4) (tgt := 35) (by decide +kernel) (by decide) ?_
          refine xm_wk [] (lv' := []) rfl ?_
          exact go_X1_hasStretch_4_L35 u (1 : Int32)
theorem ev_X1_hasStretch_4 (a1 : Int32) (a2 : Int32) (a3 : Int32) (u : xN) : ∀ r, f_X1_hasStretch_4 a1 a2 a3 u = some r → xEm md_X1_hasStretch_4 yX1_hasStretch [.ref 4, .int a1, .int a2, .int a3] (xU u) (some (.int r), (xU u)) := xm_met (res := (rsI (xU u))) (as := [.ref 4, .int a1, .int a2, .int a3]) (go_X1_hasStretch_4 a1 a2 a3 u) (by decide) rfl (Nat.le_of_ble_eq_true rfl)
/-! NeitherBare.refusedCell(LNeitherBare$Shelf;II)I (0, 4, None, None) -/
abbrev md_X3_refusedCell_4 : xMd := (cX3_refusedCell, RX3, 5, some .int, 3)
def f_X3_refusedCell_4_L35 (t0 : Int32) (u : xN) : Option (Int32 × xN) := some (t0, u)
set_option maxRecDepth 20000 in
theorem go_X3_refusedCell_4_L35 (t0 : Int32) (u : xN) : xGm md_X3_refusedCell_4 rsM (f_X3_refusedCell_4_L35 t0 u) 35 [] [.int t0] (xU u) := by
  unfold f_X3_refusedCell_4_L35
  exact xm_iret (pc := 35) (by decide +kernel) rfl rfl
def f_X3_refusedCell_4 (a2 : Int32) (a3 : Int32) (u : xN) : Option (Int32 × xN) := Option.bind (f_X3_refusedPlace_4 a2 u) (fun r3 => if r3.1 = (0 : Int32) then Option.bind (f_X1_hasStretch_4 a2 a3 (1 : Int32) r3.2) (fun r20 => if r20 = (0 : Int32) then Option.bind (f_X3_refuse (2 : Int32) r3.2) (fun r32 => f_X3_refusedCell_4_L35 r32.1 r32.2) else f_X3_refusedCell_4_L35 (0 : Int32) r3.2) else some (r3.1, r3.2))
set_option maxRecDepth 20000 in
theorem go_X3_refusedCell_4 (a2 : Int32) (a3 : Int32) (u : xN) : xGm md_X3_refusedCell_4 rsM (f_X3_refusedCell_4 a2 a3 u) 0 [(0, .ref 0), (1, .ref 4), (2, .int a2), (3, .int a3)] [] (xU u) := by
  unfold f_X3_refusedCell_4
  refine xm_blk0 (pc' := 3) (lv' := [(0, .ref 0), (1, .ref 4), (2, .int a2), (3, .int a3)]) (st' := [.int a2, .ref 4, .ref 0]) (u' := (xU u)) [(.aload_n 0, (0, 0, 0), 0, 0), (.aload_n 1, (0, 0, 0), 0, 0), (.iload_n 2, (0, 0, 0), 0, 0)] (by decide +kernel) rfl ?_
  refine xm_Vm (pc := 3) (mz := md_X3_refusedPlace_4) (idx := 78) (p1 := 280) (a := 0) (as := [.ref 4, .int a2]) (st := []) (ev_X3_refusedPlace_4 a2 u) mw_X3_refusedPlace (by decide +kernel) (by decide +kernel) (by decide) rfl rfl (by decide) rfl (Nat.le_of_ble_eq_true rfl) (fun r3 => ?_)
  refine xm_blk0 (pc' := 10) (lv' := [(0, .ref 0), (1, .ref 4), (2, .int a2), (3, .int a3), (4, .int r3.1)]) (st' := [.int r3.1]) (u' := (xU r3.2)) [(.istore 4, (0, 0, 0), 0, 0), (.iload 4, (0, 0, 0), 0, 0)] (by decide +kernel) rfl ?_
  refine xm_if_eq (pc := 10) (off := 6) (tgt := 16) (by decide +kernel) (by decide) ?_ ?_
  · refine xm_blk0 (pc' := 20) (lv' := [(0, .ref 0), (1, .ref 4), (2, .int a2), (3, .int a3), (4, .int r3.1)]) (st' := [.int (1 : Int32), .int a3, .int a2, .ref 4]) (u' := (xU r3.2)) [(.aload_n 1, (0, 0, 0), 0, 0), (.iload_n 2, (0, 0, 0), 0, 0), (.iload_n 3, (0, 0, 0), 0, 0), (.iconst 1, (0, 0, 0), 1, 0)] (by decide +kernel) rfl ?_
    refine xm_Vi (pc := 20) (mz := md_X1_hasStretch_4) (idx := 96) (p1 := 288) (a := 4) (as := [.int a2, .int a3, .int (1 : Int32)]) (st := []) (ev_X1_hasStretch_4 a2 a3 (1 : Int32) r3.2) mw_X1_hasStretch (by decide +kernel) (by decide +kernel) (by decide) rfl rfl (by decide) rfl (Nat.le_of_ble_eq_true rfl) (fun r20 => ?_)
    refine xm_if_eq (pc := 23) (off := 7) (tgt := 30) (by decide +kernel) (by decide) ?_ ?_
    · refine xm_blk0 (pc' := 32) (lv' := [(0, .ref 0), (1, .ref 4), (2, .int a2), (3, .int a3), (4, .int r3.1)]) (st' := [.int (2 : Int32), .ref 0]) (u' := (xU r3.2)) [(.aload_n 0, (0, 0, 0), 0, 0), (.iconst 2, (0, 0, 0), 2, 0)] (by decide +kernel) rfl ?_
      refine xm_Vm (pc := 32) (mz := md_X3_refuse) (idx := 89) (p1 := 258) (a := 0) (as := [.int (2 : Int32)]) (st := []) (ev_X3_refuse (2 : Int32) r3.2) mw_X3_refuse (by decide +kernel) (by decide +kernel) (by decide) rfl rfl (by decide) rfl (Nat.le_of_ble_eq_true rfl) (fun r32 => ?_)
      refine xm_wk [] (lv' := []) rfl ?_
      exact go_X3_refusedCell_4_L35 r32.1 r32.2
    · refine xm_blk0 (pc' := 27) (lv' := [(0, .ref 0), (1, .ref 4), (2, .int a2), (3, .int a3), (4, .int r3.1)]) (st' := [.int (0 : Int32)]) (u' := (xU r3.2)) [(.iconst 0, (0, 0, 0), 0, 0)] (by decide +kernel) rfl ?_
      refine xm_goto (pc := 27) (off := 8) (tgt := 35) (by decide +kernel) (by decide) ?_
      refine xm_wk [] (lv' := []) rfl ?_
      exact go_X3_refusedCell_4_L35 (0 : Int32) r3.2
  · refine xm_blk0 (pc' := 15) (lv' := [(0, .ref 0), (1, .ref 4), (2, .int a2), (3, .int a3), (4, .int r3.1)]) (st' := [.int r3.1]) (u' := (xU r3.2)) [(.iload 4, (0, 0, 0), 0, 0)] (by decide +kernel) rfl ?_
    exact xm_iret (pc := 15) (by decide +kernel) rfl rfl
theorem ev_X3_refusedCell_4 (a2 : Int32) (a3 : Int32) (u : xN) : ∀ r, f_X3_refusedCell_4 a2 a3 u = some r → xEm md_X3_refusedCell_4 yX3_refusedCell [.ref 0, .ref 4, .int a2, .int a3] (xU u) (some (.int r.1), xU r.2) := xm_met (res := rsM) (as := [.ref 0, .ref 4, .int a2, .int a3]) (go_X3_refusedCell_4 a2 a3 u) (by decide) rfl (Nat.le_of_ble_eq_true rfl)
/-! NeitherBare$Shelf.cellOf(II)I (4, None, None) -/
abbrev md_X1_cellOf_4 : xMd := (cX1_cellOf, RX1, 3, some .int, 1)
def f_X1_cellOf_4 (a1 : Int32) (a2 : Int32) (u : xN) : Option Int32 := gdl [inb ((a1 * (u.1 4 1)) + a2) 320] (some (u.1 5 (Int32.toNatClampNeg ((a1 * (u.1 4 1)) + a2))))
set_option maxRecDepth 20000 in
theorem go_X1_cellOf_4 (a1 : Int32) (a2 : Int32) (u : xN) : xGm md_X1_cellOf_4 (rsI (xU u)) (f_X1_cellOf_4 a1 a2 u) 0 [(0, .ref 4), (1, .int a1), (2, .int a2)] [] (xU u) := by
  unfold f_X1_cellOf_4
  refine xm_blk (bs := [inb ((a1 * (u.1 4 1)) + a2) 320]) (pc' := 13) (lv' := [(0, .ref 4), (1, .int a1), (2, .int a2)]) (st' := [.int (u.1 5 (Int32.toNatClampNeg ((a1 * (u.1 4 1)) + a2)))]) (u' := (xU u)) [(.aload_n 0, (0, 0, 0), 0, 0), (.getfield 19, (1, 3, 122), 0, 0), (.iload_n 1, (0, 0, 0), 0, 0), (.aload_n 0, (0, 0, 0), 0, 0), (.getfield 13, (1, 1, 119), 0, 0), (.imul, (0, 0, 0), 0, 0), (.iload_n 2, (0, 0, 0), 0, 0), (.iadd, (0, 0, 0), 0, 0), (.iaload, (0, 0, 0), 0, 0)] (by decide +kernel) rfl ?_
  exact xm_iret (pc := 13) (by decide +kernel) rfl rfl
theorem ev_X1_cellOf_4 (a1 : Int32) (a2 : Int32) (u : xN) : ∀ r, f_X1_cellOf_4 a1 a2 u = some r → xEm md_X1_cellOf_4 yX1_cellOf [.ref 4, .int a1, .int a2] (xU u) (some (.int r), (xU u)) := xm_met (res := (rsI (xU u))) (as := [.ref 4, .int a1, .int a2]) (go_X1_cellOf_4 a1 a2 u) (by decide) rfl (Nat.le_of_ble_eq_true rfl)
/-! NeitherBare$Shelf.setCell(III)V (4, None, None, None) -/
abbrev md_X1_setCell_4 : xMd := (cX1_setCell, RX1, 4, none, 1)
def f_X1_setCell_4 (a1 : Int32) (a2 : Int32) (a3 : Int32) (u : xN) : Option xN := gdl [inb ((a1 * (u.1 4 1)) + a2) 320] (some (mI u 5 (Int32.toNatClampNeg ((a1 * (u.1 4 1)) + a2)) a3))
set_option maxRecDepth 20000 in
theorem go_X1_setCell_4 (a1 : Int32) (a2 : Int32) (a3 : Int32) (u : xN) : xGm md_X1_setCell_4 rsV (f_X1_setCell_4 a1 a2 a3 u) 0 [(0, .ref 4), (1, .int a1), (2, .int a2), (3, .int a3)] [] (xU u) := by
  unfold f_X1_setCell_4
  refine xm_blk (bs := [inb ((a1 * (u.1 4 1)) + a2) 320]) (pc' := 14) (lv' := [(0, .ref 4), (1, .int a1), (2, .int a2), (3, .int a3)]) (st' := []) (u' := (xU (mI u 5 (Int32.toNatClampNeg ((a1 * (u.1 4 1)) + a2)) a3))) [(.aload_n 0, (0, 0, 0), 0, 0), (.getfield 19, (1, 3, 122), 0, 0), (.iload_n 1, (0, 0, 0), 0, 0), (.aload_n 0, (0, 0, 0), 0, 0), (.getfield 13, (1, 1, 119), 0, 0), (.imul, (0, 0, 0), 0, 0), (.iload_n 2, (0, 0, 0), 0, 0), (.iadd, (0, 0, 0), 0, 0), (.iload_n 3, (0, 0, 0), 0, 0), (.iastore, (0, 0, 0), 0, 0)] (by decide +kernel) rfl ?_
  exact xm_vret (pc := 14) (by decide +kernel) rfl rfl
theorem ev_X1_setCell_4 (a1 : Int32) (a2 : Int32) (a3 : Int32) (u : xN) : ∀ r, f_X1_setCell_4 a1 a2 a3 u = some r → xEm md_X1_setCell_4 yX1_setCell [.ref 4, .int a1, .int a2, .int a3] (xU u) (none, xU r) := xm_met (res := rsV) (as := [.ref 4, .int a1, .int a2, .int a3]) (go_X1_setCell_4 a1 a2 a3 u) (by decide) rfl (Nat.le_of_ble_eq_true rfl)
theorem mw_X3_put : xMv yX3_put cX3_put 6 (some .int) 3 := xMv_of (p1 := 338) (p2 := 336) (p3 := 92) (p4 := 337) (by decide +kernel)
/-! NeitherBare.put(III)I (0, None, None, None) -/
abbrev md_X3_put : xMd := (cX3_put, RX3, 6, some .int, 4)
def f_X3_put (a1 : Int32) (a2 : Int32) (a3 : Int32) (u : xN) : Option (Int32 × xN) := Option.bind (f_X3_refusedCell_4 a1 a2 u) (fun r7 => if r7.1 = (0 : Int32) then Option.bind (f_X1_cellOf_4 a1 a2 r7.2) (fun r26 => Option.bind (f_X1_setCell_4 a1 a2 (Int8.toInt32 (Int32.toInt8 a3)) r7.2) (fun r39 => some ((r26 + (1000 : Int32)), r39))) else some (r7.1, r7.2))
set_option maxRecDepth 20000 in
theorem go_X3_put (a1 : Int32) (a2 : Int32) (a3 : Int32) (u : xN) : xGm md_X3_put rsM (f_X3_put a1 a2 a3 u) 0 [(0, .ref 0), (1, .int a1), (2, .int a2), (3, .int a3)] [] (xU u) := by
  unfold f_X3_put
  refine xm_blk0 (pc' := 7) (lv' := [(0, .ref 0), (1, .int a1), (2, .int a2), (3, .int a3)]) (st' := [.int a2, .int a1, .ref 4, .ref 0]) (u' := (xU u)) [(.aload_n 0, (0, 0, 0), 0, 0), (.aload_n 0, (0, 0, 0), 0, 0), (.getfield 18, (3, 1, 207), 0, 0), (.iload_n 1, (0, 0, 0), 0, 0), (.iload_n 2, (0, 0, 0), 0, 0)] (by decide +kernel) rfl ?_
  refine xm_Vm (pc := 7) (mz := md_X3_refusedCell_4) (idx := 64) (p1 := 276) (a := 0) (as := [.ref 4, .int a1, .int a2]) (st := []) (ev_X3_refusedCell_4 a1 a2 u) mw_X3_refusedCell (by decide +kernel) (by decide +kernel) (by decide) rfl rfl (by decide) rfl (Nat.le_of_ble_eq_true rfl) (fun r7 => ?_)
  refine xm_blk0 (pc' := 14) (lv' := [(0, .ref 0), (1, .int a1), (2, .int a2), (3, .int a3), (4, .int r7.1)]) (st' := [.int r7.1]) (u' := (xU r7.2)) [(.istore 4, (0, 0, 0), 0, 0), (.iload 4, (0, 0, 0), 0, 0)] (by decide +kernel) rfl ?_
  refine xm_if_eq (pc := 14) (off := 6) (tgt := 20) (by decide +kernel) (by decide) ?_ ?_
  · refine xm_blk0 (pc' := 26) (lv' := [(0, .ref 0), (1, .int a1), (2, .int a2), (3, .int a3), (4, .int r7.1)]) (st' := [.int a2, .int a1, .ref 4]) (u' := (xU r7.2)) [(.aload_n 0, (0, 0, 0), 0, 0), (.getfield 18, (3, 1, 207), 0, 0), (.iload_n 1, (0, 0, 0), 0, 0), (.iload_n 2, (0, 0, 0), 0, 0)] (by decide +kernel) rfl ?_
    refine xm_Vi (pc := 26) (mz := md_X1_cellOf_4) (idx := 67) (p1 := 292) (a := 4) (as := [.int a1, .int a2]) (st := []) (ev_X1_cellOf_4 a1 a2 r7.2) mw_X1_cellOf (by decide +kernel) (by decide +kernel) (by decide) rfl rfl (by decide) rfl (Nat.le_of_ble_eq_true rfl) (fun r26 => ?_)
    refine xm_blk0 (pc' := 39) (lv' := [(0, .ref 0), (1, .int a1), (2, .int a2), (3, .int a3), (4, .int r7.1), (5, .int r26)]) (st' := [.int (Int8.toInt32 (Int32.toInt8 a3)), .int a2, .int a1, .ref 4]) (u' := (xU r7.2)) [(.istore 5, (0, 0, 0), 0, 0), (.aload_n 0, (0, 0, 0), 0, 0), (.getfield 18, (3, 1, 207), 0, 0), (.iload_n 1, (0, 0, 0), 0, 0), (.iload_n 2, (0, 0, 0), 0, 0), (.iload_n 3, (0, 0, 0), 0, 0), (.i2b, (0, 0, 0), 0, 0)] (by decide +kernel) rfl ?_
    refine xm_Vv (pc := 39) (mz := md_X1_setCell_4) (idx := 75) (p1 := 296) (a := 4) (as := [.int a1, .int a2, .int (Int8.toInt32 (Int32.toInt8 a3))]) (st := []) (ev_X1_setCell_4 a1 a2 (Int8.toInt32 (Int32.toInt8 a3)) r7.2) mw_X1_setCell (by decide +kernel) (by decide +kernel) (by decide) rfl rfl (by decide) rfl (Nat.le_of_ble_eq_true rfl) (fun r39 => ?_)
    refine xm_blk0 (pc' := 48) (lv' := [(0, .ref 0), (1, .int a1), (2, .int a2), (3, .int a3), (4, .int r7.1), (5, .int r26)]) (st' := [.int (r26 + (1000 : Int32))]) (u' := (xU r39)) [(.iload 5, (0, 0, 0), 0, 0), (.sipush 1000, (0, 0, 0), 1000, 0), (.iadd, (0, 0, 0), 0, 0)] (by decide +kernel) rfl ?_
    exact xm_iret (pc := 48) (by decide +kernel) rfl rfl
  · refine xm_blk0 (pc' := 19) (lv' := [(0, .ref 0), (1, .int a1), (2, .int a2), (3, .int a3), (4, .int r7.1)]) (st' := [.int r7.1]) (u' := (xU r7.2)) [(.iload 4, (0, 0, 0), 0, 0)] (by decide +kernel) rfl ?_
    exact xm_iret (pc := 19) (by decide +kernel) rfl rfl
theorem ev_X3_put (a1 : Int32) (a2 : Int32) (a3 : Int32) (u : xN) : ∀ r, f_X3_put a1 a2 a3 u = some r → xEm md_X3_put yX3_put [.ref 0, .int a1, .int a2, .int a3] (xU u) (some (.int r.1), xU r.2) := xm_met (res := rsM) (as := [.ref 0, .int a1, .int a2, .int a3]) (go_X3_put a1 a2 a3 u) (by decide) rfl (Nat.le_of_ble_eq_true rfl)
/-! NeitherBare$Shelf.sizeOf(I)I (4, None) -/
abbrev md_X1_sizeOf_4 : xMd := (cX1_sizeOf, RX1, 2, some .int, 1)
def f_X1_sizeOf_4 (a1 : Int32) (u : xN) : Option Int32 := gdl [inb a1 4] (some (u.1 6 (Int32.toNatClampNeg a1)))
set_option maxRecDepth 20000 in
theorem go_X1_sizeOf_4 (a1 : Int32) (u : xN) : xGm md_X1_sizeOf_4 (rsI (xU u)) (f_X1_sizeOf_4 a1 u) 0 [(0, .ref 4), (1, .int a1)] [] (xU u) := by
  unfold f_X1_sizeOf_4
  refine xm_blk (bs := [inb a1 4]) (pc' := 6) (lv' := [(0, .ref 4), (1, .int a1)]) (st' := [.int (u.1 6 (Int32.toNatClampNeg a1))]) (u' := (xU u)) [(.aload_n 0, (0, 0, 0), 0, 0), (.getfield 23, (1, 4, 123), 0, 0), (.iload_n 1, (0, 0, 0), 0, 0), (.iaload, (0, 0, 0), 0, 0)] (by decide +kernel) rfl ?_
  exact xm_iret (pc := 6) (by decide +kernel) rfl rfl
theorem ev_X1_sizeOf_4 (a1 : Int32) (u : xN) : ∀ r, f_X1_sizeOf_4 a1 u = some r → xEm md_X1_sizeOf_4 yX1_sizeOf [.ref 4, .int a1] (xU u) (some (.int r), (xU u)) := xm_met (res := (rsI (xU u))) (as := [.ref 4, .int a1]) (go_X1_sizeOf_4 a1 u) (by decide) rfl (Nat.le_of_ble_eq_true rfl)
theorem mw_X3_isOfKind : xMs yX3_isOfKind cX3_isOfKind 2 (some .boolean) 2 := xMs_of (p1 := 366) (p2 := 365) (p3 := 92) (by decide +kernel)
/-! NeitherBare.isOfKind(II)Z  -/
abbrev md_X3_isOfKind : xMd := (cX3_isOfKind, RX3, 2, some .boolean, 1)
def f_X3_isOfKind_L19 (u : xN) (t0 : Int32) : Option Int32 := gdl [isb t0] (some t0)
set_option maxRecDepth 20000 in
theorem go_X3_isOfKind_L19 (u : xN) (t0 : Int32) : xGm md_X3_isOfKind (rsI (xU u)) (f_X3_isOfKind_L19 u t0) 19 [] [.int t0] (xU u) := by
  unfold f_X3_isOfKind_L19
  exact xm_zret (pc := 19) (by decide +kernel) rfl rfl
def f_X3_isOfKind_L14 (u : xN) : Option Int32 := f_X3_isOfKind_L19 u (1 : Int32)
set_option maxRecDepth 20000 in
theorem go_X3_isOfKind_L14 (u : xN) : xGm md_X3_isOfKind (rsI (xU u)) (f_X3_isOfKind_L14 u) 14 [] [] (xU u) := by
  unfold f_X3_isOfKind_L14
  refine xm_blk0 (pc' := 15) (lv' := []) (st' := [.int (1 : Int32)]) (u' := (xU u)) [(.iconst 1, (0, 0, 0), 1, 0)] (by decide +kernel) rfl ?_
  refine xm_goto (pc := 15) (off := 4) (tgt := 19) (by decide +kernel) (by decide) ?_
  exact go_X3_isOfKind_L19 u (1 : Int32)
def f_X3_isOfKind (a0 : Int32) (a1 : Int32) (u : xN) : Option Int32 := if a0 = a1 then f_X3_isOfKind_L14 u else gdl [inb a0 6] (if (xS 54 (Int32.toNatClampNeg a0)) = a1 then f_X3_isOfKind_L14 u else f_X3_isOfKind_L19 u (0 : Int32))
set_option maxRecDepth 20000 in
theorem go_X3_isOfKind (a0 : Int32) (a1 : Int32) (u : xN) : xGm md_X3_isOfKind (rsI (xU u)) (f_X3_isOfKind a0 a1 u) 0 [(0, .int a0), (1, .int a1)] [] (xU u) := by
  unfold f_X3_isOfKind
  refine xm_blk0 (pc' := 2) (lv' := [(0, .int a0), (1, .int a1)]) (st' := [.int a1, .int a0]) (u' := (xU u)) [(.iload_n 0, (0, 0, 0), 0, 0), (.iload_n 1, (0, 0, 0), 0, 0)] (by decide +kernel) rfl ?_
  refine xm_icmp_eq (pc := 2) (off := 12) (tgt := 14) (by decide +kernel) (by decide) ?_ ?_
  · refine xm_wk [] (lv' := []) rfl ?_
    exact go_X3_isOfKind_L14 u
  · refine xm_blk (bs := [inb a0 6]) (pc' := 11) (lv' := [(0, .int a0), (1, .int a1)]) (st' := [.int a1, .int (xS 54 (Int32.toNatClampNeg a0))]) (u' := (xU u)) [(.getstatic 329, (54, 0, 367), 0, 0), (.iload_n 0, (0, 0, 0), 0, 0), (.iaload, (0, 0, 0), 0, 0), (.iload_n 1, (0, 0, 0), 0, 0)] (by decide +kernel) rfl ?_
    refine xm_icmp_ne (pc := 11) (off := 7) (tgt := 18) (by decide +kernel) (by decide) ?_ ?_
    · refine xm_blk0 (pc' := 19) (lv' := [(0, .int a0), (1, .int a1)]) (st' := [.int (0 : Int32)]) (u' := (xU u)) [(.iconst 0, (0, 0, 0), 0, 0)] (by decide +kernel) rfl ?_
      refine xm_wk [] (lv' := []) rfl ?_
      exact go_X3_isOfKind_L19 u (0 : Int32)
    · refine xm_wk [] (lv' := []) rfl ?_
      exact go_X3_isOfKind_L14 u
theorem ev_X3_isOfKind (a0 : Int32) (a1 : Int32) (u : xN) : ∀ r, f_X3_isOfKind a0 a1 u = some r → xEm md_X3_isOfKind yX3_isOfKind [.int a0, .int a1] (xU u) (some (.int r), (xU u)) := xm_met (res := (rsI (xU u))) (as := [.int a0, .int a1]) (go_X3_isOfKind a0 a1 u) (by decide) rfl (Nat.le_of_ble_eq_true rfl)
theorem mw_X0_beginsClause : xMv yX0_beginsClause cX0_beginsClause 3 (some .boolean) 1 := xMv_of (p1 := 380) (p2 := 379) (p3 := 95) (p4 := 9) (by decide +kernel)
/-! NeitherBare$Court.beginsClause(I)Z (13, None) -/
abbrev md_X0_beginsClause_13 : xMd := (cX0_beginsClause, RX0, 3, some .boolean, 2)
def f_X0_beginsClause_13_L16 (N : Nat) (u : xN) : Option (Int32 × xN) := some ((0 : Int32), u)
set_option maxRecDepth 20000 in
theorem go_X0_beginsClause_13_L16 (N : Nat) (u : xN) : xGm md_X0_beginsClause_13 rsM (f_X0_beginsClause_13_L16 N u) 16 [] [] (xU u) := by
  unfold f_X0_beginsClause_13_L16
  refine xm_blk0 (pc' := 17) (lv' := []) (st' := [.int (0 : Int32)]) (u' := (xU u)) [(.iconst 0, (0, 0, 0), 0, 0)] (by decide +kernel) rfl ?_
  exact xm_zret0 (pc := 17) (by decide +kernel) rfl (by decide) rfl
def f_X0_beginsClause_13_L79 (N : Nat) (t0 : Int32) (u : xN) : Option (Int32 × xN) := some ((1 : Int32), mI u 13 2 t0)
set_option maxRecDepth 20000 in
theorem go_X0_beginsClause_13_L79 (N : Nat) (t0 : Int32) (u : xN) : xGm md_X0_beginsClause_13 rsM (f_X0_beginsClause_13_L79 N t0 u) 79 [] [.int t0, .ref 13] (xU u) := by
  unfold f_X0_beginsClause_13_L79
  refine xm_blk0 (pc' := 83) (lv' := []) (st' := [.int (1 : Int32)]) (u' := (xU (mI u 13 2 t0))) [(.putfield 34, (0, 2, 146), 0, 0), (.iconst 1, (0, 0, 0), 1, 0)] (by decide +kernel) rfl ?_
  exact xm_zret0 (pc := 83) (by decide +kernel) rfl (by decide) rfl
def f_X0_beginsClause_13_L20b (N : Nat) (rec20 : Int32 → Int32 → xN → Option (Int32 × xN)) (v1 : Int32) (v2 : Int32) (u : xN) : Option (Int32 × xN) := if (5 : Int32) < v2 then some ((0 : Int32), u) else gdl [inb v2 6] (if (xS 55 (Int32.toNatClampNeg v2)) = v1 then (gdl [inb (u.1 13 1) 8, inb ((mI u 16 (Int32.toNatClampNeg (u.1 13 1)) v2).1 13 1) 8] (Option.bind (f_X3_isOfKind v2 (2 : Int32) (mI (mI (mI u 16 (Int32.toNatClampNeg (u.1 13 1)) v2) 18 (Int32.toNatClampNeg ((mI u 16 (Int32.toNatClampNeg (u.1 13 1)) v2).1 13 1)) (-9 : Int32)) 13 1 (((mI (mI u 16 (Int32.toNatClampNeg (u.1 13 1)) v2) 18 (Int32.toNatClampNeg ((mI u 16 (Int32.toNatClampNeg (u.1 13 1)) v2).1 13 1)) (-9 : Int32)).1 13 1) + (1 : Int32)))) (fun r68 => if r68 = (0 : Int32) then f_X0_beginsClause_13_L79 N (1 : Int32) (mI (mI (mI u 16 (Int32.toNatClampNeg (u.1 13 1)) v2) 18 (Int32.toNatClampNeg ((mI u 16 (Int32.toNatClampNeg (u.1 13 1)) v2).1 13 1)) (-9 : Int32)) 13 1 (((mI (mI u 16 (Int32.toNatClampNeg (u.1 13 1)) v2) 18 (Int32.toNatClampNeg ((mI u 16 (Int32.toNatClampNeg (u.1 13 1)) v2).1 13 1)) (-9 : Int32)).1 13 1) + (1 : Int32))) else f_X0_beginsClause_13_L79 N (2 : Int32) (mI (mI (mI u 16 (Int32.toNatClampNeg (u.1 13 1)) v2) 18 (Int32.toNatClampNeg ((mI u 16 (Int32.toNatClampNeg (u.1 13 1)) v2).1 13 1)) (-9 : Int32)) 13 1 (((mI (mI u 16 (Int32.toNatClampNeg (u.1 13 1)) v2) 18 (Int32.toNatClampNeg ((mI u 16 (Int32.toNatClampNeg (u.1 13 1)) v2).1 13 1)) (-9 : Int32)).1 13 1) + (1 : Int32)))))) else rec20 v1 (v2 + (1 : Int32)) u)
set_option maxRecDepth 20000 in
theorem go_X0_beginsClause_13_L20b (N : Nat) (rec20 : Int32 → Int32 → xN → Option (Int32 × xN)) (h20 : ∀ (v1 : Int32) (v2 : Int32) (u : xN), xGm md_X0_beginsClause_13 rsM (rec20 v1 v2 u) 20 [(0, .ref 13), (1, .int v1), (2, .int v2)] [] (xU u)) (v1 : Int32) (v2 : Int32) (u : xN) : xGm md_X0_beginsClause_13 rsM (f_X0_beginsClause_13_L20b N rec20 v1 v2 u) 20 [(0, .ref 13), (1, .int v1), (2, .int v2)] [] (xU u) := by
  unfold f_X0_beginsClause_13_L20b
  refine xm_blk0 (pc' := 22) (lv' := [(0, .ref 13), (1, .int v1), (2, .int v2)]) (st' := [.int (5 : Int32), .int v2]) (u' := (xU u)) [(.iload_n 2, (0, 0, 0), 0, 0), (.iconst 5, (0, 0, 0), 5, 0)] (by decide +kernel) rfl ?_
  refine xm_icmp_gt (pc := 22) (off := 68) (tgt := 90) (by decide +kernel) (by decide) ?_ ?_
  · refine xm_blk0 (pc' := 91) (lv' := [(0, .ref 13), (1, .int v1), (2, .int v2)]) (st' := [.int (0 : Int32)]) (u' := (xU u)) [(.iconst 0, (0, 0, 0), 0, 0)] (by decide +kernel) rfl ?_
    exact xm_zret0 (pc := 91) (by decide +kernel) rfl (by decide) rfl
  · refine xm_blk (bs := [inb v2 6]) (pc' := 31) (lv' := [(0, .ref 13), (1, .int v1), (2, .int v2)]) (st' := [.int v1, .int (xS 55 (Int32.toNatClampNeg v2))]) (u' := (xU u)) [(.getstatic 61, (55, 0, 0), 0, 0), (.iload_n 2, (0, 0, 0), 0, 0), (.iaload, (0, 0, 0), 0, 0), (.iload_n 1, (0, 0, 0), 0, 0)] (by decide +kernel) rfl ?_
    refine xm_icmp_ne (pc := 31) (off := 53) (tgt := 84) (by decide +kernel) (by decide) ?_ ?_
    · refine xm_blk0 (pc' := 87) (lv' := [(0, .ref 13), (1, .int v1), (2, .int (v2 + (1 : Int32)))]) (st' := []) (u' := (xU u)) [(.iinc 2 1, (0, 0, 0), 1, 0)] (by decide +kernel) rfl ?_
      refine xm_goto (pc := 87) (off := -67) (tgt := 20) (by decide +kernel) (by decide) ?_
      exact h20 v1 (v2 + (1 : Int32)) u
    · refine xm_blk (bs := [inb (u.1 13 1) 8, inb ((mI u 16 (Int32.toNatClampNeg (u.1 13 1)) v2).1 13 1) 8]) (pc' := 68) (lv' := [(0, .ref 13), (1, .int v1), (2, .int v2)]) (st' := [.int (2 : Int32), .int v2, .ref 13]) (u' := (xU (mI (mI (mI u 16 (Int32.toNatClampNeg (u.1 13 1)) v2) 18 (Int32.toNatClampNeg ((mI u 16 (Int32.toNatClampNeg (u.1 13 1)) v2).1 13 1)) (-9 : Int32)) 13 1 (((mI (mI u 16 (Int32.toNatClampNeg (u.1 13 1)) v2) 18 (Int32.toNatClampNeg ((mI u 16 (Int32.toNatClampNeg (u.1 13 1)) v2).1 13 1)) (-9 : Int32)).1 13 1) + (1 : Int32))))) [(.aload_n 0, (0, 0, 0), 0, 0), (.getfield 18, (0, 5, 150), 0, 0), (.aload_n 0, (0, 0, 0), 0, 0), (.getfield 31, (0, 1, 144), 0, 0), (.iload_n 2, (0, 0, 0), 0, 0), (.iastore, (0, 0, 0), 0, 0), (.aload_n 0, (0, 0, 0), 0, 0), (.getfield 24, (0, 7, 154), 0, 0), (.aload_n 0, (0, 0, 0), 0, 0), (.getfield 31, (0, 1, 144), 0, 0), (.bipush (-9), (0, 0, 0), -9, 0), (.iastore, (0, 0, 0), 0, 0), (.aload_n 0, (0, 0, 0), 0, 0), (.dup, (0, 0, 0), 0, 0), (.getfield 31, (0, 1, 144), 0, 0), (.iconst 1, (0, 0, 0), 1, 0), (.iadd, (0, 0, 0), 0, 0), (.putfield 31, (0, 1, 144), 0, 0), (.aload_n 0, (0, 0, 0), 0, 0), (.iload_n 2, (0, 0, 0), 0, 0), (.iconst 2, (0, 0, 0), 2, 0)] (by decide +kernel) rfl ?_
      refine xm_Ni (pc := 68) (mz := md_X3_isOfKind) (idx := 64) (as := [.int v2, .int (2 : Int32)]) (st := [.ref 13]) (ev_X3_isOfKind v2 (2 : Int32) (mI (mI (mI u 16 (Int32.toNatClampNeg (u.1 13 1)) v2) 18 (Int32.toNatClampNeg ((mI u 16 (Int32.toNatClampNeg (u.1 13 1)) v2).1 13 1)) (-9 : Int32)) 13 1 (((mI (mI u 16 (Int32.toNatClampNeg (u.1 13 1)) v2) 18 (Int32.toNatClampNeg ((mI u 16 (Int32.toNatClampNeg (u.1 13 1)) v2).1 13 1)) (-9 : Int32)).1 13 1) + (1 : Int32)))) mw_X3_isOfKind (by decide +kernel) (fun _ h => h.2.1) (by decide) rfl (Nat.le_of_ble_eq_true rfl) (fun r68 => ?_)
      refine xm_if_eq (pc := 71) (off := 7) (tgt := 78) (by decide +kernel) (by decide) ?_ ?_
      · refine xm_blk0 (pc' := 79) (lv' := [(0, .ref 13), (1, .int v1), (2, .int v2)]) (st' := [.int (1 : Int32), .ref 13]) (u' := (xU (mI (mI (mI u 16 (Int32.toNatClampNeg (u.1 13 1)) v2) 18 (Int32.toNatClampNeg ((mI u 16 (Int32.toNatClampNeg (u.1 13 1)) v2).1 13 1)) (-9 : Int32)) 13 1 (((mI (mI u 16 (Int32.toNatClampNeg (u.1 13 1)) v2) 18 (Int32.toNatClampNeg ((mI u 16 (Int32.toNatClampNeg (u.1 13 1)) v2).1 13 1)) (-9 : Int32)).1 13 1) + (1 : Int32))))) [(.iconst 1, (0, 0, 0), 1, 0)] (by decide +kernel) rfl ?_
        refine xm_wk [] (lv' := []) rfl ?_
        exact go_X0_beginsClause_13_L79 N (1 : Int32) (mI (mI (mI u 16 (Int32.toNatClampNeg (u.1 13 1)) v2) 18 (Int32.toNatClampNeg ((mI u 16 (Int32.toNatClampNeg (u.1 13 1)) v2).1 13 1)) (-9 : Int32)) 13 1 (((mI (mI u 16 (Int32.toNatClampNeg (u.1 13 1)) v2) 18 (Int32.toNatClampNeg ((mI u 16 (Int32.toNatClampNeg (u.1 13 1)) v2).1 13 1)) (-9 : Int32)).1 13 1) + (1 : Int32)))
      · refine xm_blk0 (pc' := 75) (lv' := [(0, .ref 13), (1, .int v1), (2, .int v2)]) (st' := [.int (2 : Int32), .ref 13]) (u' := (xU (mI (mI (mI u 16 (Int32.toNatClampNeg (u.1 13 1)) v2) 18 (Int32.toNatClampNeg ((mI u 16 (Int32.toNatClampNeg (u.1 13 1)) v2).1 13 1)) (-9 : Int32)) 13 1 (((mI (mI u 16 (Int32.toNatClampNeg (u.1 13 1)) v2) 18 (Int32.toNatClampNeg ((mI u 16 (Int32.toNatClampNeg (u.1 13 1)) v2).1 13 1)) (-9 : Int32)).1 13 1) + (1 : Int32))))) [(.iconst 2, (0, 0, 0), 2, 0)] (by decide +kernel) rfl ?_
        refine xm_goto (pc := 75) (off := 4) (tgt := 79) (by decide +kernel) (by decide) ?_
        refine xm_wk [] (lv' := []) rfl ?_
        exact go_X0_beginsClause_13_L79 N (2 : Int32) (mI (mI (mI u 16 (Int32.toNatClampNeg (u.1 13 1)) v2) 18 (Int32.toNatClampNeg ((mI u 16 (Int32.toNatClampNeg (u.1 13 1)) v2).1 13 1)) (-9 : Int32)) 13 1 (((mI (mI u 16 (Int32.toNatClampNeg (u.1 13 1)) v2) 18 (Int32.toNatClampNeg ((mI u 16 (Int32.toNatClampNeg (u.1 13 1)) v2).1 13 1)) (-9 : Int32)).1 13 1) + (1 : Int32)))
def f_X0_beginsClause_13_L20 (N : Nat) : Nat → Int32 → Int32 → xN → Option (Int32 × xN)
  | 0 => fun _ _ _ => none
  | n + 1 => fun v1 v2 u => f_X0_beginsClause_13_L20b N (f_X0_beginsClause_13_L20 N n) v1 v2 u
theorem go_X0_beginsClause_13_L20 (N : Nat) : ∀ (n : Nat) (v1 : Int32) (v2 : Int32) (u : xN), xGm md_X0_beginsClause_13 rsM (f_X0_beginsClause_13_L20 N n v1 v2 u) 20 [(0, .ref 13), (1, .int v1), (2, .int v2)] [] (xU u) := by
  intro n
  induction n with
  | zero => intro v1 v2 u; exact xm_none
  | succ n ih => intro v1 v2 u; exact go_X0_beginsClause_13_L20b N _ ih v1 v2 u
def f_X0_beginsClause_13 (N : Nat) (a1 : Int32) (u : xN) : Option (Int32 × xN) := if (u.1 13 0) = (0 : Int32) then f_X0_beginsClause_13_L16 N u else if (u.1 13 1) < (8 : Int32) then f_X0_beginsClause_13_L20 N N a1 (0 : Int32) u else f_X0_beginsClause_13_L16 N u
set_option maxRecDepth 20000 in
theorem go_X0_beginsClause_13 (N : Nat) (a1 : Int32) (u : xN) : xGm md_X0_beginsClause_13 rsM (f_X0_beginsClause_13 N a1 u) 0 [(0, .ref 13), (1, .int a1)] [] (xU u) := by
  unfold f_X0_beginsClause_13
  refine xm_blk0 (pc' := 4) (lv' := [(0, .ref 13), (1, .int a1)]) (st' := [.int (u.1 13 0)]) (u' := (xU u)) [(.aload_n 0, (0, 0, 0), 0, 0), (.getfield 27, (0, 0, 142), 0, 0)] (by decide +kernel) rfl ?_
  refine xm_if_eq (pc := 4) (off := 12) (tgt := 16) (by decide +kernel) (by decide) ?_ ?_
  · refine xm_wk [] (lv' := []) rfl ?_
    exact go_X0_beginsClause_13_L16 N u
  · refine xm_blk0 (pc' := 13) (lv' := [(0, .ref 13), (1, .int a1)]) (st' := [.int (8 : Int32), .int (u.1 13 1)]) (u' := (xU u)) [(.aload_n 0, (0, 0, 0), 0, 0), (.getfield 31, (0, 1, 144), 0, 0), (.bipush 8, (0, 0, 0), 8, 0)] (by decide +kernel) rfl ?_
    refine xm_icmp_lt (pc := 13) (off := 5) (tgt := 18) (by decide +kernel) (by decide) ?_ ?_
    · refine xm_blk0 (pc' := 20) (lv' := [(0, .ref 13), (1, .int a1), (2, .int (0 : Int32))]) (st' := []) (u' := (xU u)) [(.iconst 0, (0, 0, 0), 0, 0), (.istore_n 2, (0, 0, 0), 0, 0)] (by decide +kernel) rfl ?_
      exact go_X0_beginsClause_13_L20 N N a1 (0 : Int32) u
    · refine xm_wk [] (lv' := []) rfl ?_
      exact go_X0_beginsClause_13_L16 N u
theorem ev_X0_beginsClause_13 (N : Nat) (a1 : Int32) (u : xN) : ∀ r, f_X0_beginsClause_13 N a1 u = some r → xEm md_X0_beginsClause_13 yX0_beginsClause [.ref 13, .int a1] (xU u) (some (.int r.1), xU r.2) := xm_met (res := rsM) (as := [.ref 13, .int a1]) (go_X0_beginsClause_13 N a1 u) (by decide) rfl (Nat.le_of_ble_eq_true rfl)
theorem mw_X0_beginsThing : xMv yX0_beginsThing cX0_beginsThing 1 (some .boolean) 0 := xMv_of (p1 := 376) (p2 := 375) (p3 := 95) (p4 := 8) (by decide +kernel)
/-! NeitherBare$Court.beginsThing()Z (13,) -/
abbrev md_X0_beginsThing_13 : xMd := (cX0_beginsThing, RX0, 1, some .boolean, 1)
def f_X0_beginsThing_13_L16 (u : xN) : Option (Int32 × xN) := some ((0 : Int32), u)
set_option maxRecDepth 20000 in
theorem go_X0_beginsThing_13_L16 (u : xN) : xGm md_X0_beginsThing_13 rsM (f_X0_beginsThing_13_L16 u) 16 [] [] (xU u) := by
  unfold f_X0_beginsThing_13_L16
  refine xm_blk0 (pc' := 17) (lv' := []) (st' := [.int (0 : Int32)]) (u' := (xU u)) [(.iconst 0, (0, 0, 0), 0, 0)] (by decide +kernel) rfl ?_
  exact xm_zret0 (pc := 17) (by decide +kernel) rfl (by decide) rfl
def f_X0_beginsThing_13 (u : xN) : Option (Int32 × xN) := if (0 : Int32) < (u.1 13 1) then f_X0_beginsThing_13_L16 u else if (u.1 13 0) < (6 : Int32) then some ((1 : Int32), mI (mI u 13 0 ((u.1 13 0) + (1 : Int32))) 13 2 (5 : Int32)) else f_X0_beginsThing_13_L16 u
set_option maxRecDepth 20000 in
theorem go_X0_beginsThing_13 (u : xN) : xGm md_X0_beginsThing_13 rsM (f_X0_beginsThing_13 u) 0 [(0, .ref 13)] [] (xU u) := by
  unfold f_X0_beginsThing_13
  refine xm_blk0 (pc' := 4) (lv' := [(0, .ref 13)]) (st' := [.int (u.1 13 1)]) (u' := (xU u)) [(.aload_n 0, (0, 0, 0), 0, 0), (.getfield 31, (0, 1, 144), 0, 0)] (by decide +kernel) rfl ?_
  refine xm_if_gt (pc := 4) (off := 12) (tgt := 16) (by decide +kernel) (by decide) ?_ ?_
  · refine xm_wk [] (lv' := []) rfl ?_
    exact go_X0_beginsThing_13_L16 u
  · refine xm_blk0 (pc' := 13) (lv' := [(0, .ref 13)]) (st' := [.int (6 : Int32), .int (u.1 13 0)]) (u' := (xU u)) [(.aload_n 0, (0, 0, 0), 0, 0), (.getfield 27, (0, 0, 142), 0, 0), (.bipush 6, (0, 0, 0), 6, 0)] (by decide +kernel) rfl ?_
    refine xm_icmp_lt (pc := 13) (off := 5) (tgt := 18) (by decide +kernel) (by decide) ?_ ?_
    · refine xm_blk0 (pc' := 34) (lv' := [(0, .ref 13)]) (st' := [.int (1 : Int32)]) (u' := (xU (mI (mI u 13 0 ((u.1 13 0) + (1 : Int32))) 13 2 (5 : Int32)))) [(.aload_n 0, (0, 0, 0), 0, 0), (.dup, (0, 0, 0), 0, 0), (.getfield 27, (0, 0, 142), 0, 0), (.iconst 1, (0, 0, 0), 1, 0), (.iadd, (0, 0, 0), 0, 0), (.putfield 27, (0, 0, 142), 0, 0), (.aload_n 0, (0, 0, 0), 0, 0), (.iconst 5, (0, 0, 0), 5, 0), (.putfield 34, (0, 2, 146), 0, 0), (.iconst 1, (0, 0, 0), 1, 0)] (by decide +kernel) rfl ?_
      exact xm_zret0 (pc := 34) (by decide +kernel) rfl (by decide) rfl
    · refine xm_wk [] (lv' := []) rfl ?_
      exact go_X0_beginsThing_13_L16 u
theorem ev_X0_beginsThing_13 (u : xN) : ∀ r, f_X0_beginsThing_13 u = some r → xEm md_X0_beginsThing_13 yX0_beginsThing [.ref 13] (xU u) (some (.int r.1), xU r.2) := xm_met (res := rsM) (as := [.ref 13]) (go_X0_beginsThing_13 u) (by decide) rfl (Nat.le_of_ble_eq_true rfl)
theorem mw_X0_beginsItem : xMv yX0_beginsItem cX0_beginsItem 2 (some .boolean) 1 := xMv_of (p1 := 372) (p2 := 371) (p3 := 95) (p4 := 7) (by decide +kernel)
/-! NeitherBare$Court.beginsItem(I)Z (13, None) -/
abbrev md_X0_beginsItem_13 : xMd := (cX0_beginsItem, RX0, 2, some .boolean, 3)
def f_X0_beginsItem_13_L26 (N : Nat) (t0 : Int32) (u : xN) : Option (Int32 × xN) := gdl [isb t0] (some (t0, u))
set_option maxRecDepth 20000 in
theorem go_X0_beginsItem_13_L26 (N : Nat) (t0 : Int32) (u : xN) : xGm md_X0_beginsItem_13 rsM (f_X0_beginsItem_13_L26 N t0 u) 26 [] [.int t0] (xU u) := by
  unfold f_X0_beginsItem_13_L26
  exact xm_zret (pc := 26) (by decide +kernel) rfl rfl
def f_X0_beginsItem_13 (N : Nat) (a1 : Int32) (u : xN) : Option (Int32 × xN) := if a1 = (32 : Int32) then some ((1 : Int32), u) else if a1 = (116 : Int32) then Option.bind (f_X0_beginsThing_13 u) (fun r15 => f_X0_beginsItem_13_L26 N r15.1 r15.2) else Option.bind (f_X0_beginsClause_13 N a1 u) (fun r23 => f_X0_beginsItem_13_L26 N r23.1 r23.2)
set_option maxRecDepth 20000 in
theorem go_X0_beginsItem_13 (N : Nat) (a1 : Int32) (u : xN) : xGm md_X0_beginsItem_13 rsM (f_X0_beginsItem_13 N a1 u) 0 [(0, .ref 13), (1, .int a1)] [] (xU u) := by
  unfold f_X0_beginsItem_13
  refine xm_blk0 (pc' := 3) (lv' := [(0, .ref 13), (1, .int a1)]) (st' := [.int (32 : Int32), .int a1]) (u' := (xU u)) [(.iload_n 1, (0, 0, 0), 0, 0), (.bipush 32, (0, 0, 0), 32, 0)] (by decide +kernel) rfl ?_
  refine xm_icmp_ne (pc := 3) (off := 5) (tgt := 8) (by decide +kernel) (by decide) ?_ ?_
  · refine xm_blk0 (pc' := 11) (lv' := [(0, .ref 13), (1, .int a1)]) (st' := [.int (116 : Int32), .int a1]) (u' := (xU u)) [(.iload_n 1, (0, 0, 0), 0, 0), (.bipush 116, (0, 0, 0), 116, 0)] (by decide +kernel) rfl ?_
    refine xm_icmp_ne (pc := 11) (off := 10) (tgt := 21) (by decide +kernel) (by decide) ?_ ?_
    · refine xm_blk0 (pc' := 23) (lv' := [(0, .ref 13), (1, .int a1)]) (st' := [.int a1, .ref 13]) (u' := (xU u)) [(.aload_n 0, (0, 0, 0), 0, 0), (.iload_n 1, (0, 0, 0), 0, 0)] (by decide +kernel) rfl ?_
      refine xm_Vm (pc := 23) (mz := md_X0_beginsClause_13) (idx := 58) (p1 := 377) (a := 13) (as := [.int a1]) (st := []) (ev_X0_beginsClause_13 N a1 u) mw_X0_beginsClause (by decide +kernel) (by decide +kernel) (by decide) rfl rfl (by decide) rfl (Nat.le_of_ble_eq_true rfl) (fun r23 => ?_)
      refine xm_wk [] (lv' := []) rfl ?_
      exact go_X0_beginsItem_13_L26 N r23.1 r23.2
    · refine xm_blk0 (pc' := 15) (lv' := [(0, .ref 13), (1, .int a1)]) (st' := [.ref 13]) (u' := (xU u)) [(.aload_n 0, (0, 0, 0), 0, 0)] (by decide +kernel) rfl ?_
      refine xm_Vm (pc := 15) (mz := md_X0_beginsThing_13) (idx := 54) (p1 := 373) (a := 13) (as := []) (st := []) (ev_X0_beginsThing_13 u) mw_X0_beginsThing (by decide +kernel) (by decide +kernel) (by decide) rfl rfl (by decide) rfl (Nat.le_of_ble_eq_true rfl) (fun r15 => ?_)
      refine xm_goto (pc := 18) (off := 8) (tgt := 26) (by decide +kernel) (by decide) ?_
      refine xm_wk [] (lv' := []) rfl ?_
      exact go_X0_beginsItem_13_L26 N r15.1 r15.2
  · refine xm_blk0 (pc' := 7) (lv' := [(0, .ref 13), (1, .int a1)]) (st' := [.int (1 : Int32)]) (u' := (xU u)) [(.iconst 1, (0, 0, 0), 1, 0)] (by decide +kernel) rfl ?_
    exact xm_zret0 (pc := 7) (by decide +kernel) rfl (by decide) rfl
theorem ev_X0_beginsItem_13 (N : Nat) (a1 : Int32) (u : xN) : ∀ r, f_X0_beginsItem_13 N a1 u = some r → xEm md_X0_beginsItem_13 yX0_beginsItem [.ref 13, .int a1] (xU u) (some (.int r.1), xU r.2) := xm_met (res := rsM) (as := [.ref 13, .int a1]) (go_X0_beginsItem_13 N a1 u) (by decide) rfl (Nat.le_of_ble_eq_true rfl)
