theorem mw_X4_in : xMs yX4_in cX4_in 6 (some .boolean) 3 := xMs_of (p1 := 907) (p2 := 906) (p3 := 97) (by decide +kernel)
/-! NeitherBareModel.in(JJJ)Z  -/
abbrev md_X4_in : xMd := (cX4_in, RX4, 6, some .boolean, 1)
def f_X4_in_L18 (t0 : Int32) : Option Int32 := gdl [isb t0] (some t0)
set_option maxRecDepth 20000 in
theorem go_X4_in_L18 (u : xN) (t0 : Int32) : xGm md_X4_in (rsI (xU u)) (f_X4_in_L18 t0) 18 [] [.int t0] (xU u) := by
  unfold f_X4_in_L18
  exact xm_zret (pc := 18) (by decide +kernel) rfl rfl
def f_X4_in_L17  : Option Int32 := f_X4_in_L18 (0 : Int32)
set_option maxRecDepth 20000 in
theorem go_X4_in_L17 (u : xN) : xGm md_X4_in (rsI (xU u)) (f_X4_in_L17) 17 [] [] (xU u) := by
  unfold f_X4_in_L17
  refine xm_blk0 (pc' := 18) (lv' := []) (st' := [.int (0 : Int32)]) (u' := (xU u)) [(.iconst 0, (0, 0, 0), 0, 0)] (by decide +kernel) rfl ?_
  exact go_X4_in_L18 u (0 : Int32)
def f_X4_in (a0 : Int64) (a2 : Int64) (a4 : Int64) : Option Int32 := if (lg_cmp a0 a2) < (0 : Int32) then f_X4_in_L17 else if (0 : Int32) < (lg_cmp a0 a4) then f_X4_in_L17 else f_X4_in_L18 (1 : Int32)
set_option maxRecDepth 20000 in
theorem go_X4_in (a0 : Int64) (a2 : Int64) (a4 : Int64) (u : xN) : xGm md_X4_in (rsI (xU u)) (f_X4_in a0 a2 a4) 0 [(0, .long a0), (2, .long a2), (4, .long a4)] [] (xU u) := by
  unfold f_X4_in
  refine xm_blk0 (pc' := 3) (lv' := [(0, .long a0), (2, .long a2), (4, .long a4)]) (st' := [.int (lg_cmp a0 a2)]) (u' := (xU u)) [(.lload_n 0, (0, 0, 0), 0, 0), (.lload_n 2, (0, 0, 0), 0, 0), (.lcmp, (0, 0, 0), 0, 0)] (by decide +kernel) rfl ?_
  refine xm_if_lt (pc := 3) (off := 14) (tgt := 17) (by decide +kernel) (by decide) ?_ ?_
  · refine xm_wk [] (lv' := []) rfl ?_
    exact go_X4_in_L17 u
  · refine xm_blk0 (pc' := 10) (lv' := [(0, .long a0), (2, .long a2), (4, .long a4)]) (st' := [.int (lg_cmp a0 a4)]) (u' := (xU u)) [(.lload_n 0, (0, 0, 0), 0, 0), (.lload 4, (0, 0, 0), 0, 0), (.lcmp, (0, 0, 0), 0, 0)] (by decide +kernel) rfl ?_
    refine xm_if_gt (pc := 10) (off := 7) (tgt := 17) (by decide +kernel) (by decide) ?_ ?_
    · refine xm_wk [] (lv' := []) rfl ?_
      exact go_X4_in_L17 u
    · refine xm_blk0 (pc' := 14) (lv' := [(0, .long a0), (2, .long a2), (4, .long a4)]) (st' := [.int (1 : Int32)]) (u' := (xU u)) [(.iconst 1, (0, 0, 0), 1, 0)] (by decide +kernel) rfl ?_
      refine xm_goto (pc := 14) (off := 4) (tgt := 18) (by decide +kernel) (by decide) ?_
      refine xm_wk [] (lv' := []) rfl ?_
      exact go_X4_in_L18 u (1 : Int32)
theorem ev_X4_in (a0 : Int64) (a2 : Int64) (a4 : Int64) (u : xN) : ∀ r, f_X4_in a0 a2 a4 = some r → xEm md_X4_in yX4_in [.long a0, .long a2, .long a4] (xU u) (some (.int r), (xU u)) := xm_met (res := (rsI (xU u))) (as := [.long a0, .long a2, .long a4]) (go_X4_in a0 a2 a4 u) (by decide) rfl (Nat.le_of_ble_eq_true rfl)
theorem mw_X4_isRow : xMs yX4_isRow cX4_isRow 1 (some .boolean) 1 := xMs_of (p1 := 903) (p2 := 902) (p3 := 97) (by decide +kernel)
/-! NeitherBareModel.isRow(I)Z  -/
abbrev md_X4_isRow : xMd := (cX4_isRow, RX4, 1, some .boolean, 2)
def f_X4_isRow (a0 : Int32) : Option Int32 := Option.bind (f_X4_in (Int32.toInt64 a0) (0 : Int64) (5 : Int64)) (fun r6 => gdl [isb r6] (some r6))
set_option maxRecDepth 20000 in
theorem go_X4_isRow (a0 : Int32) (u : xN) : xGm md_X4_isRow (rsI (xU u)) (f_X4_isRow a0) 0 [(0, .int a0)] [] (xU u) := by
  unfold f_X4_isRow
  refine xm_blk0 (pc' := 6) (lv' := [(0, .int a0)]) (st' := [.long (5 : Int64), .long (0 : Int64), .long (Int32.toInt64 a0)]) (u' := (xU u)) [(.iload_n 0, (0, 0, 0), 0, 0), (.i2l, (0, 0, 0), 0, 0), (.lconst 0, (0, 0, 0), 0, 0), (.ldc2_w 70, (0, 0, 904), 0, 5)] (by decide +kernel) rfl ?_
  refine xm_Si (pc := 6) (mz := md_X4_in) (idx := 72) (p1 := 905) (as := [.long (Int32.toInt64 a0), .long (0 : Int64), .long (5 : Int64)]) (st := []) (ev_X4_in (Int32.toInt64 a0) (0 : Int64) (5 : Int64) u) mw_X4_in (by decide +kernel) (by decide +kernel) (by decide) rfl (Nat.le_of_ble_eq_true rfl) (fun r6 => ?_)
  exact xm_zret (pc := 9) (by decide +kernel) rfl rfl
theorem ev_X4_isRow (a0 : Int32) (u : xN) : ∀ r, f_X4_isRow a0 = some r → xEm md_X4_isRow yX4_isRow [.int a0] (xU u) (some (.int r), (xU u)) := xm_met (res := (rsI (xU u))) (as := [.int a0]) (go_X4_isRow a0 u) (by decide) rfl (Nat.le_of_ble_eq_true rfl)
theorem mw_X4_makeRow : xMv yX4_makeRow cX4_makeRow 4 none 2 := xMv_of (p1 := 915) (p2 := 914) (p3 := 97) (p4 := 41) (by decide +kernel)
/-! NeitherBareModel.makeRow(II)V (39, None, None) -/
abbrev md_X4_makeRow : xMd := (cX4_makeRow, RX4, 4, none, 1)
def f_X4_makeRow_L9b (N : Nat) (rec9 : Int32 → Int32 → xN → Option xN) (v1 : Int32) (v3 : Int32) (u : xN) : Option xN := if (40 : Int32) ≤ v3 then some u else gdl [inb (((40 : Int32) * v1) + v3) 240] (rec9 v1 (v3 + (1 : Int32)) (mI u 46 (Int32.toNatClampNeg (((40 : Int32) * v1) + v3)) (0 : Int32)))
set_option maxRecDepth 20000 in
theorem go_X4_makeRow_L9b (N : Nat) (rec9 : Int32 → Int32 → xN → Option xN) (h9 : ∀ (v1 : Int32) (v3 : Int32) (u : xN), xGm md_X4_makeRow rsV (rec9 v1 v3 u) 9 [(0, .ref 39), (1, .int v1), (3, .int v3)] [] (xU u)) (v1 : Int32) (v3 : Int32) (u : xN) : xGm md_X4_makeRow rsV (f_X4_makeRow_L9b N rec9 v1 v3 u) 9 [(0, .ref 39), (1, .int v1), (3, .int v3)] [] (xU u) := by
  unfold f_X4_makeRow_L9b
  refine xm_blk0 (pc' := 12) (lv' := [(0, .ref 39), (1, .int v1), (3, .int v3)]) (st' := [.int (40 : Int32), .int v3]) (u' := (xU u)) [(.iload_n 3, (0, 0, 0), 0, 0), (.bipush 40, (0, 0, 0), 40, 0)] (by decide +kernel) rfl ?_
  refine xm_icmp_ge (pc := 12) (off := 21) (tgt := 33) (by decide +kernel) (by decide) ?_ ?_
  · exact xm_vret (pc := 33) (by decide +kernel) rfl rfl
  · refine xm_blk (bs := [inb (((40 : Int32) * v1) + v3) 240]) (pc' := 30) (lv' := [(0, .ref 39), (1, .int v1), (3, .int (v3 + (1 : Int32)))]) (st' := []) (u' := (xU (mI u 46 (Int32.toNatClampNeg (((40 : Int32) * v1) + v3)) (0 : Int32)))) [(.aload_n 0, (0, 0, 0), 0, 0), (.getfield 28, (4, 8, 828), 0, 0), (.bipush 40, (0, 0, 0), 40, 0), (.iload_n 1, (0, 0, 0), 0, 0), (.imul, (0, 0, 0), 0, 0), (.iload_n 3, (0, 0, 0), 0, 0), (.iadd, (0, 0, 0), 0, 0), (.iconst 0, (0, 0, 0), 0, 0), (.iastore, (0, 0, 0), 0, 0), (.iinc 3 1, (0, 0, 0), 1, 0)] (by decide +kernel) rfl ?_
    refine xm_goto (pc := 30) (off := -21) (tgt := 9) (by decide +kernel) (by decide) ?_
    exact h9 v1 (v3 + (1 : Int32)) (mI u 46 (Int32.toNatClampNeg (((40 : Int32) * v1) + v3)) (0 : Int32))
def f_X4_makeRow_L9 (N : Nat) : Nat → Int32 → Int32 → xN → Option xN
  | 0 => fun _ _ _ => none
  | n + 1 => fun v1 v3 u => f_X4_makeRow_L9b N (f_X4_makeRow_L9 N n) v1 v3 u
theorem go_X4_makeRow_L9 (N : Nat) : ∀ (n : Nat) (v1 : Int32) (v3 : Int32) (u : xN), xGm md_X4_makeRow rsV (f_X4_makeRow_L9 N n v1 v3 u) 9 [(0, .ref 39), (1, .int v1), (3, .int v3)] [] (xU u) := by
  intro n
  induction n with
  | zero => intro v1 v3 u; exact xm_none
  | succ n ih => intro v1 v3 u; exact go_X4_makeRow_L9b N _ ih v1 v3 u
def f_X4_makeRow (N : Nat) (a1 : Int32) (a2 : Int32) (u : xN) : Option xN := gdl [inb a1 6] (f_X4_makeRow_L9 N N a1 (0 : Int32) (mI u 45 (Int32.toNatClampNeg a1) a2))
set_option maxRecDepth 20000 in
theorem go_X4_makeRow (N : Nat) (a1 : Int32) (a2 : Int32) (u : xN) : xGm md_X4_makeRow rsV (f_X4_makeRow N a1 a2 u) 0 [(0, .ref 39), (1, .int a1), (2, .int a2)] [] (xU u) := by
  unfold f_X4_makeRow
  refine xm_blk (bs := [inb a1 6]) (pc' := 9) (lv' := [(0, .ref 39), (1, .int a1), (2, .int a2), (3, .int (0 : Int32))]) (st' := []) (u' := (xU (mI u 45 (Int32.toNatClampNeg a1) a2))) [(.aload_n 0, (0, 0, 0), 0, 0), (.getfield 25, (4, 7, 827), 0, 0), (.iload_n 1, (0, 0, 0), 0, 0), (.iload_n 2, (0, 0, 0), 0, 0), (.iastore, (0, 0, 0), 0, 0), (.iconst 0, (0, 0, 0), 0, 0), (.istore_n 3, (0, 0, 0), 0, 0)] (by decide +kernel) rfl ?_
  refine xm_wk [0, 1, 3] (lv' := [(0, .ref 39), (1, .int a1), (3, .int (0 : Int32))]) rfl ?_
  exact go_X4_makeRow_L9 N N a1 (0 : Int32) (mI u 45 (Int32.toNatClampNeg a1) a2)
theorem ev_X4_makeRow (N : Nat) (a1 : Int32) (a2 : Int32) (u : xN) : ∀ r, f_X4_makeRow N a1 a2 u = some r → xEm md_X4_makeRow yX4_makeRow [.ref 39, .int a1, .int a2] (xU u) (none, xU r) := xm_met (res := rsV) (as := [.ref 39, .int a1, .int a2]) (go_X4_makeRow N a1 a2 u) (by decide) rfl (Nat.le_of_ble_eq_true rfl)
theorem mw_X4_find : xMv yX4_find cX4_find 2 (some .int) 1 := xMv_of (p1 := 911) (p2 := 910) (p3 := 97) (p4 := 40) (by decide +kernel)
/-! NeitherBareModel.find(I)I (39, None) -/
abbrev md_X4_find : xMd := (cX4_find, RX4, 2, some .int, 1)
def f_X4_find (a1 : Int32) (u : xN) : Option (Int32 × xN) := gdl [inb a1 6, inb a1 6] (some ((-3 : Int32), mI (mI u 39 14 a1) 49 (Int32.toNatClampNeg a1) (((mI u 39 14 a1).1 49 (Int32.toNatClampNeg a1)) + (1 : Int32))))
set_option maxRecDepth 20000 in
theorem go_X4_find (a1 : Int32) (u : xN) : xGm md_X4_find rsM (f_X4_find a1 u) 0 [(0, .ref 39), (1, .int a1)] [] (xU u) := by
  unfold f_X4_find
  refine xm_blk (bs := [inb a1 6, inb a1 6]) (pc' := 17) (lv' := [(0, .ref 39), (1, .int a1)]) (st' := [.int (-3 : Int32)]) (u' := (xU (mI (mI u 39 14 a1) 49 (Int32.toNatClampNeg a1) (((mI u 39 14 a1).1 49 (Int32.toNatClampNeg a1)) + (1 : Int32))))) [(.aload_n 0, (0, 0, 0), 0, 0), (.iload_n 1, (0, 0, 0), 0, 0), (.putfield 64, (4, 14, 834), 0, 0), (.aload_n 0, (0, 0, 0), 0, 0), (.getfield 41, (4, 15, 835), 0, 0), (.iload_n 1, (0, 0, 0), 0, 0), (.dup2, (0, 0, 0), 0, 0), (.iaload, (0, 0, 0), 0, 0), (.iconst 1, (0, 0, 0), 1, 0), (.iadd, (0, 0, 0), 0, 0), (.iastore, (0, 0, 0), 0, 0), (.bipush (-3), (0, 0, 0), -3, 0)] (by decide +kernel) rfl ?_
  exact xm_iret (pc := 17) (by decide +kernel) rfl rfl
theorem ev_X4_find (a1 : Int32) (u : xN) : ∀ r, f_X4_find a1 u = some r → xEm md_X4_find yX4_find [.ref 39, .int a1] (xU u) (some (.int r.1), xU r.2) := xm_met (res := rsM) (as := [.ref 39, .int a1]) (go_X4_find a1 u) (by decide) rfl (Nat.le_of_ble_eq_true rfl)
theorem mw_X4_row : xMv yX4_row cX4_row 3 (some .int) 2 := xMv_of (p1 := 900) (p2 := 898) (p3 := 97) (p4 := 899) (by decide +kernel)
/-! NeitherBareModel.row(II)I (39, None, None) -/
abbrev md_X4_row : xMd := (cX4_row, RX4, 3, some .int, 3)
def f_X4_row_L13 (N : Nat) (u : xN) : Option (Int32 × xN) := some ((-1 : Int32), u)
set_option maxRecDepth 20000 in
theorem go_X4_row_L13 (N : Nat) (u : xN) : xGm md_X4_row rsM (f_X4_row_L13 N u) 13 [] [] (xU u) := by
  unfold f_X4_row_L13
  refine xm_blk0 (pc' := 14) (lv' := []) (st' := [.int (-1 : Int32)]) (u' := (xU u)) [(.iconst (-1), (0, 0, 0), -1, 0)] (by decide +kernel) rfl ?_
  exact xm_iret (pc := 14) (by decide +kernel) rfl rfl
def f_X4_row (N : Nat) (a1 : Int32) (a2 : Int32) (u : xN) : Option (Int32 × xN) := Option.bind (f_X4_isRow a1) (fun r1 => if r1 = (0 : Int32) then f_X4_row_L13 N u else if a2 ≤ (40 : Int32) then (if (0 : Int32) ≤ a2 then Option.bind (f_X4_makeRow N a1 a2 u) (fun r28 => some (a2, r28)) else Option.bind (f_X4_find (5 : Int32) u) (fun r21 => some (r21.1, r21.2))) else f_X4_row_L13 N u)
set_option maxRecDepth 20000 in
theorem go_X4_row (N : Nat) (a1 : Int32) (a2 : Int32) (u : xN) : xGm md_X4_row rsM (f_X4_row N a1 a2 u) 0 [(0, .ref 39), (1, .int a1), (2, .int a2)] [] (xU u) := by
  unfold f_X4_row
  refine xm_blk0 (pc' := 1) (lv' := [(0, .ref 39), (1, .int a1), (2, .int a2)]) (st' := [.int a1]) (u' := (xU u)) [(.iload_n 1, (0, 0, 0), 0, 0)] (by decide +kernel) rfl ?_
  refine xm_Si (pc := 1) (mz := md_X4_isRow) (idx := 78) (p1 := 901) (as := [.int a1]) (st := []) (ev_X4_isRow a1 u) mw_X4_isRow (by decide +kernel) (by decide +kernel) (by decide) rfl (Nat.le_of_ble_eq_true rfl) (fun r1 => ?_)
  refine xm_if_eq (pc := 4) (off := 9) (tgt := 13) (by decide +kernel) (by decide) ?_ ?_
  · refine xm_wk [] (lv' := []) rfl ?_
    exact go_X4_row_L13 N u
  · refine xm_blk0 (pc' := 10) (lv' := [(0, .ref 39), (1, .int a1), (2, .int a2)]) (st' := [.int (40 : Int32), .int a2]) (u' := (xU u)) [(.iload_n 2, (0, 0, 0), 0, 0), (.bipush 40, (0, 0, 0), 40, 0)] (by decide +kernel) rfl ?_
    refine xm_icmp_le (pc := 10) (off := 5) (tgt := 15) (by decide +kernel) (by decide) ?_ ?_
    · refine xm_blk0 (pc' := 16) (lv' := [(0, .ref 39), (1, .int a1), (2, .int a2)]) (st' := [.int a2]) (u' := (xU u)) [(.iload_n 2, (0, 0, 0), 0, 0)] (by decide +kernel) rfl ?_
      refine xm_if_ge (pc := 16) (off := 9) (tgt := 25) (by decide +kernel) (by decide) ?_ ?_
      · refine xm_blk0 (pc' := 28) (lv' := [(0, .ref 39), (1, .int a1), (2, .int a2)]) (st' := [.int a2, .int a1, .ref 39]) (u' := (xU u)) [(.aload_n 0, (0, 0, 0), 0, 0), (.iload_n 1, (0, 0, 0), 0, 0), (.iload_n 2, (0, 0, 0), 0, 0)] (by decide +kernel) rfl ?_
        refine xm_Vv (pc := 28) (mz := md_X4_makeRow) (idx := 86) (p1 := 912) (a := 39) (as := [.int a1, .int a2]) (st := []) (ev_X4_makeRow N a1 a2 u) mw_X4_makeRow (by decide +kernel) (by decide +kernel) (by decide) rfl rfl (by decide) rfl (Nat.le_of_ble_eq_true rfl) (fun r28 => ?_)
        refine xm_blk0 (pc' := 32) (lv' := [(0, .ref 39), (1, .int a1), (2, .int a2)]) (st' := [.int a2]) (u' := (xU r28)) [(.iload_n 2, (0, 0, 0), 0, 0)] (by decide +kernel) rfl ?_
        exact xm_iret (pc := 32) (by decide +kernel) rfl rfl
      · refine xm_blk0 (pc' := 21) (lv' := [(0, .ref 39), (1, .int a1), (2, .int a2)]) (st' := [.int (5 : Int32), .ref 39]) (u' := (xU u)) [(.aload_n 0, (0, 0, 0), 0, 0), (.iconst 5, (0, 0, 0), 5, 0)] (by decide +kernel) rfl ?_
        refine xm_Vm (pc := 21) (mz := md_X4_find) (idx := 82) (p1 := 908) (a := 39) (as := [.int (5 : Int32)]) (st := []) (ev_X4_find (5 : Int32) u) mw_X4_find (by decide +kernel) (by decide +kernel) (by decide) rfl rfl (by decide) rfl (Nat.le_of_ble_eq_true rfl) (fun r21 => ?_)
        exact xm_iret (pc := 24) (by decide +kernel) rfl rfl
    · refine xm_wk [] (lv' := []) rfl ?_
      exact go_X4_row_L13 N u
theorem ev_X4_row (N : Nat) (a1 : Int32) (a2 : Int32) (u : xN) : ∀ r, f_X4_row N a1 a2 u = some r → xEm md_X4_row yX4_row [.ref 39, .int a1, .int a2] (xU u) (some (.int r.1), xU r.2) := xm_met (res := rsM) (as := [.ref 39, .int a1, .int a2]) (go_X4_row N a1 a2 u) (by decide) rfl (Nat.le_of_ble_eq_true rfl)
theorem mw_X4_refused : xMv yX4_refused cX4_refused 3 (some .int) 2 := xMv_of (p1 := 923) (p2 := 922) (p3 := 97) (p4 := 42) (by decide +kernel)
/-! NeitherBareModel.refused(II)I (39, None, None) -/
abbrev md_X4_refused : xMd := (cX4_refused, RX4, 3, some .int, 3)
def f_X4_refused_L55 (t0 : Int32) (u : xN) : Option (Int32 × xN) := some (t0, u)
set_option maxRecDepth 20000 in
theorem go_X4_refused_L55 (t0 : Int32) (u : xN) : xGm md_X4_refused rsM (f_X4_refused_L55 t0 u) 55 [] [.int t0] (xU u) := by
  unfold f_X4_refused_L55
  exact xm_iret (pc := 55) (by decide +kernel) rfl rfl
def f_X4_refused (a1 : Int32) (a2 : Int32) (u : xN) : Option (Int32 × xN) := Option.bind (f_X4_isRow a1) (fun r1 => if r1 = (0 : Int32) then f_X4_refused_L55 (-1 : Int32) u else gdl [inb a1 6] (if (0 : Int32) ≤ (u.1 45 (Int32.toNatClampNeg a1)) then (gdl [inb a1 6] (Option.bind (f_X4_in (Int32.toInt64 a2) (0 : Int64) (Int32.toInt64 ((u.1 45 (Int32.toNatClampNeg a1)) - (1 : Int32)))) (fun r40 => if r40 = (0 : Int32) then Option.bind (f_X4_find (2 : Int32) u) (fun r52 => f_X4_refused_L55 r52.1 r52.2) else f_X4_refused_L55 (0 : Int32) u))) else Option.bind (f_X4_find (1 : Int32) u) (fun r22 => f_X4_refused_L55 r22.1 r22.2)))
set_option maxRecDepth 20000 in
theorem go_X4_refused (a1 : Int32) (a2 : Int32) (u : xN) : xGm md_X4_refused rsM (f_X4_refused a1 a2 u) 0 [(0, .ref 39), (1, .int a1), (2, .int a2)] [] (xU u) := by
  unfold f_X4_refused
  refine xm_blk0 (pc' := 1) (lv' := [(0, .ref 39), (1, .int a1), (2, .int a2)]) (st' := [.int a1]) (u' := (xU u)) [(.iload_n 1, (0, 0, 0), 0, 0)] (by decide +kernel) rfl ?_
  refine xm_Si (pc := 1) (mz := md_X4_isRow) (idx := 78) (p1 := 901) (as := [.int a1]) (st := []) (ev_X4_isRow a1 u) mw_X4_isRow (by decide +kernel) (by decide +kernel) (by decide) rfl (Nat.le_of_ble_eq_true rfl) (fun r1 => ?_)
  refine xm_if_ne (pc := 4) (off := 7) (tgt := 11) (by decide +kernel) (by decide) ?_ ?_
  · refine xm_blk (bs := [inb a1 6]) (pc' := 17) (lv' := [(0, .ref 39), (1, .int a1), (2, .int a2)]) (st' := [.int (u.1 45 (Int32.toNatClampNeg a1))]) (u' := (xU u)) [(.aload_n 0, (0, 0, 0), 0, 0), (.getfield 25, (4, 7, 827), 0, 0), (.iload_n 1, (0, 0, 0), 0, 0), (.iaload, (0, 0, 0), 0, 0)] (by decide +kernel) rfl ?_
    refine xm_if_ge (pc := 17) (off := 11) (tgt := 28) (by decide +kernel) (by decide) ?_ ?_
    · refine xm_blk (bs := [inb a1 6]) (pc' := 40) (lv' := [(0, .ref 39), (1, .int a1), (2, .int a2)]) (st' := [.long (Int32.toInt64 ((u.1 45 (Int32.toNatClampNeg a1)) - (1 : Int32))), .long (0 : Int64), .long (Int32.toInt64 a2)]) (u' := (xU u)) [(.iload_n 2, (0, 0, 0), 0, 0), (.i2l, (0, 0, 0), 0, 0), (.lconst 0, (0, 0, 0), 0, 0), (.aload_n 0, (0, 0, 0), 0, 0), (.getfield 25, (4, 7, 827), 0, 0), (.iload_n 1, (0, 0, 0), 0, 0), (.iaload, (0, 0, 0), 0, 0), (.iconst 1, (0, 0, 0), 1, 0), (.isub, (0, 0, 0), 0, 0), (.i2l, (0, 0, 0), 0, 0)] (by decide +kernel) rfl ?_
      refine xm_Si (pc := 40) (mz := md_X4_in) (idx := 72) (p1 := 905) (as := [.long (Int32.toInt64 a2), .long (0 : Int64), .long (Int32.toInt64 ((u.1 45 (Int32.toNatClampNeg a1)) - (1 : Int32)))]) (st := []) (ev_X4_in (Int32.toInt64 a2) (0 : Int64) (Int32.toInt64 ((u.1 45 (Int32.toNatClampNeg a1)) - (1 : Int32))) u) mw_X4_in (by decide +kernel) (by decide +kernel) (by decide) rfl (Nat.le_of_ble_eq_true rfl) (fun r40 => ?_)
      refine xm_if_eq (pc := 43) (off := 7) (tgt := 50) (by decide +kernel) (by decide) ?_ ?_
      · refine xm_blk0 (pc' := 52) (lv' := [(0, .ref 39), (1, .int a1), (2, .int a2)]) (st' := [.int (2 : Int32), .ref 39]) (u' := (xU u)) [(.aload_n 0, (0, 0, 0), 0, 0), (.iconst 2, (0, 0, 0), 2, 0)] (by decide +kernel) rfl ?_
        refine xm_Vm (pc := 52) (mz := md_X4_find) (idx := 82) (p1 := 908) (a := 39) (as := [.int (2 : Int32)]) (st := []) (ev_X4_find (2 : Int32) u) mw_X4_find (by decide +kernel) (by decide +kernel) (by decide) rfl rfl (by decide) rfl (Nat.le_of_ble_eq_true rfl) (fun r52 => ?_)
        refine xm_wk [] (lv' := []) rfl ?_
        exact go_X4_refused_L55 r52.1 r52.2
      · refine xm_blk0 (pc' := 47) (lv' := [(0, .ref 39), (1, .int a1), (2, .int a2)]) (st' := [.int (0 : Int32)]) (u' := (xU u)) [(.iconst 0, (0, 0, 0), 0, 0)] (by decide +kernel) rfl ?_
        refine xm_goto (pc := 47) (off := 8) (tgt := 55) (by decide +kernel) (by decide) ?_
        refine xm_wk [] (lv' := []) rfl ?_
        exact go_X4_refused_L55 (0 : Int32) u
    · refine xm_blk0 (pc' := 22) (lv' := [(0, .ref 39), (1, .int a1), (2, .int a2)]) (st' := [.int (1 : Int32), .ref 39]) (u' := (xU u)) [(.aload_n 0, (0, 0, 0), 0, 0), (.iconst 1, (0, 0, 0), 1, 0)] (by decide +kernel) rfl ?_
      refine xm_Vm (pc := 22) (mz := md_X4_find) (idx := 82) (p1 := 908) (a := 39) (as := [.int (1 : Int32)]) (st := []) (ev_X4_find (1 : Int32) u) mw_X4_find (by decide +kernel) (by decide +kernel) (by decide) rfl rfl (by decide) rfl (Nat.le_of_ble_eq_true rfl) (fun r22 => ?_)
      refine xm_goto (pc := 25) (off := 30) (tgt := 55) (by decide +kernel) (by decide) ?_
      refine xm_wk [] (lv' := []) rfl ?_
      exact go_X4_refused_L55 r22.1 r22.2
  · refine xm_blk0 (pc' := 8) (lv' := [(0, .ref 39), (1, .int a1), (2, .int a2)]) (st' := [.int (-1 : Int32)]) (u' := (xU u)) [(.iconst (-1), (0, 0, 0), -1, 0)] (by decide +kernel) rfl ?_
    refine xm_goto (pc := 8) (off := 47) (tgt := 55) (by decide +kernel) (by decide) ?_
    refine xm_wk [] (lv' := []) rfl ?_
    exact go_X4_refused_L55 (-1 : Int32) u
theorem ev_X4_refused (a1 : Int32) (a2 : Int32) (u : xN) : ∀ r, f_X4_refused a1 a2 u = some r → xEm md_X4_refused yX4_refused [.ref 39, .int a1, .int a2] (xU u) (some (.int r.1), xU r.2) := xm_met (res := rsM) (as := [.ref 39, .int a1, .int a2]) (go_X4_refused a1 a2 u) (by decide) rfl (Nat.le_of_ble_eq_true rfl)
theorem mw_X4_tell : xMv yX4_tell cX4_tell 2 (some .int) 1 := xMv_of (p1 := 927) (p2 := 926) (p3 := 97) (p4 := 43) (by decide +kernel)
/-! NeitherBareModel.tell(I)I (39, None) -/
abbrev md_X4_tell : xMd := (cX4_tell, RX4, 2, some .int, 1)
def f_X4_tell (a1 : Int32) (u : xN) : Option (Int32 × xN) := some ((1 : Int32), mI u 39 11 a1)
set_option maxRecDepth 20000 in
theorem go_X4_tell (a1 : Int32) (u : xN) : xGm md_X4_tell rsM (f_X4_tell a1 u) 0 [(0, .ref 39), (1, .int a1)] [] (xU u) := by
  unfold f_X4_tell
  refine xm_blk0 (pc' := 6) (lv' := [(0, .ref 39), (1, .int a1)]) (st' := [.int (1 : Int32)]) (u' := (xU (mI u 39 11 a1))) [(.aload_n 0, (0, 0, 0), 0, 0), (.iload_n 1, (0, 0, 0), 0, 0), (.putfield 67, (4, 11, 831), 0, 0), (.iconst 1, (0, 0, 0), 1, 0)] (by decide +kernel) rfl ?_
  exact xm_iret (pc := 6) (by decide +kernel) rfl rfl
theorem ev_X4_tell (a1 : Int32) (u : xN) : ∀ r, f_X4_tell a1 u = some r → xEm md_X4_tell yX4_tell [.ref 39, .int a1] (xU u) (some (.int r.1), xU r.2) := xm_met (res := rsM) (as := [.ref 39, .int a1]) (go_X4_tell a1 u) (by decide) rfl (Nat.le_of_ble_eq_true rfl)
theorem mw_X4_lay : xMv yX4_lay cX4_lay 6 (some .int) 3 := xMv_of (p1 := 919) (p2 := 917) (p3 := 97) (p4 := 918) (by decide +kernel)
/-! NeitherBareModel.lay(III)I (39, None, None, None) -/
abbrev md_X4_lay : xMd := (cX4_lay, RX4, 6, some .int, 4)
def f_X4_lay (a1 : Int32) (a2 : Int32) (a3 : Int32) (u : xN) : Option (Int32 × xN) := Option.bind (f_X4_refused a1 a2 u) (fun r3 => if r3.1 = (0 : Int32) then (gdl [inb (((40 : Int32) * a1) + a2) 240, inb (((40 : Int32) * a1) + a2) 240] (Option.bind (f_X4_tell (r3.2.1 46 (Int32.toNatClampNeg (((40 : Int32) * a1) + a2))) (mI r3.2 46 (Int32.toNatClampNeg (((40 : Int32) * a1) + a2)) a3)) (fun r44 => some (r44.1, r44.2)))) else some (r3.1, r3.2))
set_option maxRecDepth 20000 in
theorem go_X4_lay (a1 : Int32) (a2 : Int32) (a3 : Int32) (u : xN) : xGm md_X4_lay rsM (f_X4_lay a1 a2 a3 u) 0 [(0, .ref 39), (1, .int a1), (2, .int a2), (3, .int a3)] [] (xU u) := by
  unfold f_X4_lay
  refine xm_blk0 (pc' := 3) (lv' := [(0, .ref 39), (1, .int a1), (2, .int a2), (3, .int a3)]) (st' := [.int a2, .int a1, .ref 39]) (u' := (xU u)) [(.aload_n 0, (0, 0, 0), 0, 0), (.iload_n 1, (0, 0, 0), 0, 0), (.iload_n 2, (0, 0, 0), 0, 0)] (by decide +kernel) rfl ?_
  refine xm_Vm (pc := 3) (mz := md_X4_refused) (idx := 90) (p1 := 920) (a := 39) (as := [.int a1, .int a2]) (st := []) (ev_X4_refused a1 a2 u) mw_X4_refused (by decide +kernel) (by decide +kernel) (by decide) rfl rfl (by decide) rfl (Nat.le_of_ble_eq_true rfl) (fun r3 => ?_)
  refine xm_blk0 (pc' := 10) (lv' := [(0, .ref 39), (1, .int a1), (2, .int a2), (3, .int a3), (4, .int r3.1)]) (st' := [.int r3.1]) (u' := (xU r3.2)) [(.istore 4, (0, 0, 0), 0, 0), (.iload 4, (0, 0, 0), 0, 0)] (by decide +kernel) rfl ?_
  refine xm_if_eq (pc := 10) (off := 6) (tgt := 16) (by decide +kernel) (by decide) ?_ ?_
  · refine xm_blk (bs := [inb (((40 : Int32) * a1) + a2) 240, inb (((40 : Int32) * a1) + a2) 240]) (pc' := 44) (lv' := [(0, .ref 39), (1, .int a1), (2, .int a2), (3, .int a3), (4, .int r3.1), (5, .int (r3.2.1 46 (Int32.toNatClampNeg (((40 : Int32) * a1) + a2))))]) (st' := [.int (r3.2.1 46 (Int32.toNatClampNeg (((40 : Int32) * a1) + a2))), .ref 39]) (u' := (xU (mI r3.2 46 (Int32.toNatClampNeg (((40 : Int32) * a1) + a2)) a3))) [(.aload_n 0, (0, 0, 0), 0, 0), (.getfield 28, (4, 8, 828), 0, 0), (.bipush 40, (0, 0, 0), 40, 0), (.iload_n 1, (0, 0, 0), 0, 0), (.imul, (0, 0, 0), 0, 0), (.iload_n 2, (0, 0, 0), 0, 0), (.iadd, (0, 0, 0), 0, 0), (.iaload, (0, 0, 0), 0, 0), (.istore 5, (0, 0, 0), 0, 0), (.aload_n 0, (0, 0, 0), 0, 0), (.getfield 28, (4, 8, 828), 0, 0), (.bipush 40, (0, 0, 0), 40, 0), (.iload_n 1, (0, 0, 0), 0, 0), (.imul, (0, 0, 0), 0, 0), (.iload_n 2, (0, 0, 0), 0, 0), (.iadd, (0, 0, 0), 0, 0), (.iload_n 3, (0, 0, 0), 0, 0), (.iastore, (0, 0, 0), 0, 0), (.aload_n 0, (0, 0, 0), 0, 0), (.iload 5, (0, 0, 0), 0, 0)] (by decide +kernel) rfl ?_
    refine xm_Vm (pc := 44) (mz := md_X4_tell) (idx := 94) (p1 := 924) (a := 39) (as := [.int (r3.2.1 46 (Int32.toNatClampNeg (((40 : Int32) * a1) + a2)))]) (st := []) (ev_X4_tell (r3.2.1 46 (Int32.toNatClampNeg (((40 : Int32) * a1) + a2))) (mI r3.2 46 (Int32.toNatClampNeg (((40 : Int32) * a1) + a2)) a3)) mw_X4_tell (by decide +kernel) (by decide +kernel) (by decide) rfl rfl (by decide) rfl (Nat.le_of_ble_eq_true rfl) (fun r44 => ?_)
    exact xm_iret (pc := 47) (by decide +kernel) rfl rfl
  · refine xm_blk0 (pc' := 15) (lv' := [(0, .ref 39), (1, .int a1), (2, .int a2), (3, .int a3), (4, .int r3.1)]) (st' := [.int r3.1]) (u' := (xU r3.2)) [(.iload 4, (0, 0, 0), 0, 0)] (by decide +kernel) rfl ?_
    exact xm_iret (pc := 15) (by decide +kernel) rfl rfl
theorem ev_X4_lay (a1 : Int32) (a2 : Int32) (a3 : Int32) (u : xN) : ∀ r, f_X4_lay a1 a2 a3 u = some r → xEm md_X4_lay yX4_lay [.ref 39, .int a1, .int a2, .int a3] (xU u) (some (.int r.1), xU r.2) := xm_met (res := rsM) (as := [.ref 39, .int a1, .int a2, .int a3]) (go_X4_lay a1 a2 a3 u) (by decide) rfl (Nat.le_of_ble_eq_true rfl)
theorem mw_X4_at : xMv yX4_at cX4_at 4 (some .int) 2 := xMv_of (p1 := 931) (p2 := 929) (p3 := 97) (p4 := 930) (by decide +kernel)
/-! NeitherBareModel.at(II)I (39, None, None) -/
abbrev md_X4_at : xMd := (cX4_at, RX4, 4, some .int, 4)
def f_X4_at_L30 (t0 : Int32) (u : xN) : Option (Int32 × xN) := some (t0, u)
set_option maxRecDepth 20000 in
theorem go_X4_at_L30 (t0 : Int32) (u : xN) : xGm md_X4_at rsM (f_X4_at_L30 t0 u) 30 [] [.int t0] (xU u) := by
  unfold f_X4_at_L30
  exact xm_iret (pc := 30) (by decide +kernel) rfl rfl
def f_X4_at (a1 : Int32) (a2 : Int32) (u : xN) : Option (Int32 × xN) := Option.bind (f_X4_refused a1 a2 u) (fun r3 => if r3.1 = (0 : Int32) then (gdl [inb (((40 : Int32) * a1) + a2) 240] (Option.bind (f_X4_tell (r3.2.1 46 (Int32.toNatClampNeg (((40 : Int32) * a1) + a2))) r3.2) (fun r27 => f_X4_at_L30 r27.1 r27.2))) else f_X4_at_L30 r3.1 r3.2)
set_option maxRecDepth 20000 in
theorem go_X4_at (a1 : Int32) (a2 : Int32) (u : xN) : xGm md_X4_at rsM (f_X4_at a1 a2 u) 0 [(0, .ref 39), (1, .int a1), (2, .int a2)] [] (xU u) := by
  unfold f_X4_at
  refine xm_blk0 (pc' := 3) (lv' := [(0, .ref 39), (1, .int a1), (2, .int a2)]) (st' := [.int a2, .int a1, .ref 39]) (u' := (xU u)) [(.aload_n 0, (0, 0, 0), 0, 0), (.iload_n 1, (0, 0, 0), 0, 0), (.iload_n 2, (0, 0, 0), 0, 0)] (by decide +kernel) rfl ?_
  refine xm_Vm (pc := 3) (mz := md_X4_refused) (idx := 90) (p1 := 920) (a := 39) (as := [.int a1, .int a2]) (st := []) (ev_X4_refused a1 a2 u) mw_X4_refused (by decide +kernel) (by decide +kernel) (by decide) rfl rfl (by decide) rfl (Nat.le_of_ble_eq_true rfl) (fun r3 => ?_)
  refine xm_blk0 (pc' := 8) (lv' := [(0, .ref 39), (1, .int a1), (2, .int a2), (3, .int r3.1)]) (st' := [.int r3.1]) (u' := (xU r3.2)) [(.istore_n 3, (0, 0, 0), 0, 0), (.iload_n 3, (0, 0, 0), 0, 0)] (by decide +kernel) rfl ?_
  refine xm_if_eq (pc := 8) (off := 7) (tgt := 15) (by decide +kernel) (by decide) ?_ ?_
  · refine xm_blk (bs := [inb (((40 : Int32) * a1) + a2) 240]) (pc' := 27) (lv' := [(0, .ref 39), (1, .int a1), (2, .int a2), (3, .int r3.1)]) (st' := [.int (r3.2.1 46 (Int32.toNatClampNeg (((40 : Int32) * a1) + a2))), .ref 39]) (u' := (xU r3.2)) [(.aload_n 0, (0, 0, 0), 0, 0), (.aload_n 0, (0, 0, 0), 0, 0), (.getfield 28, (4, 8, 828), 0, 0), (.bipush 40, (0, 0, 0), 40, 0), (.iload_n 1, (0, 0, 0), 0, 0), (.imul, (0, 0, 0), 0, 0), (.iload_n 2, (0, 0, 0), 0, 0), (.iadd, (0, 0, 0), 0, 0), (.iaload, (0, 0, 0), 0, 0)] (by decide +kernel) rfl ?_
    refine xm_Vm (pc := 27) (mz := md_X4_tell) (idx := 94) (p1 := 924) (a := 39) (as := [.int (r3.2.1 46 (Int32.toNatClampNeg (((40 : Int32) * a1) + a2)))]) (st := []) (ev_X4_tell (r3.2.1 46 (Int32.toNatClampNeg (((40 : Int32) * a1) + a2))) r3.2) mw_X4_tell (by decide +kernel) (by decide +kernel) (by decide) rfl rfl (by decide) rfl (Nat.le_of_ble_eq_true rfl) (fun r27 => ?_)
    refine xm_wk [] (lv' := []) rfl ?_
    exact go_X4_at_L30 r27.1 r27.2
  · refine xm_blk0 (pc' := 12) (lv' := [(0, .ref 39), (1, .int a1), (2, .int a2), (3, .int r3.1)]) (st' := [.int r3.1]) (u' := (xU r3.2)) [(.iload_n 3, (0, 0, 0), 0, 0)] (by decide +kernel) rfl ?_
    refine xm_goto (pc := 12) (off := 18) (tgt := 30) (by decide +kernel) (by decide) ?_
    refine xm_wk [] (lv' := []) rfl ?_
    exact go_X4_at_L30 r3.1 r3.2
theorem ev_X4_at (a1 : Int32) (a2 : Int32) (u : xN) : ∀ r, f_X4_at a1 a2 u = some r → xEm md_X4_at yX4_at [.ref 39, .int a1, .int a2] (xU u) (some (.int r.1), xU r.2) := xm_met (res := rsM) (as := [.ref 39, .int a1, .int a2]) (go_X4_at a1 a2 u) (by decide) rfl (Nat.le_of_ble_eq_true rfl)
theorem mw_X4_tear : xMv yX4_tear cX4_tear 2 (some .int) 1 := xMv_of (p1 := 935) (p2 := 933) (p3 := 97) (p4 := 934) (by decide +kernel)
/-! NeitherBareModel.tear(I)I (39, None) -/
abbrev md_X4_tear : xMd := (cX4_tear, RX4, 2, some .int, 3)
def f_X4_tear (a1 : Int32) (u : xN) : Option (Int32 × xN) := Option.bind (f_X4_isRow a1) (fun r1 => if r1 = (0 : Int32) then some ((-1 : Int32), u) else gdl [inb a1 6] (if (0 : Int32) ≤ (u.1 45 (Int32.toNatClampNeg a1)) then (gdl [inb a1 6] (some ((1 : Int32), mI u 45 (Int32.toNatClampNeg a1) (-1 : Int32)))) else Option.bind (f_X4_find (1 : Int32) u) (fun r20 => some (r20.1, r20.2))))
set_option maxRecDepth 20000 in
theorem go_X4_tear (a1 : Int32) (u : xN) : xGm md_X4_tear rsM (f_X4_tear a1 u) 0 [(0, .ref 39), (1, .int a1)] [] (xU u) := by
  unfold f_X4_tear
  refine xm_blk0 (pc' := 1) (lv' := [(0, .ref 39), (1, .int a1)]) (st' := [.int a1]) (u' := (xU u)) [(.iload_n 1, (0, 0, 0), 0, 0)] (by decide +kernel) rfl ?_
  refine xm_Si (pc := 1) (mz := md_X4_isRow) (idx := 78) (p1 := 901) (as := [.int a1]) (st := []) (ev_X4_isRow a1 u) mw_X4_isRow (by decide +kernel) (by decide +kernel) (by decide) rfl (Nat.le_of_ble_eq_true rfl) (fun r1 => ?_)
  refine xm_if_ne (pc := 4) (off := 5) (tgt := 9) (by decide +kernel) (by decide) ?_ ?_
  · refine xm_blk (bs := [inb a1 6]) (pc' := 15) (lv' := [(0, .ref 39), (1, .int a1)]) (st' := [.int (u.1 45 (Int32.toNatClampNeg a1))]) (u' := (xU u)) [(.aload_n 0, (0, 0, 0), 0, 0), (.getfield 25, (4, 7, 827), 0, 0), (.iload_n 1, (0, 0, 0), 0, 0), (.iaload, (0, 0, 0), 0, 0)] (by decide +kernel) rfl ?_
    refine xm_if_ge (pc := 15) (off := 9) (tgt := 24) (by decide +kernel) (by decide) ?_ ?_
    · refine xm_blk (bs := [inb a1 6]) (pc' := 32) (lv' := [(0, .ref 39), (1, .int a1)]) (st' := [.int (1 : Int32)]) (u' := (xU (mI u 45 (Int32.toNatClampNeg a1) (-1 : Int32)))) [(.aload_n 0, (0, 0, 0), 0, 0), (.getfield 25, (4, 7, 827), 0, 0), (.iload_n 1, (0, 0, 0), 0, 0), (.iconst (-1), (0, 0, 0), -1, 0), (.iastore, (0, 0, 0), 0, 0), (.iconst 1, (0, 0, 0), 1, 0)] (by decide +kernel) rfl ?_
      exact xm_iret (pc := 32) (by decide +kernel) rfl rfl
    · refine xm_blk0 (pc' := 20) (lv' := [(0, .ref 39), (1, .int a1)]) (st' := [.int (1 : Int32), .ref 39]) (u' := (xU u)) [(.aload_n 0, (0, 0, 0), 0, 0), (.iconst 1, (0, 0, 0), 1, 0)] (by decide +kernel) rfl ?_
      refine xm_Vm (pc := 20) (mz := md_X4_find) (idx := 82) (p1 := 908) (a := 39) (as := [.int (1 : Int32)]) (st := []) (ev_X4_find (1 : Int32) u) mw_X4_find (by decide +kernel) (by decide +kernel) (by decide) rfl rfl (by decide) rfl (Nat.le_of_ble_eq_true rfl) (fun r20 => ?_)
      exact xm_iret (pc := 23) (by decide +kernel) rfl rfl
  · refine xm_blk0 (pc' := 8) (lv' := [(0, .ref 39), (1, .int a1)]) (st' := [.int (-1 : Int32)]) (u' := (xU u)) [(.iconst (-1), (0, 0, 0), -1, 0)] (by decide +kernel) rfl ?_
    exact xm_iret (pc := 8) (by decide +kernel) rfl rfl
theorem ev_X4_tear (a1 : Int32) (u : xN) : ∀ r, f_X4_tear a1 u = some r → xEm md_X4_tear yX4_tear [.ref 39, .int a1] (xU u) (some (.int r.1), xU r.2) := xm_met (res := rsM) (as := [.ref 39, .int a1]) (go_X4_tear a1 u) (by decide) rfl (Nat.le_of_ble_eq_true rfl)
theorem mw_X4_isSpan : xMv yX4_isSpan cX4_isSpan 4 (some .boolean) 3 := xMv_of (p1 := 943) (p2 := 942) (p3 := 97) (p4 := 44) (by decide +kernel)
/-! NeitherBareModel.isSpan(III)Z (39, None, None, None) -/
abbrev md_X4_isSpan : xMd := (cX4_isSpan, RX4, 4, some .boolean, 1)
def f_X4_isSpan_L25 (u : xN) (t0 : Int32) : Option Int32 := gdl [isb t0] (some t0)
set_option maxRecDepth 20000 in
theorem go_X4_isSpan_L25 (u : xN) (t0 : Int32) : xGm md_X4_isSpan (rsI (xU u)) (f_X4_isSpan_L25 u t0) 25 [] [.int t0] (xU u) := by
  unfold f_X4_isSpan_L25
  exact xm_zret (pc := 25) (by decide +kernel) rfl rfl
def f_X4_isSpan_L24 (u : xN) : Option Int32 := f_X4_isSpan_L25 u (0 : Int32)
set_option maxRecDepth 20000 in
theorem go_X4_isSpan_L24 (u : xN) : xGm md_X4_isSpan (rsI (xU u)) (f_X4_isSpan_L24 u) 24 [] [] (xU u) := by
  unfold f_X4_isSpan_L24
  refine xm_blk0 (pc' := 25) (lv' := []) (st' := [.int (0 : Int32)]) (u' := (xU u)) [(.iconst 0, (0, 0, 0), 0, 0)] (by decide +kernel) rfl ?_
  exact go_X4_isSpan_L25 u (0 : Int32)
def f_X4_isSpan (a1 : Int32) (a2 : Int32) (a3 : Int32) (u : xN) : Option Int32 := if a2 < (0 : Int32) then f_X4_isSpan_L24 u else gdl [inb a1 6] (if (0 : Int32) < (lg_cmp ((Int32.toInt64 a2) + (Int32.toInt64 a3)) (Int32.toInt64 (u.1 45 (Int32.toNatClampNeg a1)))) then f_X4_isSpan_L24 u else f_X4_isSpan_L25 u (1 : Int32))
set_option maxRecDepth 20000 in
theorem go_X4_isSpan (a1 : Int32) (a2 : Int32) (a3 : Int32) (u : xN) : xGm md_X4_isSpan (rsI (xU u)) (f_X4_isSpan a1 a2 a3 u) 0 [(0, .ref 39), (1, .int a1), (2, .int a2), (3, .int a3)] [] (xU u) := by
  unfold f_X4_isSpan
  refine xm_blk0 (pc' := 1) (lv' := [(0, .ref 39), (1, .int a1), (2, .int a2), (3, .int a3)]) (st' := [.int a2]) (u' := (xU u)) [(.iload_n 2, (0, 0, 0), 0, 0)] (by decide +kernel) rfl ?_
  refine xm_if_lt (pc := 1) (off := 23) (tgt := 24) (by decide +kernel) (by decide) ?_ ?_
  · refine xm_wk [] (lv' := []) rfl ?_
    exact go_X4_isSpan_L24 u
  · refine xm_blk (bs := [inb a1 6]) (pc' := 17) (lv' := [(0, .ref 39), (1, .int a1), (2, .int a2), (3, .int a3)]) (st' := [.int (lg_cmp ((Int32.toInt64 a2) + (Int32.toInt64 a3)) (Int32.toInt64 (u.1 45 (Int32.toNatClampNeg a1))))]) (u' := (xU u)) [(.iload_n 2, (0, 0, 0), 0, 0), (.i2l, (0, 0, 0), 0, 0), (.iload_n 3, (0, 0, 0), 0, 0), (.i2l, (0, 0, 0), 0, 0), (.ladd, (0, 0, 0), 0, 0), (.aload_n 0, (0, 0, 0), 0, 0), (.getfield 25, (4, 7, 827), 0, 0), (.iload_n 1, (0, 0, 0), 0, 0), (.iaload, (0, 0, 0), 0, 0), (.i2l, (0, 0, 0), 0, 0), (.lcmp, (0, 0, 0), 0, 0)] (by decide +kernel) rfl ?_
    refine xm_if_gt (pc := 17) (off := 7) (tgt := 24) (by decide +kernel) (by decide) ?_ ?_
    · refine xm_wk [] (lv' := []) rfl ?_
      exact go_X4_isSpan_L24 u
    · refine xm_blk0 (pc' := 21) (lv' := [(0, .ref 39), (1, .int a1), (2, .int a2), (3, .int a3)]) (st' := [.int (1 : Int32)]) (u' := (xU u)) [(.iconst 1, (0, 0, 0), 1, 0)] (by decide +kernel) rfl ?_
      refine xm_goto (pc := 21) (off := 4) (tgt := 25) (by decide +kernel) (by decide) ?_
      refine xm_wk [] (lv' := []) rfl ?_
      exact go_X4_isSpan_L25 u (1 : Int32)
theorem ev_X4_isSpan (a1 : Int32) (a2 : Int32) (a3 : Int32) (u : xN) : ∀ r, f_X4_isSpan a1 a2 a3 u = some r → xEm md_X4_isSpan yX4_isSpan [.ref 39, .int a1, .int a2, .int a3] (xU u) (some (.int r), (xU u)) := xm_met (res := (rsI (xU u))) (as := [.ref 39, .int a1, .int a2, .int a3]) (go_X4_isSpan a1 a2 a3 u) (by decide) rfl (Nat.le_of_ble_eq_true rfl)
theorem mw_X4_copy : xMv yX4_copy cX4_copy 9 (some .int) 5 := xMv_of (p1 := 939) (p2 := 937) (p3 := 97) (p4 := 938) (by decide +kernel)
/-! NeitherBareModel.copy(IIIII)I (39, None, None, None, None, None) -/
abbrev md_X4_copy : xMd := (cX4_copy, RX4, 9, some .int, 3)
def f_X4_copy_L14 (N : Nat) (u : xN) : Option (Int32 × xN) := some ((-1 : Int32), u)
set_option maxRecDepth 20000 in
theorem go_X4_copy_L14 (N : Nat) (u : xN) : xGm md_X4_copy rsM (f_X4_copy_L14 N u) 14 [] [] (xU u) := by
  unfold f_X4_copy_L14
  refine xm_blk0 (pc' := 15) (lv' := []) (st' := [.int (-1 : Int32)]) (u' := (xU u)) [(.iconst (-1), (0, 0, 0), -1, 0)] (by decide +kernel) rfl ?_
  exact xm_iret (pc := 15) (by decide +kernel) rfl rfl
def f_X4_copy_L45 (N : Nat) (u : xN) : Option (Int32 × xN) := Option.bind (f_X4_find (1 : Int32) u) (fun r47 => some (r47.1, r47.2))
set_option maxRecDepth 20000 in
theorem go_X4_copy_L45 (N : Nat) (u : xN) : xGm md_X4_copy rsM (f_X4_copy_L45 N u) 45 [(0, .ref 39)] [] (xU u) := by
  unfold f_X4_copy_L45
  refine xm_blk0 (pc' := 47) (lv' := [(0, .ref 39)]) (st' := [.int (1 : Int32), .ref 39]) (u' := (xU u)) [(.aload_n 0, (0, 0, 0), 0, 0), (.iconst 1, (0, 0, 0), 1, 0)] (by decide +kernel) rfl ?_
  refine xm_Vm (pc := 47) (mz := md_X4_find) (idx := 82) (p1 := 908) (a := 39) (as := [.int (1 : Int32)]) (st := []) (ev_X4_find (1 : Int32) u) mw_X4_find (by decide +kernel) (by decide +kernel) (by decide) rfl rfl (by decide) rfl (Nat.le_of_ble_eq_true rfl) (fun r47 => ?_)
  exact xm_iret (pc := 50) (by decide +kernel) rfl rfl
def f_X4_copy_L74 (N : Nat) (u : xN) : Option (Int32 × xN) := Option.bind (f_X4_find (2 : Int32) u) (fun r76 => some (r76.1, r76.2))
set_option maxRecDepth 20000 in
theorem go_X4_copy_L74 (N : Nat) (u : xN) : xGm md_X4_copy rsM (f_X4_copy_L74 N u) 74 [(0, .ref 39)] [] (xU u) := by
  unfold f_X4_copy_L74
  refine xm_blk0 (pc' := 76) (lv' := [(0, .ref 39)]) (st' := [.int (2 : Int32), .ref 39]) (u' := (xU u)) [(.aload_n 0, (0, 0, 0), 0, 0), (.iconst 2, (0, 0, 0), 2, 0)] (by decide +kernel) rfl ?_
  refine xm_Vm (pc := 76) (mz := md_X4_find) (idx := 82) (p1 := 908) (a := 39) (as := [.int (2 : Int32)]) (st := []) (ev_X4_find (2 : Int32) u) mw_X4_find (by decide +kernel) (by decide +kernel) (by decide) rfl rfl (by decide) rfl (Nat.le_of_ble_eq_true rfl) (fun r76 => ?_)
  exact xm_iret (pc := 79) (by decide +kernel) rfl rfl
def f_X4_copy_L120 (N : Nat) (rec96 : Int32 → Int32 → Int32 → Int32 → Int32 → Int32 → Int32 → xN → Option (Int32 × xN)) (v1 : Int32) (v2 : Int32) (v3 : Int32) (v4 : Int32) (v5 : Int32) (v6 : Int32) (v7 : Int32) (t0 : Int32) (u : xN) : Option (Int32 × xN) := gdl [inb ((((40 : Int32) * v1) + v2) + t0) 240, inb ((((40 : Int32) * v3) + v4) + t0) 240] (rec96 v1 v2 v3 v4 v5 v6 (v7 + (1 : Int32)) (mI u 46 (Int32.toNatClampNeg ((((40 : Int32) * v3) + v4) + t0)) (u.1 46 (Int32.toNatClampNeg ((((40 : Int32) * v1) + v2) + t0)))))
set_option maxRecDepth 20000 in
theorem go_X4_copy_L120 (N : Nat) (rec96 : Int32 → Int32 → Int32 → Int32 → Int32 → Int32 → Int32 → xN → Option (Int32 × xN)) (h96 : ∀ (v1 : Int32) (v2 : Int32) (v3 : Int32) (v4 : Int32) (v5 : Int32) (v6 : Int32) (v7 : Int32) (u : xN), xGm md_X4_copy rsM (rec96 v1 v2 v3 v4 v5 v6 v7 u) 96 [(0, .ref 39), (1, .int v1), (2, .int v2), (3, .int v3), (4, .int v4), (5, .int v5), (6, .int v6), (7, .int v7)] [] (xU u)) (v1 : Int32) (v2 : Int32) (v3 : Int32) (v4 : Int32) (v5 : Int32) (v6 : Int32) (v7 : Int32) (t0 : Int32) (u : xN) : xGm md_X4_copy rsM (f_X4_copy_L120 N rec96 v1 v2 v3 v4 v5 v6 v7 t0 u) 120 [(0, .ref 39), (1, .int v1), (2, .int v2), (3, .int v3), (4, .int v4), (5, .int v5), (6, .int v6), (7, .int v7)] [.int t0] (xU u) := by
  unfold f_X4_copy_L120
  refine xm_blk (bs := [inb ((((40 : Int32) * v1) + v2) + t0) 240, inb ((((40 : Int32) * v3) + v4) + t0) 240]) (pc' := 154) (lv' := [(0, .ref 39), (1, .int v1), (2, .int v2), (3, .int v3), (4, .int v4), (5, .int v5), (6, .int v6), (7, .int (v7 + (1 : Int32))), (8, .int t0)]) (st' := []) (u' := (xU (mI u 46 (Int32.toNatClampNeg ((((40 : Int32) * v3) + v4) + t0)) (u.1 46 (Int32.toNatClampNeg ((((40 : Int32) * v1) + v2) + t0)))))) [(.istore 8, (0, 0, 0), 0, 0), (.aload_n 0, (0, 0, 0), 0, 0), (.getfield 28, (4, 8, 828), 0, 0), (.bipush 40, (0, 0, 0), 40, 0), (.iload_n 3, (0, 0, 0), 0, 0), (.imul, (0, 0, 0), 0, 0), (.iload 4, (0, 0, 0), 0, 0), (.iadd, (0, 0, 0), 0, 0), (.iload 8, (0, 0, 0), 0, 0), (.iadd, (0, 0, 0), 0, 0), (.aload_n 0, (0, 0, 0), 0, 0), (.getfield 28, (4, 8, 828), 0, 0), (.bipush 40, (0, 0, 0), 40, 0), (.iload_n 1, (0, 0, 0), 0, 0), (.imul, (0, 0, 0), 0, 0), (.iload_n 2, (0, 0, 0), 0, 0), (.iadd, (0, 0, 0), 0, 0), (.iload 8, (0, 0, 0), 0, 0), (.iadd, (0, 0, 0), 0, 0), (.iaload, (0, 0, 0), 0, 0), (.iastore, (0, 0, 0), 0, 0), (.iinc 7 1, (0, 0, 0), 1, 0)] (by decide +kernel) rfl ?_
  refine xm_goto (pc := 154) (off := -58) (tgt := 96) (by decide +kernel) (by decide) ?_
  refine xm_wk [0, 1, 2, 3, 4, 5, 6, 7] (lv' := [(0, .ref 39), (1, .int v1), (2, .int v2), (3, .int v3), (4, .int v4), (5, .int v5), (6, .int v6), (7, .int (v7 + (1 : Int32)))]) rfl ?_
  exact h96 v1 v2 v3 v4 v5 v6 (v7 + (1 : Int32)) (mI u 46 (Int32.toNatClampNeg ((((40 : Int32) * v3) + v4) + t0)) (u.1 46 (Int32.toNatClampNeg ((((40 : Int32) * v1) + v2) + t0))))
def f_X4_copy_L96b (N : Nat) (rec96 : Int32 → Int32 → Int32 → Int32 → Int32 → Int32 → Int32 → xN → Option (Int32 × xN)) (v1 : Int32) (v2 : Int32) (v3 : Int32) (v4 : Int32) (v5 : Int32) (v6 : Int32) (v7 : Int32) (u : xN) : Option (Int32 × xN) := if v5 ≤ v7 then some ((1 : Int32), u) else if v6 = (0 : Int32) then f_X4_copy_L120 N rec96 v1 v2 v3 v4 v5 v6 v7 v7 u else f_X4_copy_L120 N rec96 v1 v2 v3 v4 v5 v6 v7 ((v5 - (1 : Int32)) - v7) u
set_option maxRecDepth 20000 in
theorem go_X4_copy_L96b (N : Nat) (rec96 : Int32 → Int32 → Int32 → Int32 → Int32 → Int32 → Int32 → xN → Option (Int32 × xN)) (h96 : ∀ (v1 : Int32) (v2 : Int32) (v3 : Int32) (v4 : Int32) (v5 : Int32) (v6 : Int32) (v7 : Int32) (u : xN), xGm md_X4_copy rsM (rec96 v1 v2 v3 v4 v5 v6 v7 u) 96 [(0, .ref 39), (1, .int v1), (2, .int v2), (3, .int v3), (4, .int v4), (5, .int v5), (6, .int v6), (7, .int v7)] [] (xU u)) (v1 : Int32) (v2 : Int32) (v3 : Int32) (v4 : Int32) (v5 : Int32) (v6 : Int32) (v7 : Int32) (u : xN) : xGm md_X4_copy rsM (f_X4_copy_L96b N rec96 v1 v2 v3 v4 v5 v6 v7 u) 96 [(0, .ref 39), (1, .int v1), (2, .int v2), (3, .int v3), (4, .int v4), (5, .int v5), (6, .int v6), (7, .int v7)] [] (xU u) := by
  unfold f_X4_copy_L96b
  refine xm_blk0 (pc' := 100) (lv' := [(0, .ref 39), (1, .int v1), (2, .int v2), (3, .int v3), (4, .int v4), (5, .int v5), (6, .int v6), (7, .int v7)]) (st' := [.int v5, .int v7]) (u' := (xU u)) [(.iload 7, (0, 0, 0), 0, 0), (.iload 5, (0, 0, 0), 0, 0)] (by decide +kernel) rfl ?_
  refine xm_icmp_ge (pc := 100) (off := 57) (tgt := 157) (by decide +kernel) (by decide) ?_ ?_
  · refine xm_blk0 (pc' := 158) (lv' := [(0, .ref 39), (1, .int v1), (2, .int v2), (3, .int v3), (4, .int v4), (5, .int v5), (6, .int v6), (7, .int v7)]) (st' := [.int (1 : Int32)]) (u' := (xU u)) [(.iconst 1, (0, 0, 0), 1, 0)] (by decide +kernel) rfl ?_
    exact xm_iret (pc := 158) (by decide +kernel) rfl rfl
  · refine xm_blk0 (pc' := 105) (lv' := [(0, .ref 39), (1, .int v1), (2, .int v2), (3, .int v3), (4, .int v4), (5, .int v5), (6, .int v6), (7, .int v7)]) (st' := [.int v6]) (u' := (xU u)) [(.iload 6, (0, 0, 0), 0, 0)] (by decide +kernel) rfl ?_
    refine xm_if_eq (pc := 105) (off := 13) (tgt := 118) (by decide +kernel) (by decide) ?_ ?_
    · refine xm_blk0 (pc' := 120) (lv' := [(0, .ref 39), (1, .int v1), (2, .int v2), (3, .int v3), (4, .int v4), (5, .int v5), (6, .int v6), (7, .int v7)]) (st' := [.int v7]) (u' := (xU u)) [(.iload 7, (0, 0, 0), 0, 0)] (by decide +kernel) rfl ?_
      exact go_X4_copy_L120 N rec96 h96 v1 v2 v3 v4 v5 v6 v7 v7 u
    · refine xm_blk0 (pc' := 115) (lv' := [(0, .ref 39), (1, .int v1), (2, .int v2), (3, .int v3), (4, .int v4), (5, .int v5), (6, .int v6), (7, .int v7)]) (st' := [.int ((v5 - (1 : Int32)) - v7)]) (u' := (xU u)) [(.iload 5, (0, 0, 0), 0, 0), (.iconst 1, (0, 0, 0), 1, 0), (.isub, (0, 0, 0), 0, 0), (.iload 7, (0, 0, 0), 0, 0), (.isub, (0, 0, 0), 0, 0)] (by decide +kernel) rfl ?_
      refine xm_goto (pc := 115) (off := 5) (tgt := 120) (by decide +kernel) (by decide) ?_
      exact go_X4_copy_L120 N rec96 h96 v1 v2 v3 v4 v5 v6 v7 ((v5 - (1 : Int32)) - v7) u
def f_X4_copy_L96 (N : Nat) : Nat → Int32 → Int32 → Int32 → Int32 → Int32 → Int32 → Int32 → xN → Option (Int32 × xN)
  | 0 => fun _ _ _ _ _ _ _ _ => none
  | n + 1 => fun v1 v2 v3 v4 v5 v6 v7 u => f_X4_copy_L96b N (f_X4_copy_L96 N n) v1 v2 v3 v4 v5 v6 v7 u
theorem go_X4_copy_L96 (N : Nat) : ∀ (n : Nat) (v1 : Int32) (v2 : Int32) (v3 : Int32) (v4 : Int32) (v5 : Int32) (v6 : Int32) (v7 : Int32) (u : xN), xGm md_X4_copy rsM (f_X4_copy_L96 N n v1 v2 v3 v4 v5 v6 v7 u) 96 [(0, .ref 39), (1, .int v1), (2, .int v2), (3, .int v3), (4, .int v4), (5, .int v5), (6, .int v6), (7, .int v7)] [] (xU u) := by
  intro n
  induction n with
  | zero => intro v1 v2 v3 v4 v5 v6 v7 u; exact xm_none
  | succ n ih => intro v1 v2 v3 v4 v5 v6 v7 u; exact go_X4_copy_L96b N _ ih v1 v2 v3 v4 v5 v6 v7 u
def f_X4_copy_L91 (N : Nat) (v1 : Int32) (v2 : Int32) (v3 : Int32) (v4 : Int32) (v5 : Int32) (t0 : Int32) (u : xN) : Option (Int32 × xN) := f_X4_copy_L96 N N v1 v2 v3 v4 v5 t0 (0 : Int32) u
set_option maxRecDepth 20000 in
theorem go_X4_copy_L91 (N : Nat) (v1 : Int32) (v2 : Int32) (v3 : Int32) (v4 : Int32) (v5 : Int32) (t0 : Int32) (u : xN) : xGm md_X4_copy rsM (f_X4_copy_L91 N v1 v2 v3 v4 v5 t0 u) 91 [(0, .ref 39), (1, .int v1), (2, .int v2), (3, .int v3), (4, .int v4), (5, .int v5)] [.int t0] (xU u) := by
  unfold f_X4_copy_L91
  refine xm_blk0 (pc' := 96) (lv' := [(0, .ref 39), (1, .int v1), (2, .int v2), (3, .int v3), (4, .int v4), (5, .int v5), (6, .int t0), (7, .int (0 : Int32))]) (st' := []) (u' := (xU u)) [(.istore 6, (0, 0, 0), 0, 0), (.iconst 0, (0, 0, 0), 0, 0), (.istore 7, (0, 0, 0), 0, 0)] (by decide +kernel) rfl ?_
  exact go_X4_copy_L96 N N v1 v2 v3 v4 v5 t0 (0 : Int32) u
def f_X4_copy (N : Nat) (a1 : Int32) (a2 : Int32) (a3 : Int32) (a4 : Int32) (a5 : Int32) (u : xN) : Option (Int32 × xN) := Option.bind (f_X4_isRow a1) (fun r1 => if r1 = (0 : Int32) then f_X4_copy_L14 N u else Option.bind (f_X4_isRow a3) (fun r8 => if r8 = (0 : Int32) then f_X4_copy_L14 N u else if (0 : Int32) ≤ a5 then (gdl [inb a1 6] (if (u.1 45 (Int32.toNatClampNeg a1)) < (0 : Int32) then f_X4_copy_L45 N u else gdl [inb a3 6] (if (0 : Int32) ≤ (u.1 45 (Int32.toNatClampNeg a3)) then Option.bind (f_X4_isSpan a1 a2 a5 u) (fun r56 => if r56 = (0 : Int32) then f_X4_copy_L74 N u else Option.bind (f_X4_isSpan a3 a4 a5 u) (fun r68 => if r68 = (0 : Int32) then f_X4_copy_L74 N u else if a4 ≤ a2 then f_X4_copy_L91 N a1 a2 a3 a4 a5 (0 : Int32) u else f_X4_copy_L91 N a1 a2 a3 a4 a5 (1 : Int32) u)) else f_X4_copy_L45 N u))) else Option.bind (f_X4_find (5 : Int32) u) (fun r23 => some (r23.1, r23.2))))
set_option maxRecDepth 20000 in
theorem go_X4_copy (N : Nat) (a1 : Int32) (a2 : Int32) (a3 : Int32) (a4 : Int32) (a5 : Int32) (u : xN) : xGm md_X4_copy rsM (f_X4_copy N a1 a2 a3 a4 a5 u) 0 [(0, .ref 39), (1, .int a1), (2, .int a2), (3, .int a3), (4, .int a4), (5, .int a5)] [] (xU u) := by
  unfold f_X4_copy
  refine xm_blk0 (pc' := 1) (lv' := [(0, .ref 39), (1, .int a1), (2, .int a2), (3, .int a3), (4, .int a4), (5, .int a5)]) (st' := [.int a1]) (u' := (xU u)) [(.iload_n 1, (0, 0, 0), 0, 0)] (by decide +kernel) rfl ?_
  refine xm_Si (pc := 1) (mz := md_X4_isRow) (idx := 78) (p1 := 901) (as := [.int a1]) (st := []) (ev_X4_isRow a1 u) mw_X4_isRow (by decide +kernel) (by decide +kernel) (by decide) rfl (Nat.le_of_ble_eq_true rfl) (fun r1 => ?_)
  refine xm_if_eq (pc := 4) (off := 10) (tgt := 14) (by decide +kernel) (by decide) ?_ ?_
  · refine xm_wk [] (lv' := []) rfl ?_
    exact go_X4_copy_L14 N u
  · refine xm_blk0 (pc' := 8) (lv' := [(0, .ref 39), (1, .int a1), (2, .int a2), (3, .int a3), (4, .int a4), (5, .int a5)]) (st' := [.int a3]) (u' := (xU u)) [(.iload_n 3, (0, 0, 0), 0, 0)] (by decide +kernel) rfl ?_
    refine xm_Si (pc := 8) (mz := md_X4_isRow) (idx := 78) (p1 := 901) (as := [.int a3]) (st := []) (ev_X4_isRow a3 u) mw_X4_isRow (by decide +kernel) (by decide +kernel) (by decide) rfl (Nat.le_of_ble_eq_true rfl) (fun r8 => ?_)
    refine xm_if_ne (pc := 11) (off := 5) (tgt := 16) (by decide +kernel) (by decide) ?_ ?_
    · refine xm_blk0 (pc' := 18) (lv' := [(0, .ref 39), (1, .int a1), (2, .int a2), (3, .int a3), (4, .int a4), (5, .int a5)]) (st' := [.int a5]) (u' := (xU u)) [(.iload 5, (0, 0, 0), 0, 0)] (by decide +kernel) rfl ?_
      refine xm_if_ge (pc := 18) (off := 9) (tgt := 27) (by decide +kernel) (by decide) ?_ ?_
      · refine xm_blk (bs := [inb a1 6]) (pc' := 33) (lv' := [(0, .ref 39), (1, .int a1), (2, .int a2), (3, .int a3), (4, .int a4), (5, .int a5)]) (st' := [.int (u.1 45 (Int32.toNatClampNeg a1))]) (u' := (xU u)) [(.aload_n 0, (0, 0, 0), 0, 0), (.getfield 25, (4, 7, 827), 0, 0), (.iload_n 1, (0, 0, 0), 0, 0), (.iaload, (0, 0, 0), 0, 0)] (by decide +kernel) rfl ?_
        refine xm_if_lt (pc := 33) (off := 12) (tgt := 45) (by decide +kernel) (by decide) ?_ ?_
        · refine xm_wk [0] (lv' := [(0, .ref 39)]) rfl ?_
          exact go_X4_copy_L45 N u
        · refine xm_blk (bs := [inb a3 6]) (pc' := 42) (lv' := [(0, .ref 39), (1, .int a1), (2, .int a2), (3, .int a3), (4, .int a4), (5, .int a5)]) (st' := [.int (u.1 45 (Int32.toNatClampNeg a3))]) (u' := (xU u)) [(.aload_n 0, (0, 0, 0), 0, 0), (.getfield 25, (4, 7, 827), 0, 0), (.iload_n 3, (0, 0, 0), 0, 0), (.iaload, (0, 0, 0), 0, 0)] (by decide +kernel) rfl ?_
          refine xm_if_ge (pc := 42) (off := 9) (tgt := 51) (by decide +kernel) (by decide) ?_ ?_
          · refine xm_blk0 (pc' := 56) (lv' := [(0, .ref 39), (1, .int a1), (2, .int a2), (3, .int a3), (4, .int a4), (5, .int a5)]) (st' := [.int a5, .int a2, .int a1, .ref 39]) (u' := (xU u)) [(.aload_n 0, (0, 0, 0), 0, 0), (.iload_n 1, (0, 0, 0), 0, 0), (.iload_n 2, (0, 0, 0), 0, 0), (.iload 5, (0, 0, 0), 0, 0)] (by decide +kernel) rfl ?_
            refine xm_Vi (pc := 56) (mz := md_X4_isSpan) (idx := 97) (p1 := 940) (a := 39) (as := [.int a1, .int a2, .int a5]) (st := []) (ev_X4_isSpan a1 a2 a5 u) mw_X4_isSpan (by decide +kernel) (by decide +kernel) (by decide) rfl rfl (by decide) rfl (Nat.le_of_ble_eq_true rfl) (fun r56 => ?_)
            refine xm_if_eq (pc := 59) (off := 15) (tgt := 74) (by decide +kernel) (by decide) ?_ ?_
            · refine xm_wk [0] (lv' := [(0, .ref 39)]) rfl ?_
              exact go_X4_copy_L74 N u
            · refine xm_blk0 (pc' := 68) (lv' := [(0, .ref 39), (1, .int a1), (2, .int a2), (3, .int a3), (4, .int a4), (5, .int a5)]) (st' := [.int a5, .int a4, .int a3, .ref 39]) (u' := (xU u)) [(.aload_n 0, (0, 0, 0), 0, 0), (.iload_n 3, (0, 0, 0), 0, 0), (.iload 4, (0, 0, 0), 0, 0), (.iload 5, (0, 0, 0), 0, 0)] (by decide +kernel) rfl ?_
              refine xm_Vi (pc := 68) (mz := md_X4_isSpan) (idx := 97) (p1 := 940) (a := 39) (as := [.int a3, .int a4, .int a5]) (st := []) (ev_X4_isSpan a3 a4 a5 u) mw_X4_isSpan (by decide +kernel) (by decide +kernel) (by decide) rfl rfl (by decide) rfl (Nat.le_of_ble_eq_true rfl) (fun r68 => ?_)
              refine xm_if_ne (pc := 71) (off := 9) (tgt := 80) (by decide +kernel) (by decide) ?_ ?_
              · refine xm_blk0 (pc' := 83) (lv' := [(0, .ref 39), (1, .int a1), (2, .int a2), (3, .int a3), (4, .int a4), (5, .int a5)]) (st' := [.int a4, .int a2]) (u' := (xU u)) [(.iload_n 2, (0, 0, 0), 0, 0), (.iload 4, (0, 0, 0), 0, 0)] (by decide +kernel) rfl ?_
                refine xm_icmp_ge (pc := 83) (off := 7) (tgt := 90) (by decide +kernel) (by decide) ?_ ?_
                · refine xm_blk0 (pc' := 91) (lv' := [(0, .ref 39), (1, .int a1), (2, .int a2), (3, .int a3), (4, .int a4), (5, .int a5)]) (st' := [.int (0 : Int32)]) (u' := (xU u)) [(.iconst 0, (0, 0, 0), 0, 0)] (by decide +kernel) rfl ?_
                  exact go_X4_copy_L91 N a1 a2 a3 a4 a5 (0 : Int32) u
                · refine xm_blk0 (pc' := 87) (lv' := [(0, .ref 39), (1, .int a1), (2, .int a2), (3, .int a3), (4, .int a4), (5, .int a5)]) (st' := [.int (1 : Int32)]) (u' := (xU u)) [(.iconst 1, (0, 0, 0), 1, 0)] (by decide +kernel) rfl ?_
                  refine xm_goto (pc := 87) (off := 4) (tgt := 91) (by decide +kernel) (by decide) ?_
                  exact go_X4_copy_L91 N a1 a2 a3 a4 a5 (1 : Int32) u
              · refine xm_wk [0] (lv' := [(0, .ref 39)]) rfl ?_
                exact go_X4_copy_L74 N u
          · refine xm_wk [0] (lv' := [(0, .ref 39)]) rfl ?_
            exact go_X4_copy_L45 N u
      · refine xm_blk0 (pc' := 23) (lv' := [(0, .ref 39), (1, .int a1), (2, .int a2), (3, .int a3), (4, .int a4), (5, .int a5)]) (st' := [.int (5 : Int32), .ref 39]) (u' := (xU u)) [(.aload_n 0, (0, 0, 0), 0, 0), (.iconst 5, (0, 0, 0), 5, 0)] (by decide +kernel) rfl ?_
        refine xm_Vm (pc := 23) (mz := md_X4_find) (idx := 82) (p1 := 908) (a := 39) (as := [.int (5 : Int32)]) (st := []) (ev_X4_find (5 : Int32) u) mw_X4_find (by decide +kernel) (by decide +kernel) (by decide) rfl rfl (by decide) rfl (Nat.le_of_ble_eq_true rfl) (fun r23 => ?_)
        exact xm_iret (pc := 26) (by decide +kernel) rfl rfl
    · refine xm_wk [] (lv' := []) rfl ?_
      exact go_X4_copy_L14 N u
theorem ev_X4_copy (N : Nat) (a1 : Int32) (a2 : Int32) (a3 : Int32) (a4 : Int32) (a5 : Int32) (u : xN) : ∀ r, f_X4_copy N a1 a2 a3 a4 a5 u = some r → xEm md_X4_copy yX4_copy [.ref 39, .int a1, .int a2, .int a3, .int a4, .int a5] (xU u) (some (.int r.1), xU r.2) := xm_met (res := rsM) (as := [.ref 39, .int a1, .int a2, .int a3, .int a4, .int a5]) (go_X4_copy N a1 a2 a3 a4 a5 u) (by decide) rfl (Nat.le_of_ble_eq_true rfl)
theorem mw_X4_mean : xMv yX4_mean cX4_mean 5 (some .int) 1 := xMv_of (p1 := 947) (p2 := 945) (p3 := 97) (p4 := 946) (by decide +kernel)
/-! NeitherBareModel.mean(I)I (39, None) -/
abbrev md_X4_mean : xMd := (cX4_mean, RX4, 5, some .int, 3)
def f_X4_mean_L44b (N : Nat) (rec44 : Int32 → Int64 → Int32 → xN → Option (Int32 × xN)) (v1 : Int32) (v2 : Int64) (v4 : Int32) (u : xN) : Option (Int32 × xN) := gdl [inb v1 6] (if (u.1 45 (Int32.toNatClampNeg v1)) ≤ v4 then (gdl [inb v1 6, nzl (Int32.toInt64 (u.1 45 (Int32.toNatClampNeg v1)))] (Option.bind (f_X4_tell (Int64.toInt32 (v2 / (Int32.toInt64 (u.1 45 (Int32.toNatClampNeg v1))))) u) (fun r88 => some (r88.1, r88.2)))) else gdl [inb (((40 : Int32) * v1) + v4) 240] (rec44 v1 (v2 + (Int32.toInt64 (u.1 46 (Int32.toNatClampNeg (((40 : Int32) * v1) + v4))))) (v4 + (1 : Int32)) u))
set_option maxRecDepth 20000 in
theorem go_X4_mean_L44b (N : Nat) (rec44 : Int32 → Int64 → Int32 → xN → Option (Int32 × xN)) (h44 : ∀ (v1 : Int32) (v2 : Int64) (v4 : Int32) (u : xN), xGm md_X4_mean rsM (rec44 v1 v2 v4 u) 44 [(0, .ref 39), (1, .int v1), (2, .long v2), (4, .int v4)] [] (xU u)) (v1 : Int32) (v2 : Int64) (v4 : Int32) (u : xN) : xGm md_X4_mean rsM (f_X4_mean_L44b N rec44 v1 v2 v4 u) 44 [(0, .ref 39), (1, .int v1), (2, .long v2), (4, .int v4)] [] (xU u) := by
  unfold f_X4_mean_L44b
  refine xm_blk (bs := [inb v1 6]) (pc' := 52) (lv' := [(0, .ref 39), (1, .int v1), (2, .long v2), (4, .int v4)]) (st' := [.int (u.1 45 (Int32.toNatClampNeg v1)), .int v4]) (u' := (xU u)) [(.iload 4, (0, 0, 0), 0, 0), (.aload_n 0, (0, 0, 0), 0, 0), (.getfield 25, (4, 7, 827), 0, 0), (.iload_n 1, (0, 0, 0), 0, 0), (.iaload, (0, 0, 0), 0, 0)] (by decide +kernel) rfl ?_
  refine xm_icmp_ge (pc := 52) (off := 25) (tgt := 77) (by decide +kernel) (by decide) ?_ ?_
  · refine xm_blk (bs := [inb v1 6, nzl (Int32.toInt64 (u.1 45 (Int32.toNatClampNeg v1)))]) (pc' := 88) (lv' := [(0, .ref 39), (1, .int v1), (2, .long v2), (4, .int v4)]) (st' := [.int (Int64.toInt32 (v2 / (Int32.toInt64 (u.1 45 (Int32.toNatClampNeg v1))))), .ref 39]) (u' := (xU u)) [(.aload_n 0, (0, 0, 0), 0, 0), (.lload_n 2, (0, 0, 0), 0, 0), (.aload_n 0, (0, 0, 0), 0, 0), (.getfield 25, (4, 7, 827), 0, 0), (.iload_n 1, (0, 0, 0), 0, 0), (.iaload, (0, 0, 0), 0, 0), (.i2l, (0, 0, 0), 0, 0), (.ldiv, (0, 0, 0), 0, 0), (.l2i, (0, 0, 0), 0, 0)] (by decide +kernel) rfl ?_
    refine xm_Vm (pc := 88) (mz := md_X4_tell) (idx := 94) (p1 := 924) (a := 39) (as := [.int (Int64.toInt32 (v2 / (Int32.toInt64 (u.1 45 (Int32.toNatClampNeg v1)))))]) (st := []) (ev_X4_tell (Int64.toInt32 (v2 / (Int32.toInt64 (u.1 45 (Int32.toNatClampNeg v1))))) u) mw_X4_tell (by decide +kernel) (by decide +kernel) (by decide) rfl rfl (by decide) rfl (Nat.le_of_ble_eq_true rfl) (fun r88 => ?_)
    exact xm_iret (pc := 91) (by decide +kernel) rfl rfl
  · refine xm_blk (bs := [inb (((40 : Int32) * v1) + v4) 240]) (pc' := 74) (lv' := [(0, .ref 39), (1, .int v1), (2, .long (v2 + (Int32.toInt64 (u.1 46 (Int32.toNatClampNeg (((40 : Int32) * v1) + v4)))))), (4, .int (v4 + (1 : Int32)))]) (st' := []) (u' := (xU u)) [(.lload_n 2, (0, 0, 0), 0, 0), (.aload_n 0, (0, 0, 0), 0, 0), (.getfield 28, (4, 8, 828), 0, 0), (.bipush 40, (0, 0, 0), 40, 0), (.iload_n 1, (0, 0, 0), 0, 0), (.imul, (0, 0, 0), 0, 0), (.iload 4, (0, 0, 0), 0, 0), (.iadd, (0, 0, 0), 0, 0), (.iaload, (0, 0, 0), 0, 0), (.i2l, (0, 0, 0), 0, 0), (.ladd, (0, 0, 0), 0, 0), (.lstore_n 2, (0, 0, 0), 0, 0), (.iinc 4 1, (0, 0, 0), 1, 0)] (by decide +kernel) rfl ?_
    refine xm_goto (pc := 74) (off := -30) (tgt := 44) (by decide +kernel) (by decide) ?_
    exact h44 v1 (v2 + (Int32.toInt64 (u.1 46 (Int32.toNatClampNeg (((40 : Int32) * v1) + v4))))) (v4 + (1 : Int32)) u
def f_X4_mean_L44 (N : Nat) : Nat → Int32 → Int64 → Int32 → xN → Option (Int32 × xN)
  | 0 => fun _ _ _ _ => none
  | n + 1 => fun v1 v2 v4 u => f_X4_mean_L44b N (f_X4_mean_L44 N n) v1 v2 v4 u
theorem go_X4_mean_L44 (N : Nat) : ∀ (n : Nat) (v1 : Int32) (v2 : Int64) (v4 : Int32) (u : xN), xGm md_X4_mean rsM (f_X4_mean_L44 N n v1 v2 v4 u) 44 [(0, .ref 39), (1, .int v1), (2, .long v2), (4, .int v4)] [] (xU u) := by
  intro n
  induction n with
  | zero => intro v1 v2 v4 u; exact xm_none
  | succ n ih => intro v1 v2 v4 u; exact go_X4_mean_L44b N _ ih v1 v2 v4 u
def f_X4_mean (N : Nat) (a1 : Int32) (u : xN) : Option (Int32 × xN) := Option.bind (f_X4_isRow a1) (fun r1 => if r1 = (0 : Int32) then some ((-1 : Int32), u) else gdl [inb a1 6] (if (0 : Int32) ≤ (u.1 45 (Int32.toNatClampNeg a1)) then (gdl [inb a1 6] (if (u.1 45 (Int32.toNatClampNeg a1)) = (0 : Int32) then Option.bind (f_X4_find (4 : Int32) u) (fun r35 => some (r35.1, r35.2)) else f_X4_mean_L44 N N a1 (0 : Int64) (0 : Int32) u)) else Option.bind (f_X4_find (1 : Int32) u) (fun r20 => some (r20.1, r20.2))))
set_option maxRecDepth 20000 in
theorem go_X4_mean (N : Nat) (a1 : Int32) (u : xN) : xGm md_X4_mean rsM (f_X4_mean N a1 u) 0 [(0, .ref 39), (1, .int a1)] [] (xU u) := by
  unfold f_X4_mean
  refine xm_blk0 (pc' := 1) (lv' := [(0, .ref 39), (1, .int a1)]) (st' := [.int a1]) (u' := (xU u)) [(.iload_n 1, (0, 0, 0), 0, 0)] (by decide +kernel) rfl ?_
  refine xm_Si (pc := 1) (mz := md_X4_isRow) (idx := 78) (p1 := 901) (as := [.int a1]) (st := []) (ev_X4_isRow a1 u) mw_X4_isRow (by decide +kernel) (by decide +kernel) (by decide) rfl (Nat.le_of_ble_eq_true rfl) (fun r1 => ?_)
  refine xm_if_ne (pc := 4) (off := 5) (tgt := 9) (by decide +kernel) (by decide) ?_ ?_
  · refine xm_blk (bs := [inb a1 6]) (pc' := 15) (lv' := [(0, .ref 39), (1, .int a1)]) (st' := [.int (u.1 45 (Int32.toNatClampNeg a1))]) (u' := (xU u)) [(.aload_n 0, (0, 0, 0), 0, 0), (.getfield 25, (4, 7, 827), 0, 0), (.iload_n 1, (0, 0, 0), 0, 0), (.iaload, (0, 0, 0), 0, 0)] (by decide +kernel) rfl ?_
    refine xm_if_ge (pc := 15) (off := 9) (tgt := 24) (by decide +kernel) (by decide) ?_ ?_
    · refine xm_blk (bs := [inb a1 6]) (pc' := 30) (lv' := [(0, .ref 39), (1, .int a1)]) (st' := [.int (u.1 45 (Int32.toNatClampNeg a1))]) (u' := (xU u)) [(.aload_n 0, (0, 0, 0), 0, 0), (.getfield 25, (4, 7, 827), 0, 0), (.iload_n 1, (0, 0, 0), 0, 0), (.iaload, (0, 0, 0), 0, 0)] (by decide +kernel) rfl ?_
      refine xm_if_ne (pc := 30) (off := 9) (tgt := 39) (by decide +kernel) (by decide) ?_ ?_
      · refine xm_blk0 (pc' := 44) (lv' := [(0, .ref 39), (1, .int a1), (2, .long (0 : Int64)), (4, .int (0 : Int32))]) (st' := []) (u' := (xU u)) [(.lconst 0, (0, 0, 0), 0, 0), (.lstore_n 2, (0, 0, 0), 0, 0), (.iconst 0, (0, 0, 0), 0, 0), (.istore 4, (0, 0, 0), 0, 0)] (by decide +kernel) rfl ?_
        exact go_X4_mean_L44 N N a1 (0 : Int64) (0 : Int32) u
      · refine xm_blk0 (pc' := 35) (lv' := [(0, .ref 39), (1, .int a1)]) (st' := [.int (4 : Int32), .ref 39]) (u' := (xU u)) [(.aload_n 0, (0, 0, 0), 0, 0), (.iconst 4, (0, 0, 0), 4, 0)] (by decide +kernel) rfl ?_
        refine xm_Vm (pc := 35) (mz := md_X4_find) (idx := 82) (p1 := 908) (a := 39) (as := [.int (4 : Int32)]) (st := []) (ev_X4_find (4 : Int32) u) mw_X4_find (by decide +kernel) (by decide +kernel) (by decide) rfl rfl (by decide) rfl (Nat.le_of_ble_eq_true rfl) (fun r35 => ?_)
        exact xm_iret (pc := 38) (by decide +kernel) rfl rfl
    · refine xm_blk0 (pc' := 20) (lv' := [(0, .ref 39), (1, .int a1)]) (st' := [.int (1 : Int32), .ref 39]) (u' := (xU u)) [(.aload_n 0, (0, 0, 0), 0, 0), (.iconst 1, (0, 0, 0), 1, 0)] (by decide +kernel) rfl ?_
      refine xm_Vm (pc := 20) (mz := md_X4_find) (idx := 82) (p1 := 908) (a := 39) (as := [.int (1 : Int32)]) (st := []) (ev_X4_find (1 : Int32) u) mw_X4_find (by decide +kernel) (by decide +kernel) (by decide) rfl rfl (by decide) rfl (Nat.le_of_ble_eq_true rfl) (fun r20 => ?_)
      exact xm_iret (pc := 23) (by decide +kernel) rfl rfl
  · refine xm_blk0 (pc' := 8) (lv' := [(0, .ref 39), (1, .int a1)]) (st' := [.int (-1 : Int32)]) (u' := (xU u)) [(.iconst (-1), (0, 0, 0), -1, 0)] (by decide +kernel) rfl ?_
    exact xm_iret (pc := 8) (by decide +kernel) rfl rfl
theorem ev_X4_mean (N : Nat) (a1 : Int32) (u : xN) : ∀ r, f_X4_mean N a1 u = some r → xEm md_X4_mean yX4_mean [.ref 39, .int a1] (xU u) (some (.int r.1), xU r.2) := xm_met (res := rsM) (as := [.ref 39, .int a1]) (go_X4_mean N a1 u) (by decide) rfl (Nat.le_of_ble_eq_true rfl)
theorem mw_X4_isText : xMs yX4_isText cX4_isText 1 (some .boolean) 1 := xMs_of (p1 := 954) (p2 := 953) (p3 := 97) (by decide +kernel)
/-! NeitherBareModel.isText(I)Z  -/
abbrev md_X4_isText : xMd := (cX4_isText, RX4, 1, some .boolean, 2)
def f_X4_isText (a0 : Int32) : Option Int32 := Option.bind (f_X4_in (Int32.toInt64 a0) (0 : Int64) (3 : Int64)) (fun r6 => gdl [isb r6] (some r6))
set_option maxRecDepth 20000 in
theorem go_X4_isText (a0 : Int32) (u : xN) : xGm md_X4_isText (rsI (xU u)) (f_X4_isText a0) 0 [(0, .int a0)] [] (xU u) := by
  unfold f_X4_isText
  refine xm_blk0 (pc' := 6) (lv' := [(0, .int a0)]) (st' := [.long (3 : Int64), .long (0 : Int64), .long (Int32.toInt64 a0)]) (u' := (xU u)) [(.iload_n 0, (0, 0, 0), 0, 0), (.i2l, (0, 0, 0), 0, 0), (.lconst 0, (0, 0, 0), 0, 0), (.ldc2_w 76, (0, 0, 955), 0, 3)] (by decide +kernel) rfl ?_
  refine xm_Si (pc := 6) (mz := md_X4_in) (idx := 72) (p1 := 905) (as := [.long (Int32.toInt64 a0), .long (0 : Int64), .long (3 : Int64)]) (st := []) (ev_X4_in (Int32.toInt64 a0) (0 : Int64) (3 : Int64) u) mw_X4_in (by decide +kernel) (by decide +kernel) (by decide) rfl (Nat.le_of_ble_eq_true rfl) (fun r6 => ?_)
  exact xm_zret (pc := 9) (by decide +kernel) rfl rfl
theorem ev_X4_isText (a0 : Int32) (u : xN) : ∀ r, f_X4_isText a0 = some r → xEm md_X4_isText yX4_isText [.int a0] (xU u) (some (.int r), (xU u)) := xm_met (res := (rsI (xU u))) (as := [.int a0]) (go_X4_isText a0 u) (by decide) rfl (Nat.le_of_ble_eq_true rfl)
theorem mw_X4_text : xMv yX4_text cX4_text 4 (some .int) 2 := xMv_of (p1 := 951) (p2 := 949) (p3 := 97) (p4 := 950) (by decide +kernel)
/-! NeitherBareModel.text(II)I (39, None, None) -/
abbrev md_X4_text : xMd := (cX4_text, RX4, 4, some .int, 3)
def f_X4_text_L13 (N : Nat) (u : xN) : Option (Int32 × xN) := some ((-1 : Int32), u)
set_option maxRecDepth 20000 in
theorem go_X4_text_L13 (N : Nat) (u : xN) : xGm md_X4_text rsM (f_X4_text_L13 N u) 13 [] [] (xU u) := by
  unfold f_X4_text_L13
  refine xm_blk0 (pc' := 14) (lv' := []) (st' := [.int (-1 : Int32)]) (u' := (xU u)) [(.iconst (-1), (0, 0, 0), -1, 0)] (by decide +kernel) rfl ?_
  exact xm_iret (pc := 14) (by decide +kernel) rfl rfl
def f_X4_text_L34b (N : Nat) (rec34 : Int32 → Int32 → Int32 → xN → Option (Int32 × xN)) (v1 : Int32) (v2 : Int32) (v3 : Int32) (u : xN) : Option (Int32 × xN) := if (80 : Int32) ≤ v3 then some (v2, u) else gdl [inb (((80 : Int32) * v1) + v3) 320] (rec34 v1 v2 (v3 + (1 : Int32)) (mI u 48 (Int32.toNatClampNeg (((80 : Int32) * v1) + v3)) (32 : Int32)))
set_option maxRecDepth 20000 in
theorem go_X4_text_L34b (N : Nat) (rec34 : Int32 → Int32 → Int32 → xN → Option (Int32 × xN)) (h34 : ∀ (v1 : Int32) (v2 : Int32) (v3 : Int32) (u : xN), xGm md_X4_text rsM (rec34 v1 v2 v3 u) 34 [(0, .ref 39), (1, .int v1), (2, .int v2), (3, .int v3)] [] (xU u)) (v1 : Int32) (v2 : Int32) (v3 : Int32) (u : xN) : xGm md_X4_text rsM (f_X4_text_L34b N rec34 v1 v2 v3 u) 34 [(0, .ref 39), (1, .int v1), (2, .int v2), (3, .int v3)] [] (xU u) := by
  unfold f_X4_text_L34b
  refine xm_blk0 (pc' := 37) (lv' := [(0, .ref 39), (1, .int v1), (2, .int v2), (3, .int v3)]) (st' := [.int (80 : Int32), .int v3]) (u' := (xU u)) [(.iload_n 3, (0, 0, 0), 0, 0), (.bipush 80, (0, 0, 0), 80, 0)] (by decide +kernel) rfl ?_
  refine xm_icmp_ge (pc := 37) (off := 22) (tgt := 59) (by decide +kernel) (by decide) ?_ ?_
  · refine xm_blk0 (pc' := 60) (lv' := [(0, .ref 39), (1, .int v1), (2, .int v2), (3, .int v3)]) (st' := [.int v2]) (u' := (xU u)) [(.iload_n 2, (0, 0, 0), 0, 0)] (by decide +kernel) rfl ?_
    exact xm_iret (pc := 60) (by decide +kernel) rfl rfl
  · refine xm_blk (bs := [inb (((80 : Int32) * v1) + v3) 320]) (pc' := 56) (lv' := [(0, .ref 39), (1, .int v1), (2, .int v2), (3, .int (v3 + (1 : Int32)))]) (st' := []) (u' := (xU (mI u 48 (Int32.toNatClampNeg (((80 : Int32) * v1) + v3)) (32 : Int32)))) [(.aload_n 0, (0, 0, 0), 0, 0), (.getfield 34, (4, 10, 830), 0, 0), (.bipush 80, (0, 0, 0), 80, 0), (.iload_n 1, (0, 0, 0), 0, 0), (.imul, (0, 0, 0), 0, 0), (.iload_n 3, (0, 0, 0), 0, 0), (.iadd, (0, 0, 0), 0, 0), (.bipush 32, (0, 0, 0), 32, 0), (.iastore, (0, 0, 0), 0, 0), (.iinc 3 1, (0, 0, 0), 1, 0)] (by decide +kernel) rfl ?_
    refine xm_goto (pc := 56) (off := -22) (tgt := 34) (by decide +kernel) (by decide) ?_
    exact h34 v1 v2 (v3 + (1 : Int32)) (mI u 48 (Int32.toNatClampNeg (((80 : Int32) * v1) + v3)) (32 : Int32))
def f_X4_text_L34 (N : Nat) : Nat → Int32 → Int32 → Int32 → xN → Option (Int32 × xN)
  | 0 => fun _ _ _ _ => none
  | n + 1 => fun v1 v2 v3 u => f_X4_text_L34b N (f_X4_text_L34 N n) v1 v2 v3 u
theorem go_X4_text_L34 (N : Nat) : ∀ (n : Nat) (v1 : Int32) (v2 : Int32) (v3 : Int32) (u : xN), xGm md_X4_text rsM (f_X4_text_L34 N n v1 v2 v3 u) 34 [(0, .ref 39), (1, .int v1), (2, .int v2), (3, .int v3)] [] (xU u) := by
  intro n
  induction n with
  | zero => intro v1 v2 v3 u; exact xm_none
  | succ n ih => intro v1 v2 v3 u; exact go_X4_text_L34b N _ ih v1 v2 v3 u
def f_X4_text (N : Nat) (a1 : Int32) (a2 : Int32) (u : xN) : Option (Int32 × xN) := Option.bind (f_X4_isText a1) (fun r1 => if r1 = (0 : Int32) then f_X4_text_L13 N u else if a2 ≤ (80 : Int32) then (if (0 : Int32) ≤ a2 then (gdl [inb a1 4] (f_X4_text_L34 N N a1 a2 (0 : Int32) (mI u 47 (Int32.toNatClampNeg a1) a2))) else Option.bind (f_X4_find (5 : Int32) u) (fun r21 => some (r21.1, r21.2))) else f_X4_text_L13 N u)
set_option maxRecDepth 20000 in
theorem go_X4_text (N : Nat) (a1 : Int32) (a2 : Int32) (u : xN) : xGm md_X4_text rsM (f_X4_text N a1 a2 u) 0 [(0, .ref 39), (1, .int a1), (2, .int a2)] [] (xU u) := by
  unfold f_X4_text
  refine xm_blk0 (pc' := 1) (lv' := [(0, .ref 39), (1, .int a1), (2, .int a2)]) (st' := [.int a1]) (u' := (xU u)) [(.iload_n 1, (0, 0, 0), 0, 0)] (by decide +kernel) rfl ?_
  refine xm_Si (pc := 1) (mz := md_X4_isText) (idx := 101) (p1 := 952) (as := [.int a1]) (st := []) (ev_X4_isText a1 u) mw_X4_isText (by decide +kernel) (by decide +kernel) (by decide) rfl (Nat.le_of_ble_eq_true rfl) (fun r1 => ?_)
  refine xm_if_eq (pc := 4) (off := 9) (tgt := 13) (by decide +kernel) (by decide) ?_ ?_
  · refine xm_wk [] (lv' := []) rfl ?_
    exact go_X4_text_L13 N u
  · refine xm_blk0 (pc' := 10) (lv' := [(0, .ref 39), (1, .int a1), (2, .int a2)]) (st' := [.int (80 : Int32), .int a2]) (u' := (xU u)) [(.iload_n 2, (0, 0, 0), 0, 0), (.bipush 80, (0, 0, 0), 80, 0)] (by decide +kernel) rfl ?_
    refine xm_icmp_le (pc := 10) (off := 5) (tgt := 15) (by decide +kernel) (by decide) ?_ ?_
    · refine xm_blk0 (pc' := 16) (lv' := [(0, .ref 39), (1, .int a1), (2, .int a2)]) (st' := [.int a2]) (u' := (xU u)) [(.iload_n 2, (0, 0, 0), 0, 0)] (by decide +kernel) rfl ?_
      refine xm_if_ge (pc := 16) (off := 9) (tgt := 25) (by decide +kernel) (by decide) ?_ ?_
      · refine xm_blk (bs := [inb a1 4]) (pc' := 34) (lv' := [(0, .ref 39), (1, .int a1), (2, .int a2), (3, .int (0 : Int32))]) (st' := []) (u' := (xU (mI u 47 (Int32.toNatClampNeg a1) a2))) [(.aload_n 0, (0, 0, 0), 0, 0), (.getfield 31, (4, 9, 829), 0, 0), (.iload_n 1, (0, 0, 0), 0, 0), (.iload_n 2, (0, 0, 0), 0, 0), (.iastore, (0, 0, 0), 0, 0), (.iconst 0, (0, 0, 0), 0, 0), (.istore_n 3, (0, 0, 0), 0, 0)] (by decide +kernel) rfl ?_
        exact go_X4_text_L34 N N a1 a2 (0 : Int32) (mI u 47 (Int32.toNatClampNeg a1) a2)
      · refine xm_blk0 (pc' := 21) (lv' := [(0, .ref 39), (1, .int a1), (2, .int a2)]) (st' := [.int (5 : Int32), .ref 39]) (u' := (xU u)) [(.aload_n 0, (0, 0, 0), 0, 0), (.iconst 5, (0, 0, 0), 5, 0)] (by decide +kernel) rfl ?_
        refine xm_Vm (pc := 21) (mz := md_X4_find) (idx := 82) (p1 := 908) (a := 39) (as := [.int (5 : Int32)]) (st := []) (ev_X4_find (5 : Int32) u) mw_X4_find (by decide +kernel) (by decide +kernel) (by decide) rfl rfl (by decide) rfl (Nat.le_of_ble_eq_true rfl) (fun r21 => ?_)
        exact xm_iret (pc := 24) (by decide +kernel) rfl rfl
    · refine xm_wk [] (lv' := []) rfl ?_
      exact go_X4_text_L13 N u
theorem ev_X4_text (N : Nat) (a1 : Int32) (a2 : Int32) (u : xN) : ∀ r, f_X4_text N a1 a2 u = some r → xEm md_X4_text yX4_text [.ref 39, .int a1, .int a2] (xU u) (some (.int r.1), xU r.2) := xm_met (res := rsM) (as := [.ref 39, .int a1, .int a2]) (go_X4_text N a1 a2 u) (by decide) rfl (Nat.le_of_ble_eq_true rfl)
theorem mw_X4_put : xMv yX4_put cX4_put 5 (some .int) 3 := xMv_of (p1 := 959) (p2 := 957) (p3 := 97) (p4 := 958) (by decide +kernel)
/-! NeitherBareModel.put(III)I (39, None, None, None) -/
abbrev md_X4_put : xMd := (cX4_put, RX4, 5, some .int, 3)
def f_X4_put (a1 : Int32) (a2 : Int32) (a3 : Int32) (u : xN) : Option (Int32 × xN) := Option.bind (f_X4_isText a1) (fun r1 => if r1 = (0 : Int32) then some ((-1 : Int32), u) else gdl [inb a1 4] (if (0 : Int32) ≤ (u.1 47 (Int32.toNatClampNeg a1)) then (gdl [inb a1 4] (Option.bind (f_X4_in (Int32.toInt64 a2) (0 : Int64) (Int32.toInt64 ((u.1 47 (Int32.toNatClampNeg a1)) - (1 : Int32)))) (fun r36 => if r36 = (0 : Int32) then Option.bind (f_X4_find (2 : Int32) u) (fun r44 => some (r44.1, r44.2)) else gdl [inb (((80 : Int32) * a1) + a2) 320, inb (((80 : Int32) * a1) + a2) 320] (some (((u.1 48 (Int32.toNatClampNeg (((80 : Int32) * a1) + a2))) + (1000 : Int32)), mI u 48 (Int32.toNatClampNeg (((80 : Int32) * a1) + a2)) (Int8.toInt32 (Int32.toInt8 a3))))))) else Option.bind (f_X4_find (1 : Int32) u) (fun r20 => some (r20.1, r20.2))))
set_option maxRecDepth 20000 in
theorem go_X4_put (a1 : Int32) (a2 : Int32) (a3 : Int32) (u : xN) : xGm md_X4_put rsM (f_X4_put a1 a2 a3 u) 0 [(0, .ref 39), (1, .int a1), (2, .int a2), (3, .int a3)] [] (xU u) := by
  unfold f_X4_put
  refine xm_blk0 (pc' := 1) (lv' := [(0, .ref 39), (1, .int a1), (2, .int a2), (3, .int a3)]) (st' := [.int a1]) (u' := (xU u)) [(.iload_n 1, (0, 0, 0), 0, 0)] (by decide +kernel) rfl ?_
  refine xm_Si (pc := 1) (mz := md_X4_isText) (idx := 101) (p1 := 952) (as := [.int a1]) (st := []) (ev_X4_isText a1 u) mw_X4_isText (by decide +kernel) (by decide +kernel) (by decide) rfl (Nat.le_of_ble_eq_true rfl) (fun r1 => ?_)
  refine xm_if_ne (pc := 4) (off := 5) (tgt := 9) (by decide +kernel) (by decide) ?_ ?_
  · refine xm_blk (bs := [inb a1 4]) (pc' := 15) (lv' := [(0, .ref 39), (1, .int a1), (2, .int a2), (3, .int a3)]) (st' := [.int (u.1 47 (Int32.toNatClampNeg a1))]) (u' := (xU u)) [(.aload_n 0, (0, 0, 0), 0, 0), (.getfield 31, (4, 9, 829), 0, 0), (.iload_n 1, (0, 0, 0), 0, 0), (.iaload, (0, 0, 0), 0, 0)] (by decide +kernel) rfl ?_
    refine xm_if_ge (pc := 15) (off := 9) (tgt := 24) (by decide +kernel) (by decide) ?_ ?_
    · refine xm_blk (bs := [inb a1 4]) (pc' := 36) (lv' := [(0, .ref 39), (1, .int a1), (2, .int a2), (3, .int a3)]) (st' := [.long (Int32.toInt64 ((u.1 47 (Int32.toNatClampNeg a1)) - (1 : Int32))), .long (0 : Int64), .long (Int32.toInt64 a2)]) (u' := (xU u)) [(.iload_n 2, (0, 0, 0), 0, 0), (.i2l, (0, 0, 0), 0, 0), (.lconst 0, (0, 0, 0), 0, 0), (.aload_n 0, (0, 0, 0), 0, 0), (.getfield 31, (4, 9, 829), 0, 0), (.iload_n 1, (0, 0, 0), 0, 0), (.iaload, (0, 0, 0), 0, 0), (.iconst 1, (0, 0, 0), 1, 0), (.isub, (0, 0, 0), 0, 0), (.i2l, (0, 0, 0), 0, 0)] (by decide +kernel) rfl ?_
      refine xm_Si (pc := 36) (mz := md_X4_in) (idx := 72) (p1 := 905) (as := [.long (Int32.toInt64 a2), .long (0 : Int64), .long (Int32.toInt64 ((u.1 47 (Int32.toNatClampNeg a1)) - (1 : Int32)))]) (st := []) (ev_X4_in (Int32.toInt64 a2) (0 : Int64) (Int32.toInt64 ((u.1 47 (Int32.toNatClampNeg a1)) - (1 : Int32))) u) mw_X4_in (by decide +kernel) (by decide +kernel) (by decide) rfl (Nat.le_of_ble_eq_true rfl) (fun r36 => ?_)
      refine xm_if_ne (pc := 39) (off := 9) (tgt := 48) (by decide +kernel) (by decide) ?_ ?_
      · refine xm_blk (bs := [inb (((80 : Int32) * a1) + a2) 320, inb (((80 : Int32) * a1) + a2) 320]) (pc' := 80) (lv' := [(0, .ref 39), (1, .int a1), (2, .int a2), (3, .int a3), (4, .int (u.1 48 (Int32.toNatClampNeg (((80 : Int32) * a1) + a2))))]) (st' := [.int ((u.1 48 (Int32.toNatClampNeg (((80 : Int32) * a1) + a2))) + (1000 : Int32))]) (u' := (xU (mI u 48 (Int32.toNatClampNeg (((80 : Int32) * a1) + a2)) (Int8.toInt32 (Int32.toInt8 a3))))) [(.aload_n 0, (0, 0, 0), 0, 0), (.getfield 34, (4, 10, 830), 0, 0), (.bipush 80, (0, 0, 0), 80, 0), (.iload_n 1, (0, 0, 0), 0, 0), (.imul, (0, 0, 0), 0, 0), (.iload_n 2, (0, 0, 0), 0, 0), (.iadd, (0, 0, 0), 0, 0), (.iaload, (0, 0, 0), 0, 0), (.istore 4, (0, 0, 0), 0, 0), (.aload_n 0, (0, 0, 0), 0, 0), (.getfield 34, (4, 10, 830), 0, 0), (.bipush 80, (0, 0, 0), 80, 0), (.iload_n 1, (0, 0, 0), 0, 0), (.imul, (0, 0, 0), 0, 0), (.iload_n 2, (0, 0, 0), 0, 0), (.iadd, (0, 0, 0), 0, 0), (.iload_n 3, (0, 0, 0), 0, 0), (.i2b, (0, 0, 0), 0, 0), (.iastore, (0, 0, 0), 0, 0), (.iload 4, (0, 0, 0), 0, 0), (.sipush 1000, (0, 0, 0), 1000, 0), (.iadd, (0, 0, 0), 0, 0)] (by decide +kernel) rfl ?_
        exact xm_iret (pc := 80) (by decide +kernel) rfl rfl
      · refine xm_blk0 (pc' := 44) (lv' := [(0, .ref 39), (1, .int a1), (2, .int a2), (3, .int a3)]) (st' := [.int (2 : Int32), .ref 39]) (u' := (xU u)) [(.aload_n 0, (0, 0, 0), 0, 0), (.iconst 2, (0, 0, 0), 2, 0)] (by decide +kernel) rfl ?_
        refine xm_Vm (pc := 44) (mz := md_X4_find) (idx := 82) (p1 := 908) (a := 39) (as := [.int (2 : Int32)]) (st := []) (ev_X4_find (2 : Int32) u) mw_X4_find (by decide +kernel) (by decide +kernel) (by decide) rfl rfl (by decide) rfl (Nat.le_of_ble_eq_true rfl) (fun r44 => ?_)
        exact xm_iret (pc := 47) (by decide +kernel) rfl rfl
    · refine xm_blk0 (pc' := 20) (lv' := [(0, .ref 39), (1, .int a1), (2, .int a2), (3, .int a3)]) (st' := [.int (1 : Int32), .ref 39]) (u' := (xU u)) [(.aload_n 0, (0, 0, 0), 0, 0), (.iconst 1, (0, 0, 0), 1, 0)] (by decide +kernel) rfl ?_
      refine xm_Vm (pc := 20) (mz := md_X4_find) (idx := 82) (p1 := 908) (a := 39) (as := [.int (1 : Int32)]) (st := []) (ev_X4_find (1 : Int32) u) mw_X4_find (by decide +kernel) (by decide +kernel) (by decide) rfl rfl (by decide) rfl (Nat.le_of_ble_eq_true rfl) (fun r20 => ?_)
      exact xm_iret (pc := 23) (by decide +kernel) rfl rfl
  · refine xm_blk0 (pc' := 8) (lv' := [(0, .ref 39), (1, .int a1), (2, .int a2), (3, .int a3)]) (st' := [.int (-1 : Int32)]) (u' := (xU u)) [(.iconst (-1), (0, 0, 0), -1, 0)] (by decide +kernel) rfl ?_
    exact xm_iret (pc := 8) (by decide +kernel) rfl rfl
theorem ev_X4_put (a1 : Int32) (a2 : Int32) (a3 : Int32) (u : xN) : ∀ r, f_X4_put a1 a2 a3 u = some r → xEm md_X4_put yX4_put [.ref 39, .int a1, .int a2, .int a3] (xU u) (some (.int r.1), xU r.2) := xm_met (res := rsM) (as := [.ref 39, .int a1, .int a2, .int a3]) (go_X4_put a1 a2 a3 u) (by decide) rfl (Nat.le_of_ble_eq_true rfl)
theorem mw_X4_here : xMv yX4_here cX4_here 1 (some .int) 0 := xMv_of (p1 := 975) (p2 := 974) (p3 := 97) (p4 := 47) (by decide +kernel)
/-! NeitherBareModel.here()I (39,) -/
abbrev md_X4_here : xMd := (cX4_here, RX4, 1, some .int, 1)
def f_X4_here (u : xN) : Option Int32 := gdl [inb ((u.1 39 16) + (u.1 39 17)) 320] (some (u.1 48 (Int32.toNatClampNeg ((u.1 39 16) + (u.1 39 17)))))
set_option maxRecDepth 20000 in
theorem go_X4_here (u : xN) : xGm md_X4_here (rsI (xU u)) (f_X4_here u) 0 [(0, .ref 39)] [] (xU u) := by
  unfold f_X4_here
  refine xm_blk (bs := [inb ((u.1 39 16) + (u.1 39 17)) 320]) (pc' := 14) (lv' := [(0, .ref 39)]) (st' := [.int (u.1 48 (Int32.toNatClampNeg ((u.1 39 16) + (u.1 39 17))))]) (u' := (xU u)) [(.aload_n 0, (0, 0, 0), 0, 0), (.getfield 34, (4, 10, 830), 0, 0), (.aload_n 0, (0, 0, 0), 0, 0), (.getfield 104, (4, 16, 836), 0, 0), (.aload_n 0, (0, 0, 0), 0, 0), (.getfield 107, (4, 17, 837), 0, 0), (.iadd, (0, 0, 0), 0, 0), (.iaload, (0, 0, 0), 0, 0)] (by decide +kernel) rfl ?_
  exact xm_iret (pc := 14) (by decide +kernel) rfl rfl
theorem ev_X4_here (u : xN) : ∀ r, f_X4_here u = some r → xEm md_X4_here yX4_here [.ref 39] (xU u) (some (.int r), (xU u)) := xm_met (res := (rsI (xU u))) (as := [.ref 39]) (go_X4_here u) (by decide) rfl (Nat.le_of_ble_eq_true rfl)
theorem mw_X4_skip : xMv yX4_skip cX4_skip 1 none 0 := xMv_of (p1 := 971) (p2 := 970) (p3 := 97) (p4 := 46) (by decide +kernel)
/-! NeitherBareModel.skip()V (39,) -/
abbrev md_X4_skip : xMd := (cX4_skip, RX4, 1, none, 2)
def f_X4_skip_L0b (N : Nat) (rec0 : xN → Option xN) (u : xN) : Option xN := if (u.1 39 18) ≤ (u.1 39 17) then some u else Option.bind (f_X4_here u) (fun r12 => if r12 = (32 : Int32) then rec0 (mI u 39 17 ((u.1 39 17) + (1 : Int32))) else some u)
set_option maxRecDepth 20000 in
theorem go_X4_skip_L0b (N : Nat) (rec0 : xN → Option xN) (h0 : ∀ (u : xN), xGm md_X4_skip rsV (rec0 u) 0 [(0, .ref 39)] [] (xU u)) (u : xN) : xGm md_X4_skip rsV (f_X4_skip_L0b N rec0 u) 0 [(0, .ref 39)] [] (xU u) := by
  unfold f_X4_skip_L0b
  refine xm_blk0 (pc' := 8) (lv' := [(0, .ref 39)]) (st' := [.int (u.1 39 18), .int (u.1 39 17)]) (u' := (xU u)) [(.aload_n 0, (0, 0, 0), 0, 0), (.getfield 107, (4, 17, 837), 0, 0), (.aload_n 0, (0, 0, 0), 0, 0), (.getfield 110, (4, 18, 838), 0, 0)] (by decide +kernel) rfl ?_
  refine xm_icmp_ge (pc := 8) (off := 25) (tgt := 33) (by decide +kernel) (by decide) ?_ ?_
  · exact xm_vret (pc := 33) (by decide +kernel) rfl rfl
  · refine xm_blk0 (pc' := 12) (lv' := [(0, .ref 39)]) (st' := [.ref 39]) (u' := (xU u)) [(.aload_n 0, (0, 0, 0), 0, 0)] (by decide +kernel) rfl ?_
    refine xm_Vi (pc := 12) (mz := md_X4_here) (idx := 113) (p1 := 972) (a := 39) (as := []) (st := []) (ev_X4_here u) mw_X4_here (by decide +kernel) (by decide +kernel) (by decide) rfl rfl (by decide) rfl (Nat.le_of_ble_eq_true rfl) (fun r12 => ?_)
    refine xm_blk0 (pc' := 17) (lv' := [(0, .ref 39)]) (st' := [.int (32 : Int32), .int r12]) (u' := (xU u)) [(.bipush 32, (0, 0, 0), 32, 0)] (by decide +kernel) rfl ?_
    refine xm_icmp_ne (pc := 17) (off := 16) (tgt := 33) (by decide +kernel) (by decide) ?_ ?_
    · exact xm_vret (pc := 33) (by decide +kernel) rfl rfl
    · refine xm_blk0 (pc' := 30) (lv' := [(0, .ref 39)]) (st' := []) (u' := (xU (mI u 39 17 ((u.1 39 17) + (1 : Int32))))) [(.aload_n 0, (0, 0, 0), 0, 0), (.dup, (0, 0, 0), 0, 0), (.getfield 107, (4, 17, 837), 0, 0), (.iconst 1, (0, 0, 0), 1, 0), (.iadd, (0, 0, 0), 0, 0), (.putfield 107, (4, 17, 837), 0, 0)] (by decide +kernel) rfl ?_
      refine xm_goto (pc := 30) (off := -30) (tgt := 0) (by decide +kernel) (by decide) ?_
      exact h0 (mI u 39 17 ((u.1 39 17) + (1 : Int32)))
def f_X4_skip_L0 (N : Nat) : Nat → xN → Option xN
  | 0 => fun _ => none
  | n + 1 => fun u => f_X4_skip_L0b N (f_X4_skip_L0 N n) u
theorem go_X4_skip_L0 (N : Nat) : ∀ (n : Nat) (u : xN), xGm md_X4_skip rsV (f_X4_skip_L0 N n u) 0 [(0, .ref 39)] [] (xU u) := by
  intro n
  induction n with
  | zero => intro u; exact xm_none
  | succ n ih => intro u; exact go_X4_skip_L0b N _ ih u
def f_X4_skip (N : Nat) (u : xN) : Option xN := if (u.1 39 18) ≤ (u.1 39 17) then some u else Option.bind (f_X4_here u) (fun r12 => if r12 = (32 : Int32) then f_X4_skip_L0 N N (mI u 39 17 ((u.1 39 17) + (1 : Int32))) else some u)
set_option maxRecDepth 20000 in
theorem go_X4_skip (N : Nat) (u : xN) : xGm md_X4_skip rsV (f_X4_skip N u) 0 [(0, .ref 39)] [] (xU u) := by
  unfold f_X4_skip
  refine xm_blk0 (pc' := 8) (lv' := [(0, .ref 39)]) (st' := [.int (u.1 39 18), .int (u.1 39 17)]) (u' := (xU u)) [(.aload_n 0, (0, 0, 0), 0, 0), (.getfield 107, (4, 17, 837), 0, 0), (.aload_n 0, (0, 0, 0), 0, 0), (.getfield 110, (4, 18, 838), 0, 0)] (by decide +kernel) rfl ?_
  refine xm_icmp_ge (pc := 8) (off := 25) (tgt := 33) (by decide +kernel) (by decide) ?_ ?_
  · exact xm_vret (pc := 33) (by decide +kernel) rfl rfl
  · refine xm_blk0 (pc' := 12) (lv' := [(0, .ref 39)]) (st' := [.ref 39]) (u' := (xU u)) [(.aload_n 0, (0, 0, 0), 0, 0)] (by decide +kernel) rfl ?_
    refine xm_Vi (pc := 12) (mz := md_X4_here) (idx := 113) (p1 := 972) (a := 39) (as := []) (st := []) (ev_X4_here u) mw_X4_here (by decide +kernel) (by decide +kernel) (by decide) rfl rfl (by decide) rfl (Nat.le_of_ble_eq_true rfl) (fun r12 => ?_)
    refine xm_blk0 (pc' := 17) (lv' := [(0, .ref 39)]) (st' := [.int (32 : Int32), .int r12]) (u' := (xU u)) [(.bipush 32, (0, 0, 0), 32, 0)] (by decide +kernel) rfl ?_
    refine xm_icmp_ne (pc := 17) (off := 16) (tgt := 33) (by decide +kernel) (by decide) ?_ ?_
    · exact xm_vret (pc := 33) (by decide +kernel) rfl rfl
    · refine xm_blk0 (pc' := 30) (lv' := [(0, .ref 39)]) (st' := []) (u' := (xU (mI u 39 17 ((u.1 39 17) + (1 : Int32))))) [(.aload_n 0, (0, 0, 0), 0, 0), (.dup, (0, 0, 0), 0, 0), (.getfield 107, (4, 17, 837), 0, 0), (.iconst 1, (0, 0, 0), 1, 0), (.iadd, (0, 0, 0), 0, 0), (.putfield 107, (4, 17, 837), 0, 0)] (by decide +kernel) rfl ?_
      refine xm_goto (pc := 30) (off := -30) (tgt := 0) (by decide +kernel) (by decide) ?_
      exact go_X4_skip_L0 N N (mI u 39 17 ((u.1 39 17) + (1 : Int32)))
theorem ev_X4_skip (N : Nat) (u : xN) : ∀ r, f_X4_skip N u = some r → xEm md_X4_skip yX4_skip [.ref 39] (xU u) (none, xU r) := xm_met (res := rsV) (as := [.ref 39]) (go_X4_skip N u) (by decide) rfl (Nat.le_of_ble_eq_true rfl)
theorem mw_X4_kindOfLetter : xMs yX4_kindOfLetter cX4_kindOfLetter 1 (some .int) 1 := xMs_of (p1 := 991) (p2 := 990) (p3 := 97) (by decide +kernel)
/-! NeitherBareModel.kindOfLetter(I)I  -/
abbrev md_X4_kindOfLetter : xMd := (cX4_kindOfLetter, RX4, 1, some .int, 1)
def f_X4_kindOfLetter_L62 (t0 : Int32) : Option Int32 := some t0
set_option maxRecDepth 20000 in
theorem go_X4_kindOfLetter_L62 (u : xN) (t0 : Int32) : xGm md_X4_kindOfLetter (rsI (xU u)) (f_X4_kindOfLetter_L62 t0) 62 [] [.int t0] (xU u) := by
  unfold f_X4_kindOfLetter_L62
  exact xm_iret (pc := 62) (by decide +kernel) rfl rfl
def f_X4_kindOfLetter (a0 : Int32) : Option Int32 := if a0 = (99 : Int32) then f_X4_kindOfLetter_L62 (0 : Int32) else if a0 = (110 : Int32) then f_X4_kindOfLetter_L62 (1 : Int32) else if a0 = (98 : Int32) then f_X4_kindOfLetter_L62 (2 : Int32) else if a0 = (117 : Int32) then f_X4_kindOfLetter_L62 (3 : Int32) else if a0 = (104 : Int32) then f_X4_kindOfLetter_L62 (4 : Int32) else if a0 = (120 : Int32) then f_X4_kindOfLetter_L62 (5 : Int32) else f_X4_kindOfLetter_L62 (-9 : Int32)
set_option maxRecDepth 20000 in
theorem go_X4_kindOfLetter (a0 : Int32) (u : xN) : xGm md_X4_kindOfLetter (rsI (xU u)) (f_X4_kindOfLetter a0) 0 [(0, .int a0)] [] (xU u) := by
  unfold f_X4_kindOfLetter
  refine xm_blk0 (pc' := 3) (lv' := [(0, .int a0)]) (st' := [.int (99 : Int32), .int a0]) (u' := (xU u)) [(.iload_n 0, (0, 0, 0), 0, 0), (.bipush 99, (0, 0, 0), 99, 0)] (by decide +kernel) rfl ?_
  refine xm_icmp_ne (pc := 3) (off := 7) (tgt := 10) (by decide +kernel) (by decide) ?_ ?_
  · refine xm_blk0 (pc' := 13) (lv' := [(0, .int a0)]) (st' := [.int (110 : Int32), .int a0]) (u' := (xU u)) [(.iload_n 0, (0, 0, 0), 0, 0), (.bipush 110, (0, 0, 0), 110, 0)] (by decide +kernel) rfl ?_
    refine xm_icmp_ne (pc := 13) (off := 7) (tgt := 20) (by decide +kernel) (by decide) ?_ ?_
    · refine xm_blk0 (pc' := 23) (lv' := [(0, .int a0)]) (st' := [.int (98 : Int32), .int a0]) (u' := (xU u)) [(.iload_n 0, (0, 0, 0), 0, 0), (.bipush 98, (0, 0, 0), 98, 0)] (by decide +kernel) rfl ?_
      refine xm_icmp_ne (pc := 23) (off := 7) (tgt := 30) (by decide +kernel) (by decide) ?_ ?_
      · refine xm_blk0 (pc' := 33) (lv' := [(0, .int a0)]) (st' := [.int (117 : Int32), .int a0]) (u' := (xU u)) [(.iload_n 0, (0, 0, 0), 0, 0), (.bipush 117, (0, 0, 0), 117, 0)] (by decide +kernel) rfl ?_
        refine xm_icmp_ne (pc := 33) (off := 7) (tgt := 40) (by decide +kernel) (by decide) ?_ ?_
        · refine xm_blk0 (pc' := 43) (lv' := [(0, .int a0)]) (st' := [.int (104 : Int32), .int a0]) (u' := (xU u)) [(.iload_n 0, (0, 0, 0), 0, 0), (.bipush 104, (0, 0, 0), 104, 0)] (by decide +kernel) rfl ?_
          refine xm_icmp_ne (pc := 43) (off := 7) (tgt := 50) (by decide +kernel) (by decide) ?_ ?_
          · refine xm_blk0 (pc' := 53) (lv' := [(0, .int a0)]) (st' := [.int (120 : Int32), .int a0]) (u' := (xU u)) [(.iload_n 0, (0, 0, 0), 0, 0), (.bipush 120, (0, 0, 0), 120, 0)] (by decide +kernel) rfl ?_
            refine xm_icmp_ne (pc := 53) (off := 7) (tgt := 60) (by decide +kernel) (by decide) ?_ ?_
            · refine xm_blk0 (pc' := 62) (lv' := [(0, .int a0)]) (st' := [.int (-9 : Int32)]) (u' := (xU u)) [(.bipush (-9), (0, 0, 0), -9, 0)] (by decide +kernel) rfl ?_
              refine xm_wk [] (lv' := []) rfl ?_
              exact go_X4_kindOfLetter_L62 u (-9 : Int32)
            · refine xm_blk0 (pc' := 57) (lv' := [(0, .int a0)]) (st' := [.int (5 : Int32)]) (u' := (xU u)) [(.iconst 5, (0, 0, 0), 5, 0)] (by decide +kernel) rfl ?_
              refine xm_goto (pc := 57) (off := 5) (tgt := 62) (by decide +kernel) (by decide) ?_
              refine xm_wk [] (lv' := []) rfl ?_
              exact go_X4_kindOfLetter_L62 u (5 : Int32)
          · refine xm_blk0 (pc' := 47) (lv' := [(0, .int a0)]) (st' := [.int (4 : Int32)]) (u' := (xU u)) [(.iconst 4, (0, 0, 0), 4, 0)] (by decide +kernel) rfl ?_
            refine xm_goto (pc := 47) (off := 15) (tgt := 62) (by decide +kernel) (by decide) ?_
            refine xm_wk [] (lv' := []) rfl ?_
            exact go_X4_kindOfLetter_L62 u (4 : Int32)
        · refine xm_blk0 (pc' := 37) (lv' := [(0, .int a0)]) (st' := [.int (3 : Int32)]) (u' := (xU u)) [(.iconst 3, (0, 0, 0), 3, 0)] (by decide +kernel) rfl ?_
          refine xm_goto (pc := 37) (off := 25) (tgt := 62) (by decide +kernel) (by decide) ?_
          refine xm_wk [] (lv' := []) rfl ?_
          exact go_X4_kindOfLetter_L62 u (3 : Int32)
      · refine xm_blk0 (pc' := 27) (lv' := [(0, .int a0)]) (st' := [.int (2 : Int32)]) (u' := (xU u)) [(.iconst 2, (0, 0, 0), 2, 0)] (by decide +kernel) rfl ?_
        refine xm_goto (pc := 27) (off := 35) (tgt := 62) (by decide +kernel) (by decide) ?_
        refine xm_wk [] (lv' := []) rfl ?_
        exact go_X4_kindOfLetter_L62 u (2 : Int32)
    · refine xm_blk0 (pc' := 17) (lv' := [(0, .int a0)]) (st' := [.int (1 : Int32)]) (u' := (xU u)) [(.iconst 1, (0, 0, 0), 1, 0)] (by decide +kernel) rfl ?_
      refine xm_goto (pc := 17) (off := 45) (tgt := 62) (by decide +kernel) (by decide) ?_
      refine xm_wk [] (lv' := []) rfl ?_
      exact go_X4_kindOfLetter_L62 u (1 : Int32)
  · refine xm_blk0 (pc' := 7) (lv' := [(0, .int a0)]) (st' := [.int (0 : Int32)]) (u' := (xU u)) [(.iconst 0, (0, 0, 0), 0, 0)] (by decide +kernel) rfl ?_
    refine xm_goto (pc := 7) (off := 55) (tgt := 62) (by decide +kernel) (by decide) ?_
    refine xm_wk [] (lv' := []) rfl ?_
    exact go_X4_kindOfLetter_L62 u (0 : Int32)
theorem ev_X4_kindOfLetter (a0 : Int32) (u : xN) : ∀ r, f_X4_kindOfLetter a0 = some r → xEm md_X4_kindOfLetter yX4_kindOfLetter [.int a0] (xU u) (some (.int r), (xU u)) := xm_met (res := (rsI (xU u))) (as := [.int a0]) (go_X4_kindOfLetter a0 u) (by decide) rfl (Nat.le_of_ble_eq_true rfl)
theorem mw_X4_figure : xMv yX4_figure cX4_figure 3 (some .int) 2 := xMv_of (p1 := 983) (p2 := 982) (p3 := 97) (p4 := 49) (by decide +kernel)
/-! NeitherBareModel.figure(II)I (39, None, None) -/
abbrev md_X4_figure : xMd := (cX4_figure, RX4, 3, some .int, 2)
def f_X4_figure_L41 (u : xN) : Option (Int32 × xN) := some ((-9 : Int32), u)
set_option maxRecDepth 20000 in
theorem go_X4_figure_L41 (u : xN) : xGm md_X4_figure rsM (f_X4_figure_L41 u) 41 [] [] (xU u) := by
  unfold f_X4_figure_L41
  refine xm_blk0 (pc' := 43) (lv' := []) (st' := [.int (-9 : Int32)]) (u' := (xU u)) [(.bipush (-9), (0, 0, 0), -9, 0)] (by decide +kernel) rfl ?_
  exact xm_iret (pc := 43) (by decide +kernel) rfl rfl
def f_X4_figure (a1 : Int32) (a2 : Int32) (u : xN) : Option (Int32 × xN) := if (u.1 39 17) = (u.1 39 18) then f_X4_figure_L41 u else Option.bind (f_X4_here u) (fun r12 => Option.bind (f_X4_in (Int32.toInt64 r12) (48 : Int64) (Int32.toInt64 ((48 : Int32) + a1))) (fun r24 => if r24 = (0 : Int32) then f_X4_figure_L41 u else Option.bind (f_X4_here u) (fun r31 => if (r31 - (48 : Int32)) = a2 then f_X4_figure_L41 u else gdl [inb ((((mI u 39 17 ((u.1 39 17) + (1 : Int32))).1 39 16) + ((mI u 39 17 ((u.1 39 17) + (1 : Int32))).1 39 17)) - (1 : Int32)) 320] (some ((((mI u 39 17 ((u.1 39 17) + (1 : Int32))).1 48 (Int32.toNatClampNeg ((((mI u 39 17 ((u.1 39 17) + (1 : Int32))).1 39 16) + ((mI u 39 17 ((u.1 39 17) + (1 : Int32))).1 39 17)) - (1 : Int32)))) - (48 : Int32)), mI u 39 17 ((u.1 39 17) + (1 : Int32)))))))
set_option maxRecDepth 20000 in
theorem go_X4_figure (a1 : Int32) (a2 : Int32) (u : xN) : xGm md_X4_figure rsM (f_X4_figure a1 a2 u) 0 [(0, .ref 39), (1, .int a1), (2, .int a2)] [] (xU u) := by
  unfold f_X4_figure
  refine xm_blk0 (pc' := 8) (lv' := [(0, .ref 39), (1, .int a1), (2, .int a2)]) (st' := [.int (u.1 39 18), .int (u.1 39 17)]) (u' := (xU u)) [(.aload_n 0, (0, 0, 0), 0, 0), (.getfield 107, (4, 17, 837), 0, 0), (.aload_n 0, (0, 0, 0), 0, 0), (.getfield 110, (4, 18, 838), 0, 0)] (by decide +kernel) rfl ?_
  refine xm_icmp_eq (pc := 8) (off := 33) (tgt := 41) (by decide +kernel) (by decide) ?_ ?_
  · refine xm_wk [] (lv' := []) rfl ?_
    exact go_X4_figure_L41 u
  · refine xm_blk0 (pc' := 12) (lv' := [(0, .ref 39), (1, .int a1), (2, .int a2)]) (st' := [.ref 39]) (u' := (xU u)) [(.aload_n 0, (0, 0, 0), 0, 0)] (by decide +kernel) rfl ?_
    refine xm_Vi (pc := 12) (mz := md_X4_here) (idx := 113) (p1 := 972) (a := 39) (as := []) (st := []) (ev_X4_here u) mw_X4_here (by decide +kernel) (by decide +kernel) (by decide) rfl rfl (by decide) rfl (Nat.le_of_ble_eq_true rfl) (fun r12 => ?_)
    refine xm_blk0 (pc' := 24) (lv' := [(0, .ref 39), (1, .int a1), (2, .int a2)]) (st' := [.long (Int32.toInt64 ((48 : Int32) + a1)), .long (48 : Int64), .long (Int32.toInt64 r12)]) (u' := (xU u)) [(.i2l, (0, 0, 0), 0, 0), (.ldc2_w 117, (0, 0, 984), 0, 48), (.bipush 48, (0, 0, 0), 48, 0), (.iload_n 1, (0, 0, 0), 0, 0), (.iadd, (0, 0, 0), 0, 0), (.i2l, (0, 0, 0), 0, 0)] (by decide +kernel) rfl ?_
    refine xm_Si (pc := 24) (mz := md_X4_in) (idx := 72) (p1 := 905) (as := [.long (Int32.toInt64 r12), .long (48 : Int64), .long (Int32.toInt64 ((48 : Int32) + a1))]) (st := []) (ev_X4_in (Int32.toInt64 r12) (48 : Int64) (Int32.toInt64 ((48 : Int32) + a1)) u) mw_X4_in (by decide +kernel) (by decide +kernel) (by decide) rfl (Nat.le_of_ble_eq_true rfl) (fun r24 => ?_)
    refine xm_if_eq (pc := 27) (off := 14) (tgt := 41) (by decide +kernel) (by decide) ?_ ?_
    · refine xm_wk [] (lv' := []) rfl ?_
      exact go_X4_figure_L41 u
    · refine xm_blk0 (pc' := 31) (lv' := [(0, .ref 39), (1, .int a1), (2, .int a2)]) (st' := [.ref 39]) (u' := (xU u)) [(.aload_n 0, (0, 0, 0), 0, 0)] (by decide +kernel) rfl ?_
      refine xm_Vi (pc := 31) (mz := md_X4_here) (idx := 113) (p1 := 972) (a := 39) (as := []) (st := []) (ev_X4_here u) mw_X4_here (by decide +kernel) (by decide +kernel) (by decide) rfl rfl (by decide) rfl (Nat.le_of_ble_eq_true rfl) (fun r31 => ?_)
      refine xm_blk0 (pc' := 38) (lv' := [(0, .ref 39), (1, .int a1), (2, .int a2)]) (st' := [.int a2, .int (r31 - (48 : Int32))]) (u' := (xU u)) [(.bipush 48, (0, 0, 0), 48, 0), (.isub, (0, 0, 0), 0, 0), (.iload_n 2, (0, 0, 0), 0, 0)] (by decide +kernel) rfl ?_
      refine xm_icmp_ne (pc := 38) (off := 6) (tgt := 44) (by decide +kernel) (by decide) ?_ ?_
      · refine xm_blk (bs := [inb ((((mI u 39 17 ((u.1 39 17) + (1 : Int32))).1 39 16) + ((mI u 39 17 ((u.1 39 17) + (1 : Int32))).1 39 17)) - (1 : Int32)) 320]) (pc' := 73) (lv' := [(0, .ref 39), (1, .int a1), (2, .int a2)]) (st' := [.int (((mI u 39 17 ((u.1 39 17) + (1 : Int32))).1 48 (Int32.toNatClampNeg ((((mI u 39 17 ((u.1 39 17) + (1 : Int32))).1 39 16) + ((mI u 39 17 ((u.1 39 17) + (1 : Int32))).1 39 17)) - (1 : Int32)))) - (48 : Int32))]) (u' := (xU (mI u 39 17 ((u.1 39 17) + (1 : Int32))))) [(.aload_n 0, (0, 0, 0), 0, 0), (.dup, (0, 0, 0), 0, 0), (.getfield 107, (4, 17, 837), 0, 0), (.iconst 1, (0, 0, 0), 1, 0), (.iadd, (0, 0, 0), 0, 0), (.putfield 107, (4, 17, 837), 0, 0), (.aload_n 0, (0, 0, 0), 0, 0), (.getfield 34, (4, 10, 830), 0, 0), (.aload_n 0, (0, 0, 0), 0, 0), (.getfield 104, (4, 16, 836), 0, 0), (.aload_n 0, (0, 0, 0), 0, 0), (.getfield 107, (4, 17, 837), 0, 0), (.iadd, (0, 0, 0), 0, 0), (.iconst 1, (0, 0, 0), 1, 0), (.isub, (0, 0, 0), 0, 0), (.iaload, (0, 0, 0), 0, 0), (.bipush 48, (0, 0, 0), 48, 0), (.isub, (0, 0, 0), 0, 0)] (by decide +kernel) rfl ?_
        exact xm_iret (pc := 73) (by decide +kernel) rfl rfl
      · refine xm_wk [] (lv' := []) rfl ?_
        exact go_X4_figure_L41 u
theorem ev_X4_figure (a1 : Int32) (a2 : Int32) (u : xN) : ∀ r, f_X4_figure a1 a2 u = some r → xEm md_X4_figure yX4_figure [.ref 39, .int a1, .int a2] (xU u) (some (.int r.1), xU r.2) := xm_met (res := rsM) (as := [.ref 39, .int a1, .int a2]) (go_X4_figure a1 a2 u) (by decide) rfl (Nat.le_of_ble_eq_true rfl)
theorem mw_X4_isOfTwo : xMs yX4_isOfTwo cX4_isOfTwo 1 (some .boolean) 1 := xMs_of (p1 := 994) (p2 := 993) (p3 := 97) (by decide +kernel)
/-! NeitherBareModel.isOfTwo(I)Z  -/
abbrev md_X4_isOfTwo : xMd := (cX4_isOfTwo, RX4, 1, some .boolean, 1)
def f_X4_isOfTwo_L15 (t0 : Int32) : Option Int32 := gdl [isb t0] (some t0)
set_option maxRecDepth 20000 in
theorem go_X4_isOfTwo_L15 (u : xN) (t0 : Int32) : xGm md_X4_isOfTwo (rsI (xU u)) (f_X4_isOfTwo_L15 t0) 15 [] [.int t0] (xU u) := by
  unfold f_X4_isOfTwo_L15
  exact xm_zret (pc := 15) (by decide +kernel) rfl rfl
def f_X4_isOfTwo_L10  : Option Int32 := f_X4_isOfTwo_L15 (1 : Int32)
set_option maxRecDepth 20000 in
theorem go_X4_isOfTwo_L10 (u : xN) : xGm md_X4_isOfTwo (rsI (xU u)) (f_X4_isOfTwo_L10) 10 [] [] (xU u) := by
  unfold f_X4_isOfTwo_L10
  refine xm_blk0 (pc' := 11) (lv' := []) (st' := [.int (1 : Int32)]) (u' := (xU u)) [(.iconst 1, (0, 0, 0), 1, 0)] (by decide +kernel) rfl ?_
  refine xm_goto (pc := 11) (off := 4) (tgt := 15) (by decide +kernel) (by decide) ?_
  exact go_X4_isOfTwo_L15 u (1 : Int32)
def f_X4_isOfTwo (a0 : Int32) : Option Int32 := if a0 = (2 : Int32) then f_X4_isOfTwo_L10 else if a0 = (5 : Int32) then f_X4_isOfTwo_L10 else f_X4_isOfTwo_L15 (0 : Int32)
set_option maxRecDepth 20000 in
theorem go_X4_isOfTwo (a0 : Int32) (u : xN) : xGm md_X4_isOfTwo (rsI (xU u)) (f_X4_isOfTwo a0) 0 [(0, .int a0)] [] (xU u) := by
  unfold f_X4_isOfTwo
  refine xm_blk0 (pc' := 2) (lv' := [(0, .int a0)]) (st' := [.int (2 : Int32), .int a0]) (u' := (xU u)) [(.iload_n 0, (0, 0, 0), 0, 0), (.iconst 2, (0, 0, 0), 2, 0)] (by decide +kernel) rfl ?_
  refine xm_icmp_eq (pc := 2) (off := 8) (tgt := 10) (by decide +kernel) (by decide) ?_ ?_
  · refine xm_wk [] (lv' := []) rfl ?_
    exact go_X4_isOfTwo_L10 u
  · refine xm_blk0 (pc' := 7) (lv' := [(0, .int a0)]) (st' := [.int (5 : Int32), .int a0]) (u' := (xU u)) [(.iload_n 0, (0, 0, 0), 0, 0), (.iconst 5, (0, 0, 0), 5, 0)] (by decide +kernel) rfl ?_
    refine xm_icmp_ne (pc := 7) (off := 7) (tgt := 14) (by decide +kernel) (by decide) ?_ ?_
    · refine xm_blk0 (pc' := 15) (lv' := [(0, .int a0)]) (st' := [.int (0 : Int32)]) (u' := (xU u)) [(.iconst 0, (0, 0, 0), 0, 0)] (by decide +kernel) rfl ?_
      refine xm_wk [] (lv' := []) rfl ?_
      exact go_X4_isOfTwo_L15 u (0 : Int32)
    · refine xm_wk [] (lv' := []) rfl ?_
      exact go_X4_isOfTwo_L10 u
theorem ev_X4_isOfTwo (a0 : Int32) (u : xN) : ∀ r, f_X4_isOfTwo a0 = some r → xEm md_X4_isOfTwo yX4_isOfTwo [.int a0] (xU u) (some (.int r), (xU u)) := xm_met (res := (rsI (xU u))) (as := [.int a0]) (go_X4_isOfTwo a0 u) (by decide) rfl (Nat.le_of_ble_eq_true rfl)
theorem mw_X4_readsClause : xMv yX4_readsClause cX4_readsClause 4 (some .boolean) 0 := xMv_of (p1 := 988) (p2 := 987) (p3 := 97) (p4 := 50) (by decide +kernel)
/-! NeitherBareModel.readsClause()Z (39,) -/
abbrev md_X4_readsClause : xMd := (cX4_readsClause, RX4, 4, some .boolean, 3)
def f_X4_readsClause_L30 (u : xN) : Option (Int32 × xN) := some ((0 : Int32), u)
set_option maxRecDepth 20000 in
theorem go_X4_readsClause_L30 (u : xN) : xGm md_X4_readsClause rsM (f_X4_readsClause_L30 u) 30 [] [] (xU u) := by
  unfold f_X4_readsClause_L30
  refine xm_blk0 (pc' := 31) (lv' := []) (st' := [.int (0 : Int32)]) (u' := (xU u)) [(.iconst 0, (0, 0, 0), 0, 0)] (by decide +kernel) rfl ?_
  exact xm_zret0 (pc := 31) (by decide +kernel) rfl (by decide) rfl
def f_X4_readsClause_L92 (v1 : Int32) (v2 : Int32) (v3 : Int32) (u : xN) : Option (Int32 × xN) := gdl [inb ((3 : Int32) * (u.1 39 22)) 24, inb (((3 : Int32) * ((mI u 51 (Int32.toNatClampNeg ((3 : Int32) * (u.1 39 22))) v1).1 39 22)) + (1 : Int32)) 24, inb (((3 : Int32) * ((mI (mI u 51 (Int32.toNatClampNeg ((3 : Int32) * (u.1 39 22))) v1) 51 (Int32.toNatClampNeg (((3 : Int32) * ((mI u 51 (Int32.toNatClampNeg ((3 : Int32) * (u.1 39 22))) v1).1 39 22)) + (1 : Int32))) v2).1 39 22)) + (2 : Int32)) 24] (some ((1 : Int32), mI (mI (mI (mI u 51 (Int32.toNatClampNeg ((3 : Int32) * (u.1 39 22))) v1) 51 (Int32.toNatClampNeg (((3 : Int32) * ((mI u 51 (Int32.toNatClampNeg ((3 : Int32) * (u.1 39 22))) v1).1 39 22)) + (1 : Int32))) v2) 51 (Int32.toNatClampNeg (((3 : Int32) * ((mI (mI u 51 (Int32.toNatClampNeg ((3 : Int32) * (u.1 39 22))) v1) 51 (Int32.toNatClampNeg (((3 : Int32) * ((mI u 51 (Int32.toNatClampNeg ((3 : Int32) * (u.1 39 22))) v1).1 39 22)) + (1 : Int32))) v2).1 39 22)) + (2 : Int32))) v3) 39 22 (((mI (mI (mI u 51 (Int32.toNatClampNeg ((3 : Int32) * (u.1 39 22))) v1) 51 (Int32.toNatClampNeg (((3 : Int32) * ((mI u 51 (Int32.toNatClampNeg ((3 : Int32) * (u.1 39 22))) v1).1 39 22)) + (1 : Int32))) v2) 51 (Int32.toNatClampNeg (((3 : Int32) * ((mI (mI u 51 (Int32.toNatClampNeg ((3 : Int32) * (u.1 39 22))) v1) 51 (Int32.toNatClampNeg (((3 : Int32) * ((mI u 51 (Int32.toNatClampNeg ((3 : Int32) * (u.1 39 22))) v1).1 39 22)) + (1 : Int32))) v2).1 39 22)) + (2 : Int32))) v3).1 39 22) + (1 : Int32))))
set_option maxRecDepth 20000 in
theorem go_X4_readsClause_L92 (v1 : Int32) (v2 : Int32) (v3 : Int32) (u : xN) : xGm md_X4_readsClause rsM (f_X4_readsClause_L92 v1 v2 v3 u) 92 [(0, .ref 39), (1, .int v1), (2, .int v2), (3, .int v3)] [] (xU u) := by
  unfold f_X4_readsClause_L92
  refine xm_blk (bs := [inb ((3 : Int32) * (u.1 39 22)) 24, inb (((3 : Int32) * ((mI u 51 (Int32.toNatClampNeg ((3 : Int32) * (u.1 39 22))) v1).1 39 22)) + (1 : Int32)) 24, inb (((3 : Int32) * ((mI (mI u 51 (Int32.toNatClampNeg ((3 : Int32) * (u.1 39 22))) v1) 51 (Int32.toNatClampNeg (((3 : Int32) * ((mI u 51 (Int32.toNatClampNeg ((3 : Int32) * (u.1 39 22))) v1).1 39 22)) + (1 : Int32))) v2).1 39 22)) + (2 : Int32)) 24]) (pc' := 143) (lv' := [(0, .ref 39), (1, .int v1), (2, .int v2), (3, .int v3)]) (st' := [.int (1 : Int32)]) (u' := (xU (mI (mI (mI (mI u 51 (Int32.toNatClampNeg ((3 : Int32) * (u.1 39 22))) v1) 51 (Int32.toNatClampNeg (((3 : Int32) * ((mI u 51 (Int32.toNatClampNeg ((3 : Int32) * (u.1 39 22))) v1).1 39 22)) + (1 : Int32))) v2) 51 (Int32.toNatClampNeg (((3 : Int32) * ((mI (mI u 51 (Int32.toNatClampNeg ((3 : Int32) * (u.1 39 22))) v1) 51 (Int32.toNatClampNeg (((3 : Int32) * ((mI u 51 (Int32.toNatClampNeg ((3 : Int32) * (u.1 39 22))) v1).1 39 22)) + (1 : Int32))) v2).1 39 22)) + (2 : Int32))) v3) 39 22 (((mI (mI (mI u 51 (Int32.toNatClampNeg ((3 : Int32) * (u.1 39 22))) v1) 51 (Int32.toNatClampNeg (((3 : Int32) * ((mI u 51 (Int32.toNatClampNeg ((3 : Int32) * (u.1 39 22))) v1).1 39 22)) + (1 : Int32))) v2) 51 (Int32.toNatClampNeg (((3 : Int32) * ((mI (mI u 51 (Int32.toNatClampNeg ((3 : Int32) * (u.1 39 22))) v1) 51 (Int32.toNatClampNeg (((3 : Int32) * ((mI u 51 (Int32.toNatClampNeg ((3 : Int32) * (u.1 39 22))) v1).1 39 22)) + (1 : Int32))) v2).1 39 22)) + (2 : Int32))) v3).1 39 22) + (1 : Int32))))) [(.aload_n 0, (0, 0, 0), 0, 0), (.getfield 47, (4, 21, 841), 0, 0), (.iconst 3, (0, 0, 0), 3, 0), (.aload_n 0, (0, 0, 0), 0, 0), (.getfield 122, (4, 22, 842), 0, 0), (.imul, (0, 0, 0), 0, 0), (.iload_n 1, (0, 0, 0), 0, 0), (.iastore, (0, 0, 0), 0, 0), (.aload_n 0, (0, 0, 0), 0, 0), (.getfield 47, (4, 21, 841), 0, 0), (.iconst 3, (0, 0, 0), 3, 0), (.aload_n 0, (0, 0, 0), 0, 0), (.getfield 122, (4, 22, 842), 0, 0), (.imul, (0, 0, 0), 0, 0), (.iconst 1, (0, 0, 0), 1, 0), (.iadd, (0, 0, 0), 0, 0), (.iload_n 2, (0, 0, 0), 0, 0), (.iastore, (0, 0, 0), 0, 0), (.aload_n 0, (0, 0, 0), 0, 0), (.getfield 47, (4, 21, 841), 0, 0), (.iconst 3, (0, 0, 0), 3, 0), (.aload_n 0, (0, 0, 0), 0, 0), (.getfield 122, (4, 22, 842), 0, 0), (.imul, (0, 0, 0), 0, 0), (.iconst 2, (0, 0, 0), 2, 0), (.iadd, (0, 0, 0), 0, 0), (.iload_n 3, (0, 0, 0), 0, 0), (.iastore, (0, 0, 0), 0, 0), (.aload_n 0, (0, 0, 0), 0, 0), (.dup, (0, 0, 0), 0, 0), (.getfield 122, (4, 22, 842), 0, 0), (.iconst 1, (0, 0, 0), 1, 0), (.iadd, (0, 0, 0), 0, 0), (.putfield 122, (4, 22, 842), 0, 0), (.iconst 1, (0, 0, 0), 1, 0)] (by decide +kernel) rfl ?_
  exact xm_zret0 (pc := 143) (by decide +kernel) rfl (by decide) rfl
def f_X4_readsClause_L76 (v1 : Int32) (v2 : Int32) (t0 : Int32) (u : xN) : Option (Int32 × xN) := Option.bind (f_X4_isOfTwo v1) (fun r78 => if r78 = (0 : Int32) then f_X4_readsClause_L92 v1 v2 t0 u else if t0 = (-9 : Int32) then some ((0 : Int32), u) else f_X4_readsClause_L92 v1 v2 t0 u)
set_option maxRecDepth 20000 in
theorem go_X4_readsClause_L76 (v1 : Int32) (v2 : Int32) (t0 : Int32) (u : xN) : xGm md_X4_readsClause rsM (f_X4_readsClause_L76 v1 v2 t0 u) 76 [(0, .ref 39), (1, .int v1), (2, .int v2)] [.int t0] (xU u) := by
  unfold f_X4_readsClause_L76
  refine xm_blk0 (pc' := 78) (lv' := [(0, .ref 39), (1, .int v1), (2, .int v2), (3, .int t0)]) (st' := [.int v1]) (u' := (xU u)) [(.istore_n 3, (0, 0, 0), 0, 0), (.iload_n 1, (0, 0, 0), 0, 0)] (by decide +kernel) rfl ?_
  refine xm_Si (pc := 78) (mz := md_X4_isOfTwo) (idx := 131) (p1 := 992) (as := [.int v1]) (st := []) (ev_X4_isOfTwo v1 u) mw_X4_isOfTwo (by decide +kernel) (by decide +kernel) (by decide) rfl (Nat.le_of_ble_eq_true rfl) (fun r78 => ?_)
  refine xm_if_eq (pc := 81) (off := 11) (tgt := 92) (by decide +kernel) (by decide) ?_ ?_
  · exact go_X4_readsClause_L92 v1 v2 t0 u
  · refine xm_blk0 (pc' := 87) (lv' := [(0, .ref 39), (1, .int v1), (2, .int v2), (3, .int t0)]) (st' := [.int (-9 : Int32), .int t0]) (u' := (xU u)) [(.iload_n 3, (0, 0, 0), 0, 0), (.bipush (-9), (0, 0, 0), -9, 0)] (by decide +kernel) rfl ?_
    refine xm_icmp_ne (pc := 87) (off := 5) (tgt := 92) (by decide +kernel) (by decide) ?_ ?_
    · exact go_X4_readsClause_L92 v1 v2 t0 u
    · refine xm_blk0 (pc' := 91) (lv' := [(0, .ref 39), (1, .int v1), (2, .int v2), (3, .int t0)]) (st' := [.int (0 : Int32)]) (u' := (xU u)) [(.iconst 0, (0, 0, 0), 0, 0)] (by decide +kernel) rfl ?_
      exact xm_zret0 (pc := 91) (by decide +kernel) rfl (by decide) rfl
def f_X4_readsClause (u : xN) : Option (Int32 × xN) := Option.bind (f_X4_here u) (fun r1 => Option.bind (f_X4_kindOfLetter r1) (fun r4 => if r4 = (-9 : Int32) then f_X4_readsClause_L30 u else if (u.1 39 20) = (0 : Int32) then f_X4_readsClause_L30 u else if (u.1 39 22) = (8 : Int32) then f_X4_readsClause_L30 u else Option.bind (f_X4_figure (3 : Int32) (-9 : Int32) (mI u 39 17 ((u.1 39 17) + (1 : Int32)))) (fun r46 => if r46.1 = (-9 : Int32) then some ((0 : Int32), r46.2) else Option.bind (f_X4_isOfTwo r4) (fun r59 => if r59 = (0 : Int32) then f_X4_readsClause_L76 r4 r46.1 (-9 : Int32) r46.2 else Option.bind (f_X4_figure (3 : Int32) r46.1 r46.2) (fun r68 => f_X4_readsClause_L76 r4 r46.1 r68.1 r68.2)))))
set_option maxRecDepth 20000 in
theorem go_X4_readsClause (u : xN) : xGm md_X4_readsClause rsM (f_X4_readsClause u) 0 [(0, .ref 39)] [] (xU u) := by
  unfold f_X4_readsClause
  refine xm_blk0 (pc' := 1) (lv' := [(0, .ref 39)]) (st' := [.ref 39]) (u' := (xU u)) [(.aload_n 0, (0, 0, 0), 0, 0)] (by decide +kernel) rfl ?_
  refine xm_Vi (pc := 1) (mz := md_X4_here) (idx := 113) (p1 := 972) (a := 39) (as := []) (st := []) (ev_X4_here u) mw_X4_here (by decide +kernel) (by decide +kernel) (by decide) rfl rfl (by decide) rfl (Nat.le_of_ble_eq_true rfl) (fun r1 => ?_)
  refine xm_Si (pc := 4) (mz := md_X4_kindOfLetter) (idx := 128) (p1 := 989) (as := [.int r1]) (st := []) (ev_X4_kindOfLetter r1 u) mw_X4_kindOfLetter (by decide +kernel) (by decide +kernel) (by decide) rfl (Nat.le_of_ble_eq_true rfl) (fun r4 => ?_)
  refine xm_blk0 (pc' := 11) (lv' := [(0, .ref 39), (1, .int r4)]) (st' := [.int (-9 : Int32), .int r4]) (u' := (xU u)) [(.istore_n 1, (0, 0, 0), 0, 0), (.iload_n 1, (0, 0, 0), 0, 0), (.bipush (-9), (0, 0, 0), -9, 0)] (by decide +kernel) rfl ?_
  refine xm_icmp_eq (pc := 11) (off := 19) (tgt := 30) (by decide +kernel) (by decide) ?_ ?_
  · refine xm_wk [] (lv' := []) rfl ?_
    exact go_X4_readsClause_L30 u
  · refine xm_blk0 (pc' := 18) (lv' := [(0, .ref 39), (1, .int r4)]) (st' := [.int (u.1 39 20)]) (u' := (xU u)) [(.aload_n 0, (0, 0, 0), 0, 0), (.getfield 119, (4, 20, 840), 0, 0)] (by decide +kernel) rfl ?_
    refine xm_if_eq (pc := 18) (off := 12) (tgt := 30) (by decide +kernel) (by decide) ?_ ?_
    · refine xm_wk [] (lv' := []) rfl ?_
      exact go_X4_readsClause_L30 u
    · refine xm_blk0 (pc' := 27) (lv' := [(0, .ref 39), (1, .int r4)]) (st' := [.int (8 : Int32), .int (u.1 39 22)]) (u' := (xU u)) [(.aload_n 0, (0, 0, 0), 0, 0), (.getfield 122, (4, 22, 842), 0, 0), (.bipush 8, (0, 0, 0), 8, 0)] (by decide +kernel) rfl ?_
      refine xm_icmp_ne (pc := 27) (off := 5) (tgt := 32) (by decide +kernel) (by decide) ?_ ?_
      · refine xm_blk0 (pc' := 46) (lv' := [(0, .ref 39), (1, .int r4)]) (st' := [.int (-9 : Int32), .int (3 : Int32), .ref 39]) (u' := (xU (mI u 39 17 ((u.1 39 17) + (1 : Int32))))) [(.aload_n 0, (0, 0, 0), 0, 0), (.dup, (0, 0, 0), 0, 0), (.getfield 107, (4, 17, 837), 0, 0), (.iconst 1, (0, 0, 0), 1, 0), (.iadd, (0, 0, 0), 0, 0), (.putfield 107, (4, 17, 837), 0, 0), (.aload_n 0, (0, 0, 0), 0, 0), (.iconst 3, (0, 0, 0), 3, 0), (.bipush (-9), (0, 0, 0), -9, 0)] (by decide +kernel) rfl ?_
        refine xm_Vm (pc := 46) (mz := md_X4_figure) (idx := 125) (p1 := 980) (a := 39) (as := [.int (3 : Int32), .int (-9 : Int32)]) (st := []) (ev_X4_figure (3 : Int32) (-9 : Int32) (mI u 39 17 ((u.1 39 17) + (1 : Int32)))) mw_X4_figure (by decide +kernel) (by decide +kernel) (by decide) rfl rfl (by decide) rfl (Nat.le_of_ble_eq_true rfl) (fun r46 => ?_)
        refine xm_blk0 (pc' := 53) (lv' := [(0, .ref 39), (1, .int r4), (2, .int r46.1)]) (st' := [.int (-9 : Int32), .int r46.1]) (u' := (xU r46.2)) [(.istore_n 2, (0, 0, 0), 0, 0), (.iload_n 2, (0, 0, 0), 0, 0), (.bipush (-9), (0, 0, 0), -9, 0)] (by decide +kernel) rfl ?_
        refine xm_icmp_ne (pc := 53) (off := 5) (tgt := 58) (by decide +kernel) (by decide) ?_ ?_
        · refine xm_blk0 (pc' := 59) (lv' := [(0, .ref 39), (1, .int r4), (2, .int r46.1)]) (st' := [.int r4]) (u' := (xU r46.2)) [(.iload_n 1, (0, 0, 0), 0, 0)] (by decide +kernel) rfl ?_
          refine xm_Si (pc := 59) (mz := md_X4_isOfTwo) (idx := 131) (p1 := 992) (as := [.int r4]) (st := []) (ev_X4_isOfTwo r4 r46.2) mw_X4_isOfTwo (by decide +kernel) (by decide +kernel) (by decide) rfl (Nat.le_of_ble_eq_true rfl) (fun r59 => ?_)
          refine xm_if_eq (pc := 62) (off := 12) (tgt := 74) (by decide +kernel) (by decide) ?_ ?_
          · refine xm_blk0 (pc' := 76) (lv' := [(0, .ref 39), (1, .int r4), (2, .int r46.1)]) (st' := [.int (-9 : Int32)]) (u' := (xU r46.2)) [(.bipush (-9), (0, 0, 0), -9, 0)] (by decide +kernel) rfl ?_
            exact go_X4_readsClause_L76 r4 r46.1 (-9 : Int32) r46.2
          · refine xm_blk0 (pc' := 68) (lv' := [(0, .ref 39), (1, .int r4), (2, .int r46.1)]) (st' := [.int r46.1, .int (3 : Int32), .ref 39]) (u' := (xU r46.2)) [(.aload_n 0, (0, 0, 0), 0, 0), (.iconst 3, (0, 0, 0), 3, 0), (.iload_n 2, (0, 0, 0), 0, 0)] (by decide +kernel) rfl ?_
            refine xm_Vm (pc := 68) (mz := md_X4_figure) (idx := 125) (p1 := 980) (a := 39) (as := [.int (3 : Int32), .int r46.1]) (st := []) (ev_X4_figure (3 : Int32) r46.1 r46.2) mw_X4_figure (by decide +kernel) (by decide +kernel) (by decide) rfl rfl (by decide) rfl (Nat.le_of_ble_eq_true rfl) (fun r68 => ?_)
            refine xm_goto (pc := 71) (off := 5) (tgt := 76) (by decide +kernel) (by decide) ?_
            exact go_X4_readsClause_L76 r4 r46.1 r68.1 r68.2
        · refine xm_blk0 (pc' := 57) (lv' := [(0, .ref 39), (1, .int r4), (2, .int r46.1)]) (st' := [.int (0 : Int32)]) (u' := (xU r46.2)) [(.iconst 0, (0, 0, 0), 0, 0)] (by decide +kernel) rfl ?_
          exact xm_zret0 (pc := 57) (by decide +kernel) rfl (by decide) rfl
      · refine xm_wk [] (lv' := []) rfl ?_
        exact go_X4_readsClause_L30 u
theorem ev_X4_readsClause (u : xN) : ∀ r, f_X4_readsClause u = some r → xEm md_X4_readsClause yX4_readsClause [.ref 39] (xU u) (some (.int r.1), xU r.2) := xm_met (res := rsM) (as := [.ref 39]) (go_X4_readsClause u) (by decide) rfl (Nat.le_of_ble_eq_true rfl)
theorem mw_X4_readsThing : xMv yX4_readsThing cX4_readsThing 3 (some .boolean) 0 := xMv_of (p1 := 979) (p2 := 978) (p3 := 97) (p4 := 48) (by decide +kernel)
/-! NeitherBareModel.readsThing()Z (39,) -/
abbrev md_X4_readsThing : xMd := (cX4_readsThing, RX4, 3, some .boolean, 3)
def f_X4_readsThing_L16 (N : Nat) (u : xN) : Option (Int32 × xN) := some ((0 : Int32), u)
set_option maxRecDepth 20000 in
theorem go_X4_readsThing_L16 (N : Nat) (u : xN) : xGm md_X4_readsThing rsM (f_X4_readsThing_L16 N u) 16 [] [] (xU u) := by
  unfold f_X4_readsThing_L16
  refine xm_blk0 (pc' := 17) (lv' := []) (st' := [.int (0 : Int32)]) (u' := (xU u)) [(.iconst 0, (0, 0, 0), 0, 0)] (by decide +kernel) rfl ?_
  exact xm_zret0 (pc := 17) (by decide +kernel) rfl (by decide) rfl
def f_X4_readsThing_L47 (N : Nat) (rec30 : Int32 → xN → Option (Int32 × xN)) (v1 : Int32) (t0 : Int32) (u : xN) : Option (Int32 × xN) := Option.bind (f_X4_figure t0 (-9 : Int32) u) (fun r49 => if r49.1 = (-9 : Int32) then some ((0 : Int32), r49.2) else gdl [inb (((5 : Int32) * (r49.2.1 39 20)) + v1) 30] (rec30 (v1 + (1 : Int32)) (mI r49.2 50 (Int32.toNatClampNeg (((5 : Int32) * (r49.2.1 39 20)) + v1)) r49.1)))
set_option maxRecDepth 20000 in
theorem go_X4_readsThing_L47 (N : Nat) (rec30 : Int32 → xN → Option (Int32 × xN)) (h30 : ∀ (v1 : Int32) (u : xN), xGm md_X4_readsThing rsM (rec30 v1 u) 30 [(0, .ref 39), (1, .int v1)] [] (xU u)) (v1 : Int32) (t0 : Int32) (u : xN) : xGm md_X4_readsThing rsM (f_X4_readsThing_L47 N rec30 v1 t0 u) 47 [(0, .ref 39), (1, .int v1)] [.int t0, .ref 39] (xU u) := by
  unfold f_X4_readsThing_L47
  refine xm_blk0 (pc' := 49) (lv' := [(0, .ref 39), (1, .int v1)]) (st' := [.int (-9 : Int32), .int t0, .ref 39]) (u' := (xU u)) [(.bipush (-9), (0, 0, 0), -9, 0)] (by decide +kernel) rfl ?_
  refine xm_Vm (pc := 49) (mz := md_X4_figure) (idx := 125) (p1 := 980) (a := 39) (as := [.int t0, .int (-9 : Int32)]) (st := []) (ev_X4_figure t0 (-9 : Int32) u) mw_X4_figure (by decide +kernel) (by decide +kernel) (by decide) rfl rfl (by decide) rfl (Nat.le_of_ble_eq_true rfl) (fun r49 => ?_)
  refine xm_blk0 (pc' := 56) (lv' := [(0, .ref 39), (1, .int v1), (2, .int r49.1)]) (st' := [.int (-9 : Int32), .int r49.1]) (u' := (xU r49.2)) [(.istore_n 2, (0, 0, 0), 0, 0), (.iload_n 2, (0, 0, 0), 0, 0), (.bipush (-9), (0, 0, 0), -9, 0)] (by decide +kernel) rfl ?_
  refine xm_icmp_ne (pc := 56) (off := 5) (tgt := 61) (by decide +kernel) (by decide) ?_ ?_
  · refine xm_blk (bs := [inb (((5 : Int32) * (r49.2.1 39 20)) + v1) 30]) (pc' := 78) (lv' := [(0, .ref 39), (1, .int (v1 + (1 : Int32))), (2, .int r49.1)]) (st' := []) (u' := (xU (mI r49.2 50 (Int32.toNatClampNeg (((5 : Int32) * (r49.2.1 39 20)) + v1)) r49.1))) [(.aload_n 0, (0, 0, 0), 0, 0), (.getfield 44, (4, 19, 839), 0, 0), (.iconst 5, (0, 0, 0), 5, 0), (.aload_n 0, (0, 0, 0), 0, 0), (.getfield 119, (4, 20, 840), 0, 0), (.imul, (0, 0, 0), 0, 0), (.iload_n 1, (0, 0, 0), 0, 0), (.iadd, (0, 0, 0), 0, 0), (.iload_n 2, (0, 0, 0), 0, 0), (.iastore, (0, 0, 0), 0, 0), (.iinc 1 1, (0, 0, 0), 1, 0)] (by decide +kernel) rfl ?_
    refine xm_goto (pc := 78) (off := -48) (tgt := 30) (by decide +kernel) (by decide) ?_
    refine xm_wk [0, 1] (lv' := [(0, .ref 39), (1, .int (v1 + (1 : Int32)))]) rfl ?_
    exact h30 (v1 + (1 : Int32)) (mI r49.2 50 (Int32.toNatClampNeg (((5 : Int32) * (r49.2.1 39 20)) + v1)) r49.1)
  · refine xm_blk0 (pc' := 60) (lv' := [(0, .ref 39), (1, .int v1), (2, .int r49.1)]) (st' := [.int (0 : Int32)]) (u' := (xU r49.2)) [(.iconst 0, (0, 0, 0), 0, 0)] (by decide +kernel) rfl ?_
    exact xm_zret0 (pc := 60) (by decide +kernel) rfl (by decide) rfl
def f_X4_readsThing_L30b (N : Nat) (rec30 : Int32 → xN → Option (Int32 × xN)) (v1 : Int32) (u : xN) : Option (Int32 × xN) := if (5 : Int32) ≤ v1 then some ((1 : Int32), mI u 39 20 ((u.1 39 20) + (1 : Int32))) else if (4 : Int32) ≤ v1 then f_X4_readsThing_L47 N rec30 v1 (9 : Int32) u else f_X4_readsThing_L47 N rec30 v1 (3 : Int32) u
set_option maxRecDepth 20000 in
theorem go_X4_readsThing_L30b (N : Nat) (rec30 : Int32 → xN → Option (Int32 × xN)) (h30 : ∀ (v1 : Int32) (u : xN), xGm md_X4_readsThing rsM (rec30 v1 u) 30 [(0, .ref 39), (1, .int v1)] [] (xU u)) (v1 : Int32) (u : xN) : xGm md_X4_readsThing rsM (f_X4_readsThing_L30b N rec30 v1 u) 30 [(0, .ref 39), (1, .int v1)] [] (xU u) := by
  unfold f_X4_readsThing_L30b
  refine xm_blk0 (pc' := 32) (lv' := [(0, .ref 39), (1, .int v1)]) (st' := [.int (5 : Int32), .int v1]) (u' := (xU u)) [(.iload_n 1, (0, 0, 0), 0, 0), (.iconst 5, (0, 0, 0), 5, 0)] (by decide +kernel) rfl ?_
  refine xm_icmp_ge (pc := 32) (off := 49) (tgt := 81) (by decide +kernel) (by decide) ?_ ?_
  · refine xm_blk0 (pc' := 92) (lv' := [(0, .ref 39), (1, .int v1)]) (st' := [.int (1 : Int32)]) (u' := (xU (mI u 39 20 ((u.1 39 20) + (1 : Int32))))) [(.aload_n 0, (0, 0, 0), 0, 0), (.dup, (0, 0, 0), 0, 0), (.getfield 119, (4, 20, 840), 0, 0), (.iconst 1, (0, 0, 0), 1, 0), (.iadd, (0, 0, 0), 0, 0), (.putfield 119, (4, 20, 840), 0, 0), (.iconst 1, (0, 0, 0), 1, 0)] (by decide +kernel) rfl ?_
    exact xm_zret0 (pc := 92) (by decide +kernel) rfl (by decide) rfl
  · refine xm_blk0 (pc' := 38) (lv' := [(0, .ref 39), (1, .int v1)]) (st' := [.int (4 : Int32), .int v1, .ref 39]) (u' := (xU u)) [(.aload_n 0, (0, 0, 0), 0, 0), (.iload_n 1, (0, 0, 0), 0, 0), (.iconst 4, (0, 0, 0), 4, 0)] (by decide +kernel) rfl ?_
    refine xm_icmp_ge (pc := 38) (off := 7) (tgt := 45) (by decide +kernel) (by decide) ?_ ?_
    · refine xm_blk0 (pc' := 47) (lv' := [(0, .ref 39), (1, .int v1)]) (st' := [.int (9 : Int32), .ref 39]) (u' := (xU u)) [(.bipush 9, (0, 0, 0), 9, 0)] (by decide +kernel) rfl ?_
      exact go_X4_readsThing_L47 N rec30 h30 v1 (9 : Int32) u
    · refine xm_blk0 (pc' := 42) (lv' := [(0, .ref 39), (1, .int v1)]) (st' := [.int (3 : Int32), .ref 39]) (u' := (xU u)) [(.iconst 3, (0, 0, 0), 3, 0)] (by decide +kernel) rfl ?_
      refine xm_goto (pc := 42) (off := 5) (tgt := 47) (by decide +kernel) (by decide) ?_
      exact go_X4_readsThing_L47 N rec30 h30 v1 (3 : Int32) u
def f_X4_readsThing_L30 (N : Nat) : Nat → Int32 → xN → Option (Int32 × xN)
  | 0 => fun _ _ => none
  | n + 1 => fun v1 u => f_X4_readsThing_L30b N (f_X4_readsThing_L30 N n) v1 u
theorem go_X4_readsThing_L30 (N : Nat) : ∀ (n : Nat) (v1 : Int32) (u : xN), xGm md_X4_readsThing rsM (f_X4_readsThing_L30 N n v1 u) 30 [(0, .ref 39), (1, .int v1)] [] (xU u) := by
  intro n
  induction n with
  | zero => intro v1 u; exact xm_none
  | succ n ih => intro v1 u; exact go_X4_readsThing_L30b N _ ih v1 u
def f_X4_readsThing (N : Nat) (u : xN) : Option (Int32 × xN) := if (u.1 39 20) = (6 : Int32) then f_X4_readsThing_L16 N u else if (u.1 39 22) ≤ (0 : Int32) then f_X4_readsThing_L30 N N (0 : Int32) (mI u 39 17 ((u.1 39 17) + (1 : Int32))) else f_X4_readsThing_L16 N u
set_option maxRecDepth 20000 in
theorem go_X4_readsThing (N : Nat) (u : xN) : xGm md_X4_readsThing rsM (f_X4_readsThing N u) 0 [(0, .ref 39)] [] (xU u) := by
  unfold f_X4_readsThing
  refine xm_blk0 (pc' := 6) (lv' := [(0, .ref 39)]) (st' := [.int (6 : Int32), .int (u.1 39 20)]) (u' := (xU u)) [(.aload_n 0, (0, 0, 0), 0, 0), (.getfield 119, (4, 20, 840), 0, 0), (.bipush 6, (0, 0, 0), 6, 0)] (by decide +kernel) rfl ?_
  refine xm_icmp_eq (pc := 6) (off := 10) (tgt := 16) (by decide +kernel) (by decide) ?_ ?_
  · refine xm_wk [] (lv' := []) rfl ?_
    exact go_X4_readsThing_L16 N u
  · refine xm_blk0 (pc' := 13) (lv' := [(0, .ref 39)]) (st' := [.int (u.1 39 22)]) (u' := (xU u)) [(.aload_n 0, (0, 0, 0), 0, 0), (.getfield 122, (4, 22, 842), 0, 0)] (by decide +kernel) rfl ?_
    refine xm_if_le (pc := 13) (off := 5) (tgt := 18) (by decide +kernel) (by decide) ?_ ?_
    · refine xm_blk0 (pc' := 30) (lv' := [(0, .ref 39), (1, .int (0 : Int32))]) (st' := []) (u' := (xU (mI u 39 17 ((u.1 39 17) + (1 : Int32))))) [(.aload_n 0, (0, 0, 0), 0, 0), (.dup, (0, 0, 0), 0, 0), (.getfield 107, (4, 17, 837), 0, 0), (.iconst 1, (0, 0, 0), 1, 0), (.iadd, (0, 0, 0), 0, 0), (.putfield 107, (4, 17, 837), 0, 0), (.iconst 0, (0, 0, 0), 0, 0), (.istore_n 1, (0, 0, 0), 0, 0)] (by decide +kernel) rfl ?_
      exact go_X4_readsThing_L30 N N (0 : Int32) (mI u 39 17 ((u.1 39 17) + (1 : Int32)))
    · refine xm_wk [] (lv' := []) rfl ?_
      exact go_X4_readsThing_L16 N u
theorem ev_X4_readsThing (N : Nat) (u : xN) : ∀ r, f_X4_readsThing N u = some r → xEm md_X4_readsThing yX4_readsThing [.ref 39] (xU u) (some (.int r.1), xU r.2) := xm_met (res := rsM) (as := [.ref 39]) (go_X4_readsThing N u) (by decide) rfl (Nat.le_of_ble_eq_true rfl)
theorem mw_X4_faultOf : xMv yX4_faultOf cX4_faultOf 3 (some .int) 1 := xMv_of (p1 := 967) (p2 := 966) (p3 := 97) (p4 := 45) (by decide +kernel)
/-! NeitherBareModel.faultOf(I)I (39, None) -/
abbrev md_X4_faultOf : xMd := (cX4_faultOf, RX4, 3, some .int, 4)
def f_X4_faultOf_L74 (N : Nat) (rec39 : Int32 → xN → Option (Int32 × xN)) (t0 : Int32) (u : xN) : Option (Int32 × xN) := if t0 = (0 : Int32) then rec39 t0 u else Option.bind (f_X4_skip N u) (fun r80 => rec39 t0 r80)
set_option maxRecDepth 20000 in
theorem go_X4_faultOf_L74 (N : Nat) (rec39 : Int32 → xN → Option (Int32 × xN)) (h39 : ∀ (v2 : Int32) (u : xN), xGm md_X4_faultOf rsM (rec39 v2 u) 39 [(0, .ref 39), (2, .int v2)] [] (xU u)) (t0 : Int32) (u : xN) : xGm md_X4_faultOf rsM (f_X4_faultOf_L74 N rec39 t0 u) 74 [(0, .ref 39)] [.int t0] (xU u) := by
  unfold f_X4_faultOf_L74
  refine xm_blk0 (pc' := 76) (lv' := [(0, .ref 39), (2, .int t0)]) (st' := [.int t0]) (u' := (xU u)) [(.istore_n 2, (0, 0, 0), 0, 0), (.iload_n 2, (0, 0, 0), 0, 0)] (by decide +kernel) rfl ?_
  refine xm_if_eq (pc := 76) (off := -37) (tgt := 39) (by decide +kernel) (by decide) ?_ ?_
  · exact h39 t0 u
  · refine xm_blk0 (pc' := 80) (lv' := [(0, .ref 39), (2, .int t0)]) (st' := [.ref 39]) (u' := (xU u)) [(.aload_n 0, (0, 0, 0), 0, 0)] (by decide +kernel) rfl ?_
    refine xm_Vv (pc := 80) (mz := md_X4_skip) (idx := 134) (p1 := 968) (a := 39) (as := []) (st := []) (ev_X4_skip N u) mw_X4_skip (by decide +kernel) (by decide +kernel) (by decide) rfl rfl (by decide) rfl (Nat.le_of_ble_eq_true rfl) (fun r80 => ?_)
    refine xm_goto (pc := 83) (off := -44) (tgt := 39) (by decide +kernel) (by decide) ?_
    exact h39 t0 r80
def f_X4_faultOf_L106 (N : Nat) (t0 : Int32) (u : xN) : Option (Int32 × xN) := some (t0, u)
set_option maxRecDepth 20000 in
theorem go_X4_faultOf_L106 (N : Nat) (t0 : Int32) (u : xN) : xGm md_X4_faultOf rsM (f_X4_faultOf_L106 N t0 u) 106 [] [.int t0] (xU u) := by
  unfold f_X4_faultOf_L106
  exact xm_iret (pc := 106) (by decide +kernel) rfl rfl
def f_X4_faultOf_L102 (N : Nat) (u : xN) : Option (Int32 × xN) := f_X4_faultOf_L106 N (u.1 39 17) u
set_option maxRecDepth 20000 in
theorem go_X4_faultOf_L102 (N : Nat) (u : xN) : xGm md_X4_faultOf rsM (f_X4_faultOf_L102 N u) 102 [(0, .ref 39)] [] (xU u) := by
  unfold f_X4_faultOf_L102
  refine xm_blk0 (pc' := 106) (lv' := [(0, .ref 39)]) (st' := [.int (u.1 39 17)]) (u' := (xU u)) [(.aload_n 0, (0, 0, 0), 0, 0), (.getfield 107, (4, 17, 837), 0, 0)] (by decide +kernel) rfl ?_
  refine xm_wk [] (lv' := []) rfl ?_
  exact go_X4_faultOf_L106 N (u.1 39 17) u
def f_X4_faultOf_L86 (N : Nat) (v2 : Int32) (u : xN) : Option (Int32 × xN) := if v2 = (0 : Int32) then f_X4_faultOf_L102 N u else if (u.1 39 20) ≤ (0 : Int32) then f_X4_faultOf_L102 N u else f_X4_faultOf_L106 N (-9 : Int32) u
set_option maxRecDepth 20000 in
theorem go_X4_faultOf_L86 (N : Nat) (v2 : Int32) (u : xN) : xGm md_X4_faultOf rsM (f_X4_faultOf_L86 N v2 u) 86 [(0, .ref 39), (2, .int v2)] [] (xU u) := by
  unfold f_X4_faultOf_L86
  refine xm_blk0 (pc' := 87) (lv' := [(0, .ref 39), (2, .int v2)]) (st' := [.int v2]) (u' := (xU u)) [(.iload_n 2, (0, 0, 0), 0, 0)] (by decide +kernel) rfl ?_
  refine xm_if_eq (pc := 87) (off := 15) (tgt := 102) (by decide +kernel) (by decide) ?_ ?_
  · refine xm_wk [0] (lv' := [(0, .ref 39)]) rfl ?_
    exact go_X4_faultOf_L102 N u
  · refine xm_blk0 (pc' := 94) (lv' := [(0, .ref 39), (2, .int v2)]) (st' := [.int (u.1 39 20)]) (u' := (xU u)) [(.aload_n 0, (0, 0, 0), 0, 0), (.getfield 119, (4, 20, 840), 0, 0)] (by decide +kernel) rfl ?_
    refine xm_if_le (pc := 94) (off := 8) (tgt := 102) (by decide +kernel) (by decide) ?_ ?_
    · refine xm_wk [0] (lv' := [(0, .ref 39)]) rfl ?_
      exact go_X4_faultOf_L102 N u
    · refine xm_blk0 (pc' := 99) (lv' := [(0, .ref 39), (2, .int v2)]) (st' := [.int (-9 : Int32)]) (u' := (xU u)) [(.bipush (-9), (0, 0, 0), -9, 0)] (by decide +kernel) rfl ?_
      refine xm_goto (pc := 99) (off := 7) (tgt := 106) (by decide +kernel) (by decide) ?_
      refine xm_wk [] (lv' := []) rfl ?_
      exact go_X4_faultOf_L106 N (-9 : Int32) u
def f_X4_faultOf_L39b (N : Nat) (rec39 : Int32 → xN → Option (Int32 × xN)) (v2 : Int32) (u : xN) : Option (Int32 × xN) := if v2 = (0 : Int32) then f_X4_faultOf_L86 N v2 u else if (u.1 39 18) ≤ (u.1 39 17) then f_X4_faultOf_L86 N v2 u else Option.bind (f_X4_here u) (fun r55 => if r55 = (116 : Int32) then Option.bind (f_X4_readsThing N u) (fun r64 => f_X4_faultOf_L74 N rec39 r64.1 r64.2) else Option.bind (f_X4_readsClause u) (fun r71 => f_X4_faultOf_L74 N rec39 r71.1 r71.2))
set_option maxRecDepth 20000 in
theorem go_X4_faultOf_L39b (N : Nat) (rec39 : Int32 → xN → Option (Int32 × xN)) (h39 : ∀ (v2 : Int32) (u : xN), xGm md_X4_faultOf rsM (rec39 v2 u) 39 [(0, .ref 39), (2, .int v2)] [] (xU u)) (v2 : Int32) (u : xN) : xGm md_X4_faultOf rsM (f_X4_faultOf_L39b N rec39 v2 u) 39 [(0, .ref 39), (2, .int v2)] [] (xU u) := by
  unfold f_X4_faultOf_L39b
  refine xm_blk0 (pc' := 40) (lv' := [(0, .ref 39), (2, .int v2)]) (st' := [.int v2]) (u' := (xU u)) [(.iload_n 2, (0, 0, 0), 0, 0)] (by decide +kernel) rfl ?_
  refine xm_if_eq (pc := 40) (off := 46) (tgt := 86) (by decide +kernel) (by decide) ?_ ?_
  · exact go_X4_faultOf_L86 N v2 u
  · refine xm_blk0 (pc' := 51) (lv' := [(0, .ref 39), (2, .int v2)]) (st' := [.int (u.1 39 18), .int (u.1 39 17)]) (u' := (xU u)) [(.aload_n 0, (0, 0, 0), 0, 0), (.getfield 107, (4, 17, 837), 0, 0), (.aload_n 0, (0, 0, 0), 0, 0), (.getfield 110, (4, 18, 838), 0, 0)] (by decide +kernel) rfl ?_
    refine xm_icmp_ge (pc := 51) (off := 35) (tgt := 86) (by decide +kernel) (by decide) ?_ ?_
    · exact go_X4_faultOf_L86 N v2 u
    · refine xm_blk0 (pc' := 55) (lv' := [(0, .ref 39), (2, .int v2)]) (st' := [.ref 39]) (u' := (xU u)) [(.aload_n 0, (0, 0, 0), 0, 0)] (by decide +kernel) rfl ?_
      refine xm_Vi (pc := 55) (mz := md_X4_here) (idx := 113) (p1 := 972) (a := 39) (as := []) (st := []) (ev_X4_here u) mw_X4_here (by decide +kernel) (by decide +kernel) (by decide) rfl rfl (by decide) rfl (Nat.le_of_ble_eq_true rfl) (fun r55 => ?_)
      refine xm_blk0 (pc' := 60) (lv' := [(0, .ref 39), (2, .int v2)]) (st' := [.int (116 : Int32), .int r55]) (u' := (xU u)) [(.bipush 116, (0, 0, 0), 116, 0)] (by decide +kernel) rfl ?_
      refine xm_icmp_ne (pc := 60) (off := 10) (tgt := 70) (by decide +kernel) (by decide) ?_ ?_
      · refine xm_blk0 (pc' := 71) (lv' := [(0, .ref 39), (2, .int v2)]) (st' := [.ref 39]) (u' := (xU u)) [(.aload_n 0, (0, 0, 0), 0, 0)] (by decide +kernel) rfl ?_
        refine xm_Vm (pc := 71) (mz := md_X4_readsClause) (idx := 141) (p1 := 985) (a := 39) (as := []) (st := []) (ev_X4_readsClause u) mw_X4_readsClause (by decide +kernel) (by decide +kernel) (by decide) rfl rfl (by decide) rfl (Nat.le_of_ble_eq_true rfl) (fun r71 => ?_)
        refine xm_wk [0] (lv' := [(0, .ref 39)]) rfl ?_
        exact go_X4_faultOf_L74 N rec39 h39 r71.1 r71.2
      · refine xm_blk0 (pc' := 64) (lv' := [(0, .ref 39), (2, .int v2)]) (st' := [.ref 39]) (u' := (xU u)) [(.aload_n 0, (0, 0, 0), 0, 0)] (by decide +kernel) rfl ?_
        refine xm_Vm (pc := 64) (mz := md_X4_readsThing) (idx := 137) (p1 := 976) (a := 39) (as := []) (st := []) (ev_X4_readsThing N u) mw_X4_readsThing (by decide +kernel) (by decide +kernel) (by decide) rfl rfl (by decide) rfl (Nat.le_of_ble_eq_true rfl) (fun r64 => ?_)
        refine xm_goto (pc := 67) (off := 7) (tgt := 74) (by decide +kernel) (by decide) ?_
        refine xm_wk [0] (lv' := [(0, .ref 39)]) rfl ?_
        exact go_X4_faultOf_L74 N rec39 h39 r64.1 r64.2
def f_X4_faultOf_L39 (N : Nat) : Nat → Int32 → xN → Option (Int32 × xN)
  | 0 => fun _ _ => none
  | n + 1 => fun v2 u => f_X4_faultOf_L39b N (f_X4_faultOf_L39 N n) v2 u
theorem go_X4_faultOf_L39 (N : Nat) : ∀ (n : Nat) (v2 : Int32) (u : xN), xGm md_X4_faultOf rsM (f_X4_faultOf_L39 N n v2 u) 39 [(0, .ref 39), (2, .int v2)] [] (xU u) := by
  intro n
  induction n with
  | zero => intro v2 u; exact xm_none
  | succ n ih => intro v2 u; exact go_X4_faultOf_L39b N _ ih v2 u
def f_X4_faultOf (N : Nat) (a1 : Int32) (u : xN) : Option (Int32 × xN) := gdl [inb a1 4] (Option.bind (f_X4_skip N (mI (mI (mI (mI (mI u 39 16 ((80 : Int32) * a1)) 39 17 (0 : Int32)) 39 18 ((mI (mI u 39 16 ((80 : Int32) * a1)) 39 17 (0 : Int32)).1 47 (Int32.toNatClampNeg a1))) 39 20 (0 : Int32)) 39 22 (0 : Int32))) (fun r34 => f_X4_faultOf_L39 N N (1 : Int32) r34))
set_option maxRecDepth 20000 in
theorem go_X4_faultOf (N : Nat) (a1 : Int32) (u : xN) : xGm md_X4_faultOf rsM (f_X4_faultOf N a1 u) 0 [(0, .ref 39), (1, .int a1)] [] (xU u) := by
  unfold f_X4_faultOf
  refine xm_blk (bs := [inb a1 4]) (pc' := 34) (lv' := [(0, .ref 39), (1, .int a1)]) (st' := [.ref 39]) (u' := (xU (mI (mI (mI (mI (mI u 39 16 ((80 : Int32) * a1)) 39 17 (0 : Int32)) 39 18 ((mI (mI u 39 16 ((80 : Int32) * a1)) 39 17 (0 : Int32)).1 47 (Int32.toNatClampNeg a1))) 39 20 (0 : Int32)) 39 22 (0 : Int32)))) [(.aload_n 0, (0, 0, 0), 0, 0), (.bipush 80, (0, 0, 0), 80, 0), (.iload_n 1, (0, 0, 0), 0, 0), (.imul, (0, 0, 0), 0, 0), (.putfield 104, (4, 16, 836), 0, 0), (.aload_n 0, (0, 0, 0), 0, 0), (.iconst 0, (0, 0, 0), 0, 0), (.putfield 107, (4, 17, 837), 0, 0), (.aload_n 0, (0, 0, 0), 0, 0), (.aload_n 0, (0, 0, 0), 0, 0), (.getfield 31, (4, 9, 829), 0, 0), (.iload_n 1, (0, 0, 0), 0, 0), (.iaload, (0, 0, 0), 0, 0), (.putfield 110, (4, 18, 838), 0, 0), (.aload_n 0, (0, 0, 0), 0, 0), (.iconst 0, (0, 0, 0), 0, 0), (.putfield 119, (4, 20, 840), 0, 0), (.aload_n 0, (0, 0, 0), 0, 0), (.iconst 0, (0, 0, 0), 0, 0), (.putfield 122, (4, 22, 842), 0, 0), (.aload_n 0, (0, 0, 0), 0, 0)] (by decide +kernel) rfl ?_
  refine xm_Vv (pc := 34) (mz := md_X4_skip) (idx := 134) (p1 := 968) (a := 39) (as := []) (st := []) (ev_X4_skip N (mI (mI (mI (mI (mI u 39 16 ((80 : Int32) * a1)) 39 17 (0 : Int32)) 39 18 ((mI (mI u 39 16 ((80 : Int32) * a1)) 39 17 (0 : Int32)).1 47 (Int32.toNatClampNeg a1))) 39 20 (0 : Int32)) 39 22 (0 : Int32))) mw_X4_skip (by decide +kernel) (by decide +kernel) (by decide) rfl rfl (by decide) rfl (Nat.le_of_ble_eq_true rfl) (fun r34 => ?_)
  refine xm_blk0 (pc' := 39) (lv' := [(0, .ref 39), (1, .int a1), (2, .int (1 : Int32))]) (st' := []) (u' := (xU r34)) [(.iconst 1, (0, 0, 0), 1, 0), (.istore_n 2, (0, 0, 0), 0, 0)] (by decide +kernel) rfl ?_
  refine xm_wk [0, 2] (lv' := [(0, .ref 39), (2, .int (1 : Int32))]) rfl ?_
  exact go_X4_faultOf_L39 N N (1 : Int32) r34
theorem ev_X4_faultOf (N : Nat) (a1 : Int32) (u : xN) : ∀ r, f_X4_faultOf N a1 u = some r → xEm md_X4_faultOf yX4_faultOf [.ref 39, .int a1] (xU u) (some (.int r.1), xU r.2) := xm_met (res := rsM) (as := [.ref 39, .int a1]) (go_X4_faultOf N a1 u) (by decide) rfl (Nat.le_of_ble_eq_true rfl)
