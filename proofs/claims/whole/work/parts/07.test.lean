theorem mw_X4_bits : xMs yX4_bits cX4_bits 3 (some .int) 1 := xMs_of (p1 := 1092) (p2 := 1091) (p3 := 97) (by decide +kernel)
/-! NeitherBareModel.bits(I)I  -/
abbrev md_X4_bits : xMd := (cX4_bits, RX4, 3, some .int, 1)
def f_X4_bits_L4b (N : Nat) (rec4 : Int32 → Int32 → Int32 → Option Int32) (v0 : Int32) (v1 : Int32) (v2 : Int32) : Option Int32 := if (13 : Int32) ≤ v2 then some v1 else rec4 v0 (v1 + ((v0 >>> (v2 &&& 31)) &&& (1 : Int32))) (v2 + (1 : Int32))
set_option maxRecDepth 20000 in
theorem go_X4_bits_L4b (N : Nat) (u : xN) (rec4 : Int32 → Int32 → Int32 → Option Int32) (h4 : ∀ (v0 : Int32) (v1 : Int32) (v2 : Int32), xGm md_X4_bits (rsI (xU u)) (rec4 v0 v1 v2) 4 [(0, .int v0), (1, .int v1), (2, .int v2)] [] (xU u)) (v0 : Int32) (v1 : Int32) (v2 : Int32) : xGm md_X4_bits (rsI (xU u)) (f_X4_bits_L4b N rec4 v0 v1 v2) 4 [(0, .int v0), (1, .int v1), (2, .int v2)] [] (xU u) := by
  unfold f_X4_bits_L4b
  refine xm_blk0 (pc' := 7) (lv' := [(0, .int v0), (1, .int v1), (2, .int v2)]) (st' := [.int (13 : Int32), .int v2]) (u' := (xU u)) [(.iload_n 2, (0, 0, 0), 0, 0), (.bipush 13, (0, 0, 0), 13, 0)] (by decide +kernel) rfl ?_
  refine xm_icmp_ge (pc := 7) (off := 17) (tgt := 24) (by decide +kernel) (by decide) ?_ ?_
  · refine xm_blk0 (pc' := 25) (lv' := [(0, .int v0), (1, .int v1), (2, .int v2)]) (st' := [.int v1]) (u' := (xU u)) [(.iload_n 1, (0, 0, 0), 0, 0)] (by decide +kernel) rfl ?_
    exact xm_iret (pc := 25) (by decide +kernel) rfl rfl
  · refine xm_blk0 (pc' := 21) (lv' := [(0, .int v0), (1, .int (v1 + ((v0 >>> (v2 &&& 31)) &&& (1 : Int32)))), (2, .int (v2 + (1 : Int32)))]) (st' := []) (u' := (xU u)) [(.iload_n 1, (0, 0, 0), 0, 0), (.iload_n 0, (0, 0, 0), 0, 0), (.iload_n 2, (0, 0, 0), 0, 0), (.ishr, (0, 0, 0), 0, 0), (.iconst 1, (0, 0, 0), 1, 0), (.iand, (0, 0, 0), 0, 0), (.iadd, (0, 0, 0), 0, 0), (.istore_n 1, (0, 0, 0), 0, 0), (.iinc 2 1, (0, 0, 0), 1, 0)] (by decide +kernel) rfl ?_
    refine xm_goto (pc := 21) (off := -17) (tgt := 4) (by decide +kernel) (by decide) ?_
    exact h4 v0 (v1 + ((v0 >>> (v2 &&& 31)) &&& (1 : Int32))) (v2 + (1 : Int32))
def f_X4_bits_L4 (N : Nat) : Nat → Int32 → Int32 → Int32 → Option Int32
  | 0 => fun _ _ _ => none
  | n + 1 => fun v0 v1 v2 => f_X4_bits_L4b N (f_X4_bits_L4 N n) v0 v1 v2
theorem go_X4_bits_L4 (N : Nat) (u : xN) : ∀ (n : Nat) (v0 : Int32) (v1 : Int32) (v2 : Int32), xGm md_X4_bits (rsI (xU u)) (f_X4_bits_L4 N n v0 v1 v2) 4 [(0, .int v0), (1, .int v1), (2, .int v2)] [] (xU u) := by
  intro n
  induction n with
  | zero => intro v0 v1 v2; exact xm_none
  | succ n ih => intro v0 v1 v2; exact go_X4_bits_L4b N u _ ih v0 v1 v2
def f_X4_bits (N : Nat) (a0 : Int32) : Option Int32 := f_X4_bits_L4 N N a0 (0 : Int32) (0 : Int32)
set_option maxRecDepth 20000 in
theorem go_X4_bits (N : Nat) (a0 : Int32) (u : xN) : xGm md_X4_bits (rsI (xU u)) (f_X4_bits N a0) 0 [(0, .int a0)] [] (xU u) := by
  unfold f_X4_bits
  refine xm_blk0 (pc' := 4) (lv' := [(0, .int a0), (1, .int (0 : Int32)), (2, .int (0 : Int32))]) (st' := []) (u' := (xU u)) [(.iconst 0, (0, 0, 0), 0, 0), (.istore_n 1, (0, 0, 0), 0, 0), (.iconst 0, (0, 0, 0), 0, 0), (.istore_n 2, (0, 0, 0), 0, 0)] (by decide +kernel) rfl ?_
  exact go_X4_bits_L4 N u N a0 (0 : Int32) (0 : Int32)
theorem ev_X4_bits (N : Nat) (a0 : Int32) (u : xN) : ∀ r, f_X4_bits N a0 = some r → xEm md_X4_bits yX4_bits [.int a0] (xU u) (some (.int r), (xU u)) := xm_met (res := (rsI (xU u))) (as := [.int a0]) (go_X4_bits N a0 u) (by decide) rfl (Nat.le_of_ble_eq_true rfl)
theorem mw_X4_in : xMs yX4_in cX4_in 6 (some .boolean) 3 := xMs_of (p1 := 907) (p2 := 906) (p3 := 97) (by decide +kernel)
/-! NeitherBareModel.in(JJJ)Z  -/
abbrev md_X4_in : xMd := (cX4_in, RX4, 6, some .boolean, 1)
def f_X4_in_L18 (t0 : Int32) : Option Int32 := gdl [isb t0] (some t0)
set_option maxRecDepth 20000 in
theorem go_X4_in_L18 (u : xN) (t0 : Int32) : xGm md_X4_in (rsI (xU u)) (f_X4_in_L18 t0) 18 [] [.int t0] (xU u) := by
  unfold f_X4_in_L18
  exact xm_zret (pc := 18) (by decide +kernel) rfl rfl
def f_X4_in_L17  : Option Int32 := f_X4_in_L18 (0 : Int32)
set_option maxRecDepth 20000 in
theorem go_X4_in_L17 (u : xN) : xGm md_X4_in (rsI (xU u)) (f_X4_in_L17) 17 [] [] (xU u) := by
  unfold f_X4_in_L17
  refine xm_blk0 (pc' := 18) (lv' := []) (st' := [.int (0 : Int32)]) (u' := (xU u)) [(.iconst 0, (0, 0, 0), 0, 0)] (by decide +kernel) rfl ?_
  exact go_X4_in_L18 u (0 : Int32)
def f_X4_in (a0 : Int64) (a2 : Int64) (a4 : Int64) : Option Int32 := if (lg_cmp a0 a2) < (0 : Int32) then f_X4_in_L17 else if (0 : Int32) < (lg_cmp a0 a4) then f_X4_in_L17 else f_X4_in_L18 (1 : Int32)
set_option maxRecDepth 20000 in
theorem go_X4_in (a0 : Int64) (a2 : Int64) (a4 : Int64) (u : xN) : xGm md_X4_in (rsI (xU u)) (f_X4_in a0 a2 a4) 0 [(0, .long a0), (2, .long a2), (4, .long a4)] [] (xU u) := by
  unfold f_X4_in
  refine xm_blk0 (pc' := 3) (lv' := [(0, .long a0), (2, .long a2), (4, .long a4)]) (st' := [.int (lg_cmp a0 a2)]) (u' := (xU u)) [(.lload_n 0, (0, 0, 0), 0, 0), (.lload_n 2, (0, 0, 0), 0, 0), (.lcmp, (0, 0, 0), 0, 0)] (by decide +kernel) rfl ?_
  refine xm_if_lt (pc := 3) (off := 14) (tgt := 17) (by decide +kernel) (by decide) ?_ ?_
  · refine xm_wk [] (lv' := []) rfl ?_
    exact go_X4_in_L17 u
  · refine xm_blk0 (pc' := 10) (lv' := [(0, .long a0), (2, .long a2), (4, .long a4)]) (st' := [.int (lg_cmp a0 a4)]) (u' := (xU u)) [(.lload_n 0, (0, 0, 0), 0, 0), (.lload 4, (0, 0, 0), 0, 0), (.lcmp, (0, 0, 0), 0, 0)] (by decide +kernel) rfl ?_
    refine xm_if_gt (pc := 10) (off := 7) (tgt := 17) (by decide +kernel) (by decide) ?_ ?_
    · refine xm_wk [] (lv' := []) rfl ?_
      exact go_X4_in_L17 u
    · refine xm_blk0 (pc' := 14) (lv' := [(0, .long a0), (2, .long a2), (4, .long a4)]) (st' := [.int (1 : Int32)]) (u' := (xU u)) [(.iconst 1, (0, 0, 0), 1, 0)] (by decide +kernel) rfl ?_
      refine xm_goto (pc := 14) (off := 4) (tgt := 18) (by decide +kernel) (by decide) ?_
      refine xm_wk [] (lv' := []) rfl ?_
      exact go_X4_in_L18 u (1 : Int32)
theorem ev_X4_in (a0 : Int64) (a2 : Int64) (a4 : Int64) (u : xN) : ∀ r, f_X4_in a0 a2 a4 = some r → xEm md_X4_in yX4_in [.long a0, .long a2, .long a4] (xU u) (some (.int r), (xU u)) := xm_met (res := (rsI (xU u))) (as := [.long a0, .long a2, .long a4]) (go_X4_in a0 a2 a4 u) (by decide) rfl (Nat.le_of_ble_eq_true rfl)
theorem mw_X4_isRow : xMs yX4_isRow cX4_isRow 1 (some .boolean) 1 := xMs_of (p1 := 903) (p2 := 902) (p3 := 97) (by decide +kernel)
/-! NeitherBareModel.isRow(I)Z  -/
abbrev md_X4_isRow : xMd := (cX4_isRow, RX4, 1, some .boolean, 2)
def f_X4_isRow (a0 : Int32) : Option Int32 := Option.bind (f_X4_in (Int32.toInt64 a0) (0 : Int64) (5 : Int64)) (fun r6 => gdl [isb r6] (some r6))
set_option maxRecDepth 20000 in
theorem go_X4_isRow (a0 : Int32) (u : xN) : xGm md_X4_isRow (rsI (xU u)) (f_X4_isRow a0) 0 [(0, .int a0)] [] (xU u) := by
  unfold f_X4_isRow
  refine xm_blk0 (pc' := 6) (lv' := [(0, .int a0)]) (st' := [.long (5 : Int64), .long (0 : Int64), .long (Int32.toInt64 a0)]) (u' := (xU u)) [(.iload_n 0, (0, 0, 0), 0, 0), (.i2l, (0, 0, 0), 0, 0), (.lconst 0, (0, 0, 0), 0, 0), (.ldc2_w 70, (0, 0, 904), 0, 5)] (by decide +kernel) rfl ?_
  refine xm_Si (pc := 6) (mz := md_X4_in) (idx := 72) (p1 := 905) (as := [.long (Int32.toInt64 a0), .long (0 : Int64), .long (5 : Int64)]) (st := []) (ev_X4_in (Int32.toInt64 a0) (0 : Int64) (5 : Int64) u) mw_X4_in (by decide +kernel) (by decide +kernel) (by decide) rfl (Nat.le_of_ble_eq_true rfl) (fun r6 => ?_)
  exact xm_zret (pc := 9) (by decide +kernel) rfl rfl
theorem ev_X4_isRow (a0 : Int32) (u : xN) : ∀ r, f_X4_isRow a0 = some r → xEm md_X4_isRow yX4_isRow [.int a0] (xU u) (some (.int r), (xU u)) := xm_met (res := (rsI (xU u))) (as := [.int a0]) (go_X4_isRow a0 u) (by decide) rfl (Nat.le_of_ble_eq_true rfl)
theorem mw_X4_makeRow : xMv yX4_makeRow cX4_makeRow 4 none 2 := xMv_of (p1 := 915) (p2 := 914) (p3 := 97) (p4 := 41) (by decide +kernel)
/-! NeitherBareModel.makeRow(II)V (39, None, None) -/
abbrev md_X4_makeRow : xMd := (cX4_makeRow, RX4, 4, none, 1)
def f_X4_makeRow_L9b (N : Nat) (rec9 : Int32 → Int32 → xN → Option xN) (v1 : Int32) (v3 : Int32) (u : xN) : Option xN := if (40 : Int32) ≤ v3 then some u else gdl [inb (((40 : Int32) * v1) + v3) 240] (rec9 v1 (v3 + (1 : Int32)) (mI u 46 (Int32.toNatClampNeg (((40 : Int32) * v1) + v3)) (0 : Int32)))
set_option maxRecDepth 20000 in
theorem go_X4_makeRow_L9b (N : Nat) (rec9 : Int32 → Int32 → xN → Option xN) (h9 : ∀ (v1 : Int32) (v3 : Int32) (u : xN), xGm md_X4_makeRow rsV (rec9 v1 v3 u) 9 [(0, .ref 39), (1, .int v1), (3, .int v3)] [] (xU u)) (v1 : Int32) (v3 : Int32) (u : xN) : xGm md_X4_makeRow rsV (f_X4_makeRow_L9b N rec9 v1 v3 u) 9 [(0, .ref 39), (1, .int v1), (3, .int v3)] [] (xU u) := by
  unfold f_X4_makeRow_L9b
  refine xm_blk0 (pc' := 12) (lv' := [(0, .ref 39), (1, .int v1), (3, .int v3)]) (st' := [.int (40 : Int32), .int v3]) (u' := (xU u)) [(.iload_n 3, (0, 0, 0), 0, 0), (.bipush 40, (0, 0, 0), 40, 0)] (by decide +kernel) rfl ?_
  refine xm_icmp_ge (pc := 12) (off := 21) (tgt := 33) (by decide +kernel) (by decide) ?_ ?_
  · exact xm_vret (pc := 33) (by decide +kernel) rfl rfl
  · refine xm_blk (bs := [inb (((40 : Int32) * v1) + v3) 240]) (pc' := 30) (lv' := [(0, .ref 39), (1, .int v1), (3, .int (v3 + (1 : Int32)))]) (st' := []) (u' := (xU (mI u 46 (Int32.toNatClampNeg (((40 : Int32) * v1) + v3)) (0 : Int32)))) [(.aload_n 0, (0, 0, 0), 0, 0), (.getfield 28, (4, 8, 828), 0, 0), (.bipush 40, (0, 0, 0), 40, 0), (.iload_n 1, (0, 0, 0), 0, 0), (.imul, (0, 0, 0), 0, 0), (.iload_n 3, (0, 0, 0), 0, 0), (.iadd, (0, 0, 0), 0, 0), (.iconst 0, (0, 0, 0), 0, 0), (.iastore, (0, 0, 0), 0, 0), (.iinc 3 1, (0, 0, 0), 1, 0)] (by decide +kernel) rfl ?_
    refine xm_goto (pc := 30) (off := -21) (tgt := 9) (by decide +kernel) (by decide) ?_
    exact h9 v1 (v3 + (1 : Int32)) (mI u 46 (Int32.toNatClampNeg (((40 : Int32) * v1) + v3)) (0 : Int32))
def f_X4_makeRow_L9 (N : Nat) : Nat → Int32 → Int32 → xN → Option xN
  | 0 => fun _ _ _ => none
  | n + 1 => fun v1 v3 u => f_X4_makeRow_L9b N (f_X4_makeRow_L9 N n) v1 v3 u
theorem go_X4_makeRow_L9 (N : Nat) : ∀ (n : Nat) (v1 : Int32) (v3 : Int32) (u : xN), xGm md_X4_makeRow rsV (f_X4_makeRow_L9 N n v1 v3 u) 9 [(0, .ref 39), (1, .int v1), (3, .int v3)] [] (xU u) := by
  intro n
  induction n with
  | zero => intro v1 v3 u; exact xm_none
  | succ n ih => intro v1 v3 u; exact go_X4_makeRow_L9b N _ ih v1 v3 u
def f_X4_makeRow (N : Nat) (a1 : Int32) (a2 : Int32) (u : xN) : Option xN := gdl [inb a1 6] (f_X4_makeRow_L9 N N a1 (0 : Int32) (mI u 45 (Int32.toNatClampNeg a1) a2))
set_option maxRecDepth 20000 in
theorem go_X4_makeRow (N : Nat) (a1 : Int32) (a2 : Int32) (u : xN) : xGm md_X4_makeRow rsV (f_X4_makeRow N a1 a2 u) 0 [(0, .ref 39), (1, .int a1), (2, .int a2)] [] (xU u) := by
  unfold f_X4_makeRow
  refine xm_blk (bs := [inb a1 6]) (pc' := 9) (lv' := [(0, .ref 39), (1, .int a1), (2, .int a2), (3, .int (0 : Int32))]) (st' := []) (u' := (xU (mI u 45 (Int32.toNatClampNeg a1) a2))) [(.aload_n 0, (0, 0, 0), 0, 0), (.getfield 25, (4, 7, 827), 0, 0), (.iload_n 1, (0, 0, 0), 0, 0), (.iload_n 2, (0, 0, 0), 0, 0), (.iastore, (0, 0, 0), 0, 0), (.iconst 0, (0, 0, 0), 0, 0), (.istore_n 3, (0, 0, 0), 0, 0)] (by decide +kernel) rfl ?_
  refine xm_wk [0, 1, 3] (lv' := [(0, .ref 39), (1, .int a1), (3, .int (0 : Int32))]) rfl ?_
  exact go_X4_makeRow_L9 N N a1 (0 : Int32) (mI u 45 (Int32.toNatClampNeg a1) a2)
theorem ev_X4_makeRow (N : Nat) (a1 : Int32) (a2 : Int32) (u : xN) : ∀ r, f_X4_makeRow N a1 a2 u = some r → xEm md_X4_makeRow yX4_makeRow [.ref 39, .int a1, .int a2] (xU u) (none, xU r) := xm_met (res := rsV) (as := [.ref 39, .int a1, .int a2]) (go_X4_makeRow N a1 a2 u) (by decide) rfl (Nat.le_of_ble_eq_true rfl)
theorem mw_X4_find : xMv yX4_find cX4_find 2 (some .int) 1 := xMv_of (p1 := 911) (p2 := 910) (p3 := 97) (p4 := 40) (by decide +kernel)
/-! NeitherBareModel.find(I)I (39, None) -/
abbrev md_X4_find : xMd := (cX4_find, RX4, 2, some .int, 1)
def f_X4_find (a1 : Int32) (u : xN) : Option (Int32 × xN) := gdl [inb a1 6, inb a1 6] (some ((-3 : Int32), mI (mI u 39 14 a1) 49 (Int32.toNatClampNeg a1) (((mI u 39 14 a1).1 49 (Int32.toNatClampNeg a1)) + (1 : Int32))))
set_option maxRecDepth 20000 in
theorem go_X4_find (a1 : Int32) (u : xN) : xGm md_X4_find rsM (f_X4_find a1 u) 0 [(0, .ref 39), (1, .int a1)] [] (xU u) := by
  unfold f_X4_find
  refine xm_blk (bs := [inb a1 6, inb a1 6]) (pc' := 17) (lv' := [(0, .ref 39), (1, .int a1)]) (st' := [.int (-3 : Int32)]) (u' := (xU (mI (mI u 39 14 a1) 49 (Int32.toNatClampNeg a1) (((mI u 39 14 a1).1 49 (Int32.toNatClampNeg a1)) + (1 : Int32))))) [(.aload_n 0, (0, 0, 0), 0, 0), (.iload_n 1, (0, 0, 0), 0, 0), (.putfield 64, (4, 14, 834), 0, 0), (.aload_n 0, (0, 0, 0), 0, 0), (.getfield 41, (4, 15, 835), 0, 0), (.iload_n 1, (0, 0, 0), 0, 0), (.dup2, (0, 0, 0), 0, 0), (.iaload, (0, 0, 0), 0, 0), (.iconst 1, (0, 0, 0), 1, 0), (.iadd, (0, 0, 0), 0, 0), (.iastore, (0, 0, 0), 0, 0), (.bipush (-3), (0, 0, 0), -3, 0)] (by decide +kernel) rfl ?_
  exact xm_iret (pc := 17) (by decide +kernel) rfl rfl
theorem ev_X4_find (a1 : Int32) (u : xN) : ∀ r, f_X4_find a1 u = some r → xEm md_X4_find yX4_find [.ref 39, .int a1] (xU u) (some (.int r.1), xU r.2) := xm_met (res := rsM) (as := [.ref 39, .int a1]) (go_X4_find a1 u) (by decide) rfl (Nat.le_of_ble_eq_true rfl)
theorem mw_X4_row : xMv yX4_row cX4_row 3 (some .int) 2 := xMv_of (p1 := 900) (p2 := 898) (p3 := 97) (p4 := 899) (by decide +kernel)
/-! NeitherBareModel.row(II)I (39, None, None) -/
abbrev md_X4_row : xMd := (cX4_row, RX4, 3, some .int, 3)
def f_X4_row_L13 (N : Nat) (u : xN) : Option (Int32 × xN) := some ((-1 : Int32), u)
set_option maxRecDepth 20000 in
theorem go_X4_row_L13 (N : Nat) (u : xN) : xGm md_X4_row rsM (f_X4_row_L13 N u) 13 [] [] (xU u) := by
  unfold f_X4_row_L13
  refine xm_blk0 (pc' := 14) (lv' := []) (st' := [.int (-1 : Int32)]) (u' := (xU u)) [(.iconst (-1), (0, 0, 0), -1, 0)] (by decide +kernel) rfl ?_
  exact xm_iret (pc := 14) (by decide +kernel) rfl rfl
def f_X4_row (N : Nat) (a1 : Int32) (a2 : Int32) (u : xN) : Option (Int32 × xN) := Option.bind (f_X4_isRow a1) (fun r1 => if r1 = (0 : Int32) then f_X4_row_L13 N u else if a2 ≤ (40 : Int32) then (if (0 : Int32) ≤ a2 then Option.bind (f_X4_makeRow N a1 a2 u) (fun r28 => some (a2, r28)) else Option.bind (f_X4_find (5 : Int32) u) (fun r21 => some (r21.1, r21.2))) else f_X4_row_L13 N u)
set_option maxRecDepth 20000 in
theorem go_X4_row (N : Nat) (a1 : Int32) (a2 : Int32) (u : xN) : xGm md_X4_row rsM (f_X4_row N a1 a2 u) 0 [(0, .ref 39), (1, .int a1), (2, .int a2)] [] (xU u) := by
  unfold f_X4_row
  refine xm_blk0 (pc' := 1) (lv' := [(0, .ref 39), (1, .int a1), (2, .int a2)]) (st' := [.int a1]) (u' := (xU u)) [(.iload_n 1, (0, 0, 0), 0, 0)] (by decide +kernel) rfl ?_
  refine xm_Si (pc := 1) (mz := md_X4_isRow) (idx := 78) (p1 := 901) (as := [.int a1]) (st := []) (ev_X4_isRow a1 u) mw_X4_isRow (by decide +kernel) (by decide +kernel) (by decide) rfl (Nat.le_of_ble_eq_true rfl) (fun r1 => ?_)
  refine xm_if_eq (pc := 4) (off := 9) (tgt := 13) (by decide +kernel) (by decide) ?_ ?_
  · refine xm_wk [] (lv' := []) rfl ?_
    exact go_X4_row_L13 N u
  · refine xm_blk0 (pc' := 10) (lv' := [(0, .ref 39), (1, .int a1), (2, .int a2)]) (st' := [.int (40 : Int32), .int a2]) (u' := (xU u)) [(.iload_n 2, (0, 0, 0), 0, 0), (.bipush 40, (0, 0, 0), 40, 0)] (by decide +kernel) rfl ?_
    refine xm_icmp_le (pc := 10) (off := 5) (tgt := 15) (by decide +kernel) (by decide) ?_ ?_
    · refine xm_blk0 (pc' := 16) (lv' := [(0, .ref 39), (1, .int a1), (2, .int a2)]) (st' := [.int a2]) (u' := (xU u)) [(.iload_n 2, (0, 0, 0), 0, 0)] (by decide +kernel) rfl ?_
      refine xm_if_ge (pc := 16) (off := 9) (tgt := 25) (by decide +kernel) (by decide) ?_ ?_
      · refine xm_blk0 (pc' := 28) (lv' := [(0, .ref 39), (1, .int a1), (2, .int a2)]) (st' := [.int a2, .int a1, .ref 39]) (u' := (xU u)) [(.aload_n 0, (0, 0, 0), 0, 0), (.iload_n 1, (0, 0, 0), 0, 0), (.iload_n 2, (0, 0, 0), 0, 0)] (by decide +kernel) rfl ?_
        refine xm_Vv (pc := 28) (mz := md_X4_makeRow) (idx := 86) (p1 := 912) (a := 39) (as := [.int a1, .int a2]) (st := []) (ev_X4_makeRow N a1 a2 u) mw_X4_makeRow (by decide +kernel) (by decide +kernel) (by decide) rfl rfl (by decide) rfl (Nat.le_of_ble_eq_true rfl) (fun r28 => ?_)
        refine xm_blk0 (pc' := 32) (lv' := [(0, .ref 39), (1, .int a1), (2, .int a2)]) (st' := [.int a2]) (u' := (xU r28)) [(.iload_n 2, (0, 0, 0), 0, 0)] (by decide +kernel) rfl ?_
        exact xm_iret (pc := 32) (by decide +kernel) rfl rfl
      · refine xm_blk0 (pc' := 21) (lv' := [(0, .ref 39), (1, .int a1), (2, .int a2)]) (st' := [.int (5 : Int32), .ref 39]) (u' := (xU u)) [(.aload_n 0, (0, 0, 0), 0, 0), (.iconst 5, (0, 0, 0), 5, 0)] (by decide +kernel) rfl ?_
        refine xm_Vm (pc := 21) (mz := md_X4_find) (idx := 82) (p1 := 908) (a := 39) (as := [.int (5 : Int32)]) (st := []) (ev_X4_find (5 : Int32) u) mw_X4_find (by decide +kernel) (by decide +kernel) (by decide) rfl rfl (by decide) rfl (Nat.le_of_ble_eq_true rfl) (fun r21 => ?_)
        exact xm_iret (pc := 24) (by decide +kernel) rfl rfl
    · refine xm_wk [] (lv' := []) rfl ?_
      exact go_X4_row_L13 N u
theorem ev_X4_row (N : Nat) (a1 : Int32) (a2 : Int32) (u : xN) : ∀ r, f_X4_row N a1 a2 u = some r → xEm md_X4_row yX4_row [.ref 39, .int a1, .int a2] (xU u) (some (.int r.1), xU r.2) := xm_met (res := rsM) (as := [.ref 39, .int a1, .int a2]) (go_X4_row N a1 a2 u) (by decide) rfl (Nat.le_of_ble_eq_true rfl)
theorem mw_X4_refused : xMv yX4_refused cX4_refused 3 (some .int) 2 := xMv_of (p1 := 923) (p2 := 922) (p3 := 97) (p4 := 42) (by decide +kernel)
/-! NeitherBareModel.refused(II)I (39, None, None) -/
abbrev md_X4_refused : xMd := (cX4_refused, RX4, 3, some .int, 3)
def f_X4_refused_L55 (t0 : Int32) (u : xN) : Option (Int32 × xN) := some (t0, u)
set_option maxRecDepth 20000 in
theorem go_X4_refused_L55 (t0 : Int32) (u : xN) : xGm md_X4_refused rsM (f_X4_refused_L55 t0 u) 55 [] [.int t0] (xU u) := by
  unfold f_X4_refused_L55
  exact xm_iret (pc := 55) (by decide +kernel) rfl rfl
def f_X4_refused (a1 : Int32) (a2 : Int32) (u : xN) : Option (Int32 × xN) := Option.bind (f_X4_isRow a1) (fun r1 => if r1 = (0 : Int32) then f_X4_refused_L55 (-1 : Int32) u else gdl [inb a1 6] (if (0 : Int32) ≤ (u.1 45 (Int32.toNatClampNeg a1)) then (gdl [inb a1 6] (Option.bind (f_X4_in (Int32.toInt64 a2) (0 : Int64) (Int32.toInt64 ((u.1 45 (Int32.toNatClampNeg a1)) - (1 : Int32)))) (fun r40 => if r40 = (0 : Int32) then Option.bind (f_X4_find (2 : Int32) u) (fun r52 => f_X4_refused_L55 r52.1 r52.2) else f_X4_refused_L55 (0 : Int32) u))) else Option.bind (f_X4_find (1 : Int32) u) (fun r22 => f_X4_refused_L55 r22.1 r22.2)))
set_option maxRecDepth 20000 in
theorem go_X4_refused (a1 : Int32) (a2 : Int32) (u : xN) : xGm md_X4_refused rsM (f_X4_refused a1 a2 u) 0 [(0, .ref 39), (1, .int a1), (2, .int a2)] [] (xU u) := by
  unfold f_X4_refused
  refine xm_blk0 (pc' := 1) (lv' := [(0, .ref 39), (1, .int a1), (2, .int a2)]) (st' := [.int a1]) (u' := (xU u)) [(.iload_n 1, (0, 0, 0), 0, 0)] (by decide +kernel) rfl ?_
  refine xm_Si (pc := 1) (mz := md_X4_isRow) (idx := 78) (p1 := 901) (as := [.int a1]) (st := []) (ev_X4_isRow a1 u) mw_X4_isRow (by decide +kernel) (by decide +kernel) (by decide) rfl (Nat.le_of_ble_eq_true rfl) (fun r1 => ?_)
  refine xm_if_ne (pc := 4) (off := 7) (tgt := 11) (by decide +kernel) (by decide) ?_ ?_
  · refine xm_blk (bs := [inb a1 6]) (pc' := 17) (lv' := [(0, .ref 39), (1, .int a1), (2, .int a2)]) (st' := [.int (u.1 45 (Int32.toNatClampNeg a1))]) (u' := (xU u)) [(.aload_n 0, (0, 0, 0), 0, 0), (.getfield 25, (4, 7, 827), 0, 0), (.iload_n 1, (0, 0, 0), 0, 0), (.iaload, (0, 0, 0), 0, 0)] (by decide +kernel) rfl ?_
    refine xm_if_ge (pc := 17) (off := 11) (tgt := 28) (by decide +kernel) (by decide) ?_ ?_
    · refine xm_blk (bs := [inb a1 6]) (pc' := 40) (lv' := [(0, .ref 39), (1, .int a1), (2, .int a2)]) (st' := [.long (Int32.toInt64 ((u.1 45 (Int32.toNatClampNeg a1)) - (1 : Int32))), .long (0 : Int64), .long (Int32.toInt64 a2)]) (u' := (xU u)) [(.iload_n 2, (0, 0, 0), 0, 0), (.i2l, (0, 0, 0), 0, 0), (.lconst 0, (0, 0, 0), 0, 0), (.aload_n 0, (0, 0, 0), 0, 0), (.getfield 25, (4, 7, 827), 0, 0), (.iload_n 1, (0, 0, 0), 0, 0), (.iaload, (0, 0, 0), 0, 0), (.iconst 1, (0, 0, 0), 1, 0), (.isub, (0, 0, 0), 0, 0), (.i2l, (0, 0, 0), 0, 0)] (by decide +kernel) rfl ?_
      refine xm_Si (pc := 40) (mz := md_X4_in) (idx := 72) (p1 := 905) (as := [.long (Int32.toInt64 a2), .long (0 : Int64), .long (Int32.toInt64 ((u.1 45 (Int32.toNatClampNeg a1)) - (1 : Int32)))]) (st := []) (ev_X4_in (Int32.toInt64 a2) (0 : Int64) (Int32.toInt64 ((u.1 45 (Int32.toNatClampNeg a1)) - (1 : Int32))) u) mw_X4_in (by decide +kernel) (by decide +kernel) (by decide) rfl (Nat.le_of_ble_eq_true rfl) (fun r40 => ?_)
      refine xm_if_eq (pc := 43) (off := 7) (tgt := 50) (by decide +kernel) (by decide) ?_ ?_
      · refine xm_blk0 (pc' := 52) (lv' := [(0, .ref 39), (1, .int a1), (2, .int a2)]) (st' := [.int (2 : Int32), .ref 39]) (u' := (xU u)) [(.aload_n 0, (0, 0, 0), 0, 0), (.iconst 2, (0, 0, 0), 2, 0)] (by decide +kernel) rfl ?_
        refine xm_Vm (pc := 52) (mz := md_X4_find) (idx := 82) (p1 := 908) (a := 39) (as := [.int (2 : Int32)]) (st := []) (ev_X4_find (2 : Int32) u) mw_X4_find (by decide +kernel) (by decide +kernel) (by decide) rfl rfl (by decide) rfl (Nat.le_of_ble_eq_true rfl) (fun r52 => ?_)
        refine xm_wk [] (lv' := []) rfl ?_
        exact go_X4_refused_L55 r52.1 r52.2
      · refine xm_blk0 (pc' := 47) (lv' := [(0, .ref 39), (1, .int a1), (2, .int a2)]) (st' := [.int (0 : Int32)]) (u' := (xU u)) [(.iconst 0, (0, 0, 0), 0, 0)] (by decide +kernel) rfl ?_
        refine xm_goto (pc := 47) (off := 8) (tgt := 55) (by decide +kernel) (by decide) ?_
        refine xm_wk [] (lv' := []) rfl ?_
        exact go_X4_refused_L55 (0 : Int32) u
    · refine xm_blk0 (pc' := 22) (lv' := [(0, .ref 39), (1, .int a1), (2, .int a2)]) (st' := [.int (1 : Int32), .ref 39]) (u' := (xU u)) [(.aload_n 0, (0, 0, 0), 0, 0), (.iconst 1, (0, 0, 0), 1, 0)] (by decide +kernel) rfl ?_
      refine xm_Vm (pc := 22) (mz := md_X4_find) (idx := 82) (p1 := 908) (a := 39) (as := [.int (1 : Int32)]) (st := []) (ev_X4_find (1 : Int32) u) mw_X4_find (by decide +kernel) (by decide +kernel) (by decide) rfl rfl (by decide) rfl (Nat.le_of_ble_eq_true rfl) (fun r22 => ?_)
      refine xm_goto (pc := 25) (off := 30) (tgt := 55) (by decide +kernel) (by decide) ?_
      refine xm_wk [] (lv' := []) rfl ?_
      exact go_X4_refused_L55 r22.1 r22.2
  · refine xm_blk0 (pc' := 8) (lv' := [(0, .ref 39), (1, .int a1), (2, .int a2)]) (st' := [.int (-1 : Int32)]) (u' := (xU u)) [(.iconst (-1), (0, 0, 0), -1, 0)] (by decide +kernel) rfl ?_
    refine xm_goto (pc := 8) (off := 47) (tgt := 55) (by decide +kernel) (by decide) ?_
    refine xm_wk [] (lv' := []) rfl ?_
    exact go_X4_refused_L55 (-1 : Int32) u
theorem ev_X4_refused (a1 : Int32) (a2 : Int32) (u : xN) : ∀ r, f_X4_refused a1 a2 u = some r → xEm md_X4_refused yX4_refused [.ref 39, .int a1, .int a2] (xU u) (some (.int r.1), xU r.2) := xm_met (res := rsM) (as := [.ref 39, .int a1, .int a2]) (go_X4_refused a1 a2 u) (by decide) rfl (Nat.le_of_ble_eq_true rfl)
theorem mw_X4_tell : xMv yX4_tell cX4_tell 2 (some .int) 1 := xMv_of (p1 := 927) (p2 := 926) (p3 := 97) (p4 := 43) (by decide +kernel)
/-! NeitherBareModel.tell(I)I (39, None) -/
abbrev md_X4_tell : xMd := (cX4_tell, RX4, 2, some .int, 1)
def f_X4_tell (a1 : Int32) (u : xN) : Option (Int32 × xN) := some ((1 : Int32), mI u 39 11 a1)
set_option maxRecDepth 20000 in
theorem go_X4_tell (a1 : Int32) (u : xN) : xGm md_X4_tell rsM (f_X4_tell a1 u) 0 [(0, .ref 39), (1, .int a1)] [] (xU u) := by
  unfold f_X4_tell
  refine xm_blk0 (pc' := 6) (lv' := [(0, .ref 39), (1, .int a1)]) (st' := [.int (1 : Int32)]) (u' := (xU (mI u 39 11 a1))) [(.aload_n 0, (0, 0, 0), 0, 0), (.iload_n 1, (0, 0, 0), 0, 0), (.putfield 67, (4, 11, 831), 0, 0), (.iconst 1, (0, 0, 0), 1, 0)] (by decide +kernel) rfl ?_
  exact xm_iret (pc := 6) (by decide +kernel) rfl rfl
theorem ev_X4_tell (a1 : Int32) (u : xN) : ∀ r, f_X4_tell a1 u = some r → xEm md_X4_tell yX4_tell [.ref 39, .int a1] (xU u) (some (.int r.1), xU r.2) := xm_met (res := rsM) (as := [.ref 39, .int a1]) (go_X4_tell a1 u) (by decide) rfl (Nat.le_of_ble_eq_true rfl)
theorem mw_X4_lay : xMv yX4_lay cX4_lay 6 (some .int) 3 := xMv_of (p1 := 919) (p2 := 917) (p3 := 97) (p4 := 918) (by decide +kernel)
/-! NeitherBareModel.lay(III)I (39, None, None, None) -/
abbrev md_X4_lay : xMd := (cX4_lay, RX4, 6, some .int, 4)
def f_X4_lay (a1 : Int32) (a2 : Int32) (a3 : Int32) (u : xN) : Option (Int32 × xN) := Option.bind (f_X4_refused a1 a2 u) (fun r3 => if r3.1 = (0 : Int32) then (gdl [inb (((40 : Int32) * a1) + a2) 240, inb (((40 : Int32) * a1) + a2) 240] (Option.bind (f_X4_tell (r3.2.1 46 (Int32.toNatClampNeg (((40 : Int32) * a1) + a2))) (mI r3.2 46 (Int32.toNatClampNeg (((40 : Int32) * a1) + a2)) a3)) (fun r44 => some (r44.1, r44.2)))) else some (r3.1, r3.2))
set_option maxRecDepth 20000 in
theorem go_X4_lay (a1 : Int32) (a2 : Int32) (a3 : Int32) (u : xN) : xGm md_X4_lay rsM (f_X4_lay a1 a2 a3 u) 0 [(0, .ref 39), (1, .int a1), (2, .int a2), (3, .int a3)] [] (xU u) := by
  unfold f_X4_lay
  refine xm_blk0 (pc' := 3) (lv' := [(0, .ref 39), (1, .int a1), (2, .int a2), (3, .int a3)]) (st' := [.int a2, .int a1, .ref 39]) (u' := (xU u)) [(.aload_n 0, (0, 0, 0), 0, 0), (.iload_n 1, (0, 0, 0), 0, 0), (.iload_n 2, (0, 0, 0), 0, 0)] (by decide +kernel) rfl ?_
  refine xm_Vm (pc := 3) (mz := md_X4_refused) (idx := 90) (p1 := 920) (a := 39) (as := [.int a1, .int a2]) (st := []) (ev_X4_refused a1 a2 u) mw_X4_refused (by decide +kernel) (by decide +kernel) (by decide) rfl rfl (by decide) rfl (Nat.le_of_ble_eq_true rfl) (fun r3 => ?_)
  refine xm_blk0 (pc' := 10) (lv' := [(0, .ref 39), (1, .int a1), (2, .int a2), (3, .int a3), (4, .int r3.1)]) (st' := [.int r3.1]) (u' := (xU r3.2)) [(.istore 4, (0, 0, 0), 0, 0), (.iload 4, (0, 0, 0), 0, 0)] (by decide +kernel) rfl ?_
  refine xm_if_eq (pc := 10) (off := 6) (tgt := 16) (by decide +kernel) (by decide) ?_ ?_
  · refine xm_blk (bs := [inb (((40 : Int32) * a1) + a2) 240, inb (((40 : Int32) * a1) + a2) 240]) (pc' := 44) (lv' := [(0, .ref 39), (1, .int a1), (2, .int a2), (3, .int a3), (4, .int r3.1), (5, .int (r3.2.1 46 (Int32.toNatClampNeg (((40 : Int32) * a1) + a2))))]) (st' := [.int (r3.2.1 46 (Int32.toNatClampNeg (((40 : Int32) * a1) + a2))), .ref 39]) (u' := (xU (mI r3.2 46 (Int32.toNatClampNeg (((40 : Int32) * a1) + a2)) a3))) [(.aload_n 0, (0, 0, 0), 0, 0), (.getfield 28, (4, 8, 828), 0, 0), (.bipush 40, (0, 0, 0), 40, 0), (.iload_n 1, (0, 0, 0), 0, 0), (.imul, (0, 0, 0), 0, 0), (.iload_n 2, (0, 0, 0), 0, 0), (.iadd, (0, 0, 0), 0, 0), (.iaload, (0, 0, 0), 0, 0), (.istore 5, (0, 0, 0), 0, 0), (.aload_n 0, (0, 0, 0), 0, 0), (.getfield 28, (4, 8, 828), 0, 0), (.bipush 40, (0, 0, 0), 40, 0), (.iload_n 1, (0, 0, 0), 0, 0), (.imul, (0, 0, 0), 0, 0), (.iload_n 2, (0, 0, 0), 0, 0), (.iadd, (0, 0, 0), 0, 0), (.iload_n 3, (0, 0, 0), 0, 0), (.iastore, (0, 0, 0), 0, 0), (.aload_n 0, (0, 0, 0), 0, 0), (.iload 5, (0, 0, 0), 0, 0)] (by decide +kernel) rfl ?_
    refine xm_Vm (pc := 44) (mz := md_X4_tell) (idx := 94) (p1 := 924) (a := 39) (as := [.int (r3.2.1 46 (Int32.toNatClampNeg (((40 : Int32) * a1) + a2)))]) (st := []) (ev_X4_tell (r3.2.1 46 (Int32.toNatClampNeg (((40 : Int32) * a1) + a2))) (mI r3.2 46 (Int32.toNatClampNeg (((40 : Int32) * a1) + a2)) a3)) mw_X4_tell (by decide +kernel) (by decide +kernel) (by decide) rfl rfl (by decide) rfl (Nat.le_of_ble_eq_true rfl) (fun r44 => ?_)
    exact xm_iret (pc := 47) (by decide +kernel) rfl rfl
  · refine xm_blk0 (pc' := 15) (lv' := [(0, .ref 39), (1, .int a1), (2, .int a2), (3, .int a3), (4, .int r3.1)]) (st' := [.int r3.1]) (u' := (xU r3.2)) [(.iload 4, (0, 0, 0), 0, 0)] (by decide +kernel) rfl ?_
    exact xm_iret (pc := 15) (by decide +kernel) rfl rfl
theorem ev_X4_lay (a1 : Int32) (a2 : Int32) (a3 : Int32) (u : xN) : ∀ r, f_X4_lay a1 a2 a3 u = some r → xEm md_X4_lay yX4_lay [.ref 39, .int a1, .int a2, .int a3] (xU u) (some (.int r.1), xU r.2) := xm_met (res := rsM) (as := [.ref 39, .int a1, .int a2, .int a3]) (go_X4_lay a1 a2 a3 u) (by decide) rfl (Nat.le_of_ble_eq_true rfl)
theorem mw_X4_has : xMs yX4_has cX4_has 2 (some .boolean) 2 := xMs_of (p1 := 1034) (p2 := 1033) (p3 := 97) (by decide +kernel)
/-! NeitherBareModel.has(II)Z  -/
abbrev md_X4_has : xMd := (cX4_has, RX4, 2, some .boolean, 1)
def f_X4_has_L14 (t0 : Int32) : Option Int32 := gdl [isb t0] (some t0)
set_option maxRecDepth 20000 in
theorem go_X4_has_L14 (u : xN) (t0 : Int32) : xGm md_X4_has (rsI (xU u)) (f_X4_has_L14 t0) 14 [] [.int t0] (xU u) := by
  unfold f_X4_has_L14
  exact xm_zret (pc := 14) (by decide +kernel) rfl rfl
def f_X4_has (a0 : Int32) (a1 : Int32) : Option Int32 := if ((a0 >>> (a1 &&& 31)) &&& (1 : Int32)) = (1 : Int32) then f_X4_has_L14 (1 : Int32) else f_X4_has_L14 (0 : Int32)
set_option maxRecDepth 20000 in
theorem go_X4_has (a0 : Int32) (a1 : Int32) (u : xN) : xGm md_X4_has (rsI (xU u)) (f_X4_has a0 a1) 0 [(0, .int a0), (1, .int a1)] [] (xU u) := by
  unfold f_X4_has
  refine xm_blk0 (pc' := 6) (lv' := [(0, .int a0), (1, .int a1)]) (st' := [.int (1 : Int32), .int ((a0 >>> (a1 &&& 31)) &&& (1 : Int32))]) (u' := (xU u)) [(.iload_n 0, (0, 0, 0), 0, 0), (.iload_n 1, (0, 0, 0), 0, 0), (.ishr, (0, 0, 0), 0, 0), (.iconst 1, (0, 0, 0), 1, 0), (.iand, (0, 0, 0), 0, 0), (.iconst 1, (0, 0, 0), 1, 0)] (by decide +kernel) rfl ?_
  refine xm_icmp_ne (pc := 6) (off := 7) (tgt := 13) (by decide +kernel) (by decide) ?_ ?_
  · refine xm_blk0 (pc' := 14) (lv' := [(0, .int a0), (1, .int a1)]) (st' := [.int (0 : Int32)]) (u' := (xU u)) [(.iconst 0, (0, 0, 0), 0, 0)] (by decide +kernel) rfl ?_
    refine xm_wk [] (lv' := []) rfl ?_
    exact go_X4_has_L14 u (0 : Int32)
  · refine xm_blk0 (pc' := 10) (lv' := [(0, .int a0), (1, .int a1)]) (st' := [.int (1 : Int32)]) (u' := (xU u)) [(.iconst 1, (0, 0, 0), 1, 0)] (by decide +kernel) rfl ?_
    refine xm_goto (pc := 10) (off := 4) (tgt := 14) (by decide +kernel) (by decide) ?_
    refine xm_wk [] (lv' := []) rfl ?_
    exact go_X4_has_L14 u (1 : Int32)
theorem ev_X4_has (a0 : Int32) (a1 : Int32) (u : xN) : ∀ r, f_X4_has a0 a1 = some r → xEm md_X4_has yX4_has [.int a0, .int a1] (xU u) (some (.int r), (xU u)) := xm_met (res := (rsI (xU u))) (as := [.int a0, .int a1]) (go_X4_has a0 a1 u) (by decide) rfl (Nat.le_of_ble_eq_true rfl)
theorem mw_X4_valueOf : xMv yX4_valueOf cX4_valueOf 5 (some .int) 2 := xMv_of (p1 := 1031) (p2 := 1030) (p3 := 97) (p4 := 56) (by decide +kernel)
/-! NeitherBareModel.valueOf(II)I (39, None, None) -/
abbrev md_X4_valueOf : xMd := (cX4_valueOf, RX4, 5, some .int, 2)
def f_X4_valueOf_L39 (N : Nat) (u : xN) (rec5 : Int32 → Int32 → Int32 → Int32 → Option Int32) (v1 : Int32) (v2 : Int32) (v4 : Int32) (t0 : Int32) (t1 : Int32) : Option Int32 := rec5 v1 v2 (t1 + t0) (v4 + (1 : Int32))
set_option maxRecDepth 20000 in
theorem go_X4_valueOf_L39 (N : Nat) (u : xN) (rec5 : Int32 → Int32 → Int32 → Int32 → Option Int32) (h5 : ∀ (v1 : Int32) (v2 : Int32) (v3 : Int32) (v4 : Int32), xGm md_X4_valueOf (rsI (xU u)) (rec5 v1 v2 v3 v4) 5 [(0, .ref 39), (1, .int v1), (2, .int v2), (3, .int v3), (4, .int v4)] [] (xU u)) (v1 : Int32) (v2 : Int32) (v4 : Int32) (t0 : Int32) (t1 : Int32) : xGm md_X4_valueOf (rsI (xU u)) (f_X4_valueOf_L39 N u rec5 v1 v2 v4 t0 t1) 39 [(0, .ref 39), (1, .int v1), (2, .int v2), (4, .int v4)] [.int t0, .int t1] (xU u) := by
  unfold f_X4_valueOf_L39
  refine xm_blk0 (pc' := 44) (lv' := [(0, .ref 39), (1, .int v1), (2, .int v2), (3, .int (t1 + t0)), (4, .int (v4 + (1 : Int32)))]) (st' := []) (u' := (xU u)) [(.iadd, (0, 0, 0), 0, 0), (.istore_n 3, (0, 0, 0), 0, 0), (.iinc 4 1, (0, 0, 0), 1, 0)] (by decide +kernel) rfl ?_
  refine xm_goto (pc := 44) (off := -39) (tgt := 5) (by decide +kernel) (by decide) ?_
  exact h5 v1 v2 (t1 + t0) (v4 + (1 : Int32))
def f_X4_valueOf_L57 (N : Nat) (u : xN) (t0 : Int32) : Option Int32 := some t0
set_option maxRecDepth 20000 in
theorem go_X4_valueOf_L57 (N : Nat) (u : xN) (t0 : Int32) : xGm md_X4_valueOf (rsI (xU u)) (f_X4_valueOf_L57 N u t0) 57 [] [.int t0] (xU u) := by
  unfold f_X4_valueOf_L57
  exact xm_iret (pc := 57) (by decide +kernel) rfl rfl
def f_X4_valueOf_L5b (N : Nat) (u : xN) (rec5 : Int32 → Int32 → Int32 → Int32 → Option Int32) (v1 : Int32) (v2 : Int32) (v3 : Int32) (v4 : Int32) : Option Int32 := if (u.1 39 1) ≤ v4 then (if v3 ≤ (5 : Int32) then f_X4_valueOf_L57 N u v3 else f_X4_valueOf_L57 N u (5 : Int32)) else Option.bind (f_X4_has v1 v4) (fun r18 => if r18 = (0 : Int32) then f_X4_valueOf_L39 N u rec5 v1 v2 v4 (0 : Int32) v3 else gdl [inb (((5 : Int32) * v4) + v2) 30] (f_X4_valueOf_L39 N u rec5 v1 v2 v4 (u.1 41 (Int32.toNatClampNeg (((5 : Int32) * v4) + v2))) v3))
set_option maxRecDepth 20000 in
theorem go_X4_valueOf_L5b (N : Nat) (u : xN) (rec5 : Int32 → Int32 → Int32 → Int32 → Option Int32) (h5 : ∀ (v1 : Int32) (v2 : Int32) (v3 : Int32) (v4 : Int32), xGm md_X4_valueOf (rsI (xU u)) (rec5 v1 v2 v3 v4) 5 [(0, .ref 39), (1, .int v1), (2, .int v2), (3, .int v3), (4, .int v4)] [] (xU u)) (v1 : Int32) (v2 : Int32) (v3 : Int32) (v4 : Int32) : xGm md_X4_valueOf (rsI (xU u)) (f_X4_valueOf_L5b N u rec5 v1 v2 v3 v4) 5 [(0, .ref 39), (1, .int v1), (2, .int v2), (3, .int v3), (4, .int v4)] [] (xU u) := by
  unfold f_X4_valueOf_L5b
  refine xm_blk0 (pc' := 11) (lv' := [(0, .ref 39), (1, .int v1), (2, .int v2), (3, .int v3), (4, .int v4)]) (st' := [.int (u.1 39 1), .int v4]) (u' := (xU u)) [(.iload 4, (0, 0, 0), 0, 0), (.aload_n 0, (0, 0, 0), 0, 0), (.getfield 147, (4, 1, 821), 0, 0)] (by decide +kernel) rfl ?_
  refine xm_icmp_ge (pc := 11) (off := 36) (tgt := 47) (by decide +kernel) (by decide) ?_ ?_
  · refine xm_blk0 (pc' := 49) (lv' := [(0, .ref 39), (1, .int v1), (2, .int v2), (3, .int v3), (4, .int v4)]) (st' := [.int (5 : Int32), .int v3]) (u' := (xU u)) [(.iload_n 3, (0, 0, 0), 0, 0), (.iconst 5, (0, 0, 0), 5, 0)] (by decide +kernel) rfl ?_
    refine xm_icmp_le (pc := 49) (off := 7) (tgt := 56) (by decide +kernel) (by decide) ?_ ?_
    · refine xm_blk0 (pc' := 57) (lv' := [(0, .ref 39), (1, .int v1), (2, .int v2), (3, .int v3), (4, .int v4)]) (st' := [.int v3]) (u' := (xU u)) [(.iload_n 3, (0, 0, 0), 0, 0)] (by decide +kernel) rfl ?_
      refine xm_wk [] (lv' := []) rfl ?_
      exact go_X4_valueOf_L57 N u v3
    · refine xm_blk0 (pc' := 53) (lv' := [(0, .ref 39), (1, .int v1), (2, .int v2), (3, .int v3), (4, .int v4)]) (st' := [.int (5 : Int32)]) (u' := (xU u)) [(.iconst 5, (0, 0, 0), 5, 0)] (by decide +kernel) rfl ?_
      refine xm_goto (pc := 53) (off := 4) (tgt := 57) (by decide +kernel) (by decide) ?_
      refine xm_wk [] (lv' := []) rfl ?_
      exact go_X4_valueOf_L57 N u (5 : Int32)
  · refine xm_blk0 (pc' := 18) (lv' := [(0, .ref 39), (1, .int v1), (2, .int v2), (3, .int v3), (4, .int v4)]) (st' := [.int v4, .int v1, .int v3]) (u' := (xU u)) [(.iload_n 3, (0, 0, 0), 0, 0), (.iload_n 1, (0, 0, 0), 0, 0), (.iload 4, (0, 0, 0), 0, 0)] (by decide +kernel) rfl ?_
    refine xm_Si (pc := 18) (mz := md_X4_has) (idx := 153) (p1 := 1032) (as := [.int v1, .int v4]) (st := [.int v3]) (ev_X4_has v1 v4 u) mw_X4_has (by decide +kernel) (by decide +kernel) (by decide) rfl (Nat.le_of_ble_eq_true rfl) (fun r18 => ?_)
    refine xm_if_eq (pc := 21) (off := 17) (tgt := 38) (by decide +kernel) (by decide) ?_ ?_
    · refine xm_blk0 (pc' := 39) (lv' := [(0, .ref 39), (1, .int v1), (2, .int v2), (3, .int v3), (4, .int v4)]) (st' := [.int (0 : Int32), .int v3]) (u' := (xU u)) [(.iconst 0, (0, 0, 0), 0, 0)] (by decide +kernel) rfl ?_
      refine xm_wk [0, 1, 2, 4] (lv' := [(0, .ref 39), (1, .int v1), (2, .int v2), (4, .int v4)]) rfl ?_
      exact go_X4_valueOf_L39 N u rec5 h5 v1 v2 v4 (0 : Int32) v3
    · refine xm_blk (bs := [inb (((5 : Int32) * v4) + v2) 30]) (pc' := 35) (lv' := [(0, .ref 39), (1, .int v1), (2, .int v2), (3, .int v3), (4, .int v4)]) (st' := [.int (u.1 41 (Int32.toNatClampNeg (((5 : Int32) * v4) + v2))), .int v3]) (u' := (xU u)) [(.aload_n 0, (0, 0, 0), 0, 0), (.getfield 13, (4, 2, 822), 0, 0), (.iconst 5, (0, 0, 0), 5, 0), (.iload 4, (0, 0, 0), 0, 0), (.imul, (0, 0, 0), 0, 0), (.iload_n 2, (0, 0, 0), 0, 0), (.iadd, (0, 0, 0), 0, 0), (.iaload, (0, 0, 0), 0, 0)] (by decide +kernel) rfl ?_
      refine xm_goto (pc := 35) (off := 4) (tgt := 39) (by decide +kernel) (by decide) ?_
      refine xm_wk [0, 1, 2, 4] (lv' := [(0, .ref 39), (1, .int v1), (2, .int v2), (4, .int v4)]) rfl ?_
      exact go_X4_valueOf_L39 N u rec5 h5 v1 v2 v4 (u.1 41 (Int32.toNatClampNeg (((5 : Int32) * v4) + v2))) v3
def f_X4_valueOf_L5 (N : Nat) (u : xN) : Nat → Int32 → Int32 → Int32 → Int32 → Option Int32
  | 0 => fun _ _ _ _ => none
  | n + 1 => fun v1 v2 v3 v4 => f_X4_valueOf_L5b N u (f_X4_valueOf_L5 N u n) v1 v2 v3 v4
theorem go_X4_valueOf_L5 (N : Nat) (u : xN) : ∀ (n : Nat) (v1 : Int32) (v2 : Int32) (v3 : Int32) (v4 : Int32), xGm md_X4_valueOf (rsI (xU u)) (f_X4_valueOf_L5 N u n v1 v2 v3 v4) 5 [(0, .ref 39), (1, .int v1), (2, .int v2), (3, .int v3), (4, .int v4)] [] (xU u) := by
  intro n
  induction n with
  | zero => intro v1 v2 v3 v4; exact xm_none
  | succ n ih => intro v1 v2 v3 v4; exact go_X4_valueOf_L5b N u _ ih v1 v2 v3 v4
def f_X4_valueOf (N : Nat) (a1 : Int32) (a2 : Int32) (u : xN) : Option Int32 := f_X4_valueOf_L5 N u N a1 a2 (0 : Int32) (0 : Int32)
set_option maxRecDepth 20000 in
theorem go_X4_valueOf (N : Nat) (a1 : Int32) (a2 : Int32) (u : xN) : xGm md_X4_valueOf (rsI (xU u)) (f_X4_valueOf N a1 a2 u) 0 [(0, .ref 39), (1, .int a1), (2, .int a2)] [] (xU u) := by
  unfold f_X4_valueOf
  refine xm_blk0 (pc' := 5) (lv' := [(0, .ref 39), (1, .int a1), (2, .int a2), (3, .int (0 : Int32)), (4, .int (0 : Int32))]) (st' := []) (u' := (xU u)) [(.iconst 0, (0, 0, 0), 0, 0), (.istore_n 3, (0, 0, 0), 0, 0), (.iconst 0, (0, 0, 0), 0, 0), (.istore 4, (0, 0, 0), 0, 0)] (by decide +kernel) rfl ?_
  exact go_X4_valueOf_L5 N u N a1 a2 (0 : Int32) (0 : Int32)
theorem ev_X4_valueOf (N : Nat) (a1 : Int32) (a2 : Int32) (u : xN) : ∀ r, f_X4_valueOf N a1 a2 u = some r → xEm md_X4_valueOf yX4_valueOf [.ref 39, .int a1, .int a2] (xU u) (some (.int r), (xU u)) := xm_met (res := (rsI (xU u))) (as := [.ref 39, .int a1, .int a2]) (go_X4_valueOf N a1 a2 u) (by decide) rfl (Nat.le_of_ble_eq_true rfl)
theorem mw_X4_upperOf : xMv yX4_upperOf cX4_upperOf 2 (some .int) 1 := xMv_of (p1 := 1046) (p2 := 1045) (p3 := 97) (p4 := 59) (by decide +kernel)
/-! NeitherBareModel.upperOf(I)I (39, None) -/
abbrev md_X4_upperOf : xMd := (cX4_upperOf, RX4, 2, some .int, 1)
def f_X4_upperOf (a1 : Int32) (u : xN) : Option Int32 := gdl [inb (((2 : Int32) + ((2 : Int32) * a1)) + (1 : Int32)) 1480] (some (u.1 40 (Int32.toNatClampNeg (((2 : Int32) + ((2 : Int32) * a1)) + (1 : Int32)))))
set_option maxRecDepth 20000 in
theorem go_X4_upperOf (a1 : Int32) (u : xN) : xGm md_X4_upperOf (rsI (xU u)) (f_X4_upperOf a1 u) 0 [(0, .ref 39), (1, .int a1)] [] (xU u) := by
  unfold f_X4_upperOf
  refine xm_blk (bs := [inb (((2 : Int32) + ((2 : Int32) * a1)) + (1 : Int32)) 1480]) (pc' := 12) (lv' := [(0, .ref 39), (1, .int a1)]) (st' := [.int (u.1 40 (Int32.toNatClampNeg (((2 : Int32) + ((2 : Int32) * a1)) + (1 : Int32))))]) (u' := (xU u)) [(.aload_n 0, (0, 0, 0), 0, 0), (.getfield 7, (4, 0, 820), 0, 0), (.iconst 2, (0, 0, 0), 2, 0), (.iconst 2, (0, 0, 0), 2, 0), (.iload_n 1, (0, 0, 0), 0, 0), (.imul, (0, 0, 0), 0, 0), (.iadd, (0, 0, 0), 0, 0), (.iconst 1, (0, 0, 0), 1, 0), (.iadd, (0, 0, 0), 0, 0), (.iaload, (0, 0, 0), 0, 0)] (by decide +kernel) rfl ?_
  exact xm_iret (pc := 12) (by decide +kernel) rfl rfl
theorem ev_X4_upperOf (a1 : Int32) (u : xN) : ∀ r, f_X4_upperOf a1 u = some r → xEm md_X4_upperOf yX4_upperOf [.ref 39, .int a1] (xU u) (some (.int r), (xU u)) := xm_met (res := (rsI (xU u))) (as := [.ref 39, .int a1]) (go_X4_upperOf a1 u) (by decide) rfl (Nat.le_of_ble_eq_true rfl)
theorem mw_X4_isMuch : xMv yX4_isMuch cX4_isMuch 3 (some .boolean) 2 := xMv_of (p1 := 1050) (p2 := 1049) (p3 := 97) (p4 := 60) (by decide +kernel)
/-! NeitherBareModel.isMuch(II)Z (39, None, None) -/
abbrev md_X4_isMuch : xMd := (cX4_isMuch, RX4, 3, some .boolean, 3)
def f_X4_isMuch_L19 (N : Nat) (u : xN) (t0 : Int32) : Option Int32 := gdl [isb t0] (some t0)
set_option maxRecDepth 20000 in
theorem go_X4_isMuch_L19 (N : Nat) (u : xN) (t0 : Int32) : xGm md_X4_isMuch (rsI (xU u)) (f_X4_isMuch_L19 N u t0) 19 [] [.int t0] (xU u) := by
  unfold f_X4_isMuch_L19
  exact xm_zret (pc := 19) (by decide +kernel) rfl rfl
def f_X4_isMuch (N : Nat) (a1 : Int32) (a2 : Int32) (u : xN) : Option Int32 := Option.bind (f_X4_valueOf N a1 a2 u) (fun r3 => Option.bind (f_X4_upperOf a2 u) (fun r8 => if r3 < r8 then f_X4_isMuch_L19 N u (0 : Int32) else f_X4_isMuch_L19 N u (1 : Int32)))
set_option maxRecDepth 20000 in
theorem go_X4_isMuch (N : Nat) (a1 : Int32) (a2 : Int32) (u : xN) : xGm md_X4_isMuch (rsI (xU u)) (f_X4_isMuch N a1 a2 u) 0 [(0, .ref 39), (1, .int a1), (2, .int a2)] [] (xU u) := by
  unfold f_X4_isMuch
  refine xm_blk0 (pc' := 3) (lv' := [(0, .ref 39), (1, .int a1), (2, .int a2)]) (st' := [.int a2, .int a1, .ref 39]) (u' := (xU u)) [(.aload_n 0, (0, 0, 0), 0, 0), (.iload_n 1, (0, 0, 0), 0, 0), (.iload_n 2, (0, 0, 0), 0, 0)] (by decide +kernel) rfl ?_
  refine xm_Vi (pc := 3) (mz := md_X4_valueOf) (idx := 157) (p1 := 1028) (a := 39) (as := [.int a1, .int a2]) (st := []) (ev_X4_valueOf N a1 a2 u) mw_X4_valueOf (by decide +kernel) (by decide +kernel) (by decide) rfl rfl (by decide) rfl (Nat.le_of_ble_eq_true rfl) (fun r3 => ?_)
  refine xm_blk0 (pc' := 8) (lv' := [(0, .ref 39), (1, .int a1), (2, .int a2)]) (st' := [.int a2, .ref 39, .int r3]) (u' := (xU u)) [(.aload_n 0, (0, 0, 0), 0, 0), (.iload_n 2, (0, 0, 0), 0, 0)] (by decide +kernel) rfl ?_
  refine xm_Vi (pc := 8) (mz := md_X4_upperOf) (idx := 160) (p1 := 1043) (a := 39) (as := [.int a2]) (st := [.int r3]) (ev_X4_upperOf a2 u) mw_X4_upperOf (by decide +kernel) (by decide +kernel) (by decide) rfl rfl (by decide) rfl (Nat.le_of_ble_eq_true rfl) (fun r8 => ?_)
  refine xm_icmp_lt (pc := 11) (off := 7) (tgt := 18) (by decide +kernel) (by decide) ?_ ?_
  · refine xm_blk0 (pc' := 19) (lv' := [(0, .ref 39), (1, .int a1), (2, .int a2)]) (st' := [.int (0 : Int32)]) (u' := (xU u)) [(.iconst 0, (0, 0, 0), 0, 0)] (by decide +kernel) rfl ?_
    refine xm_wk [] (lv' := []) rfl ?_
    exact go_X4_isMuch_L19 N u (0 : Int32)
  · refine xm_blk0 (pc' := 15) (lv' := [(0, .ref 39), (1, .int a1), (2, .int a2)]) (st' := [.int (1 : Int32)]) (u' := (xU u)) [(.iconst 1, (0, 0, 0), 1, 0)] (by decide +kernel) rfl ?_
    refine xm_goto (pc := 15) (off := 4) (tgt := 19) (by decide +kernel) (by decide) ?_
    refine xm_wk [] (lv' := []) rfl ?_
    exact go_X4_isMuch_L19 N u (1 : Int32)
theorem ev_X4_isMuch (N : Nat) (a1 : Int32) (a2 : Int32) (u : xN) : ∀ r, f_X4_isMuch N a1 a2 u = some r → xEm md_X4_isMuch yX4_isMuch [.ref 39, .int a1, .int a2] (xU u) (some (.int r), (xU u)) := xm_met (res := (rsI (xU u))) (as := [.ref 39, .int a1, .int a2]) (go_X4_isMuch N a1 a2 u) (by decide) rfl (Nat.le_of_ble_eq_true rfl)
theorem mw_X4_lowerOf : xMv yX4_lowerOf cX4_lowerOf 2 (some .int) 1 := xMv_of (p1 := 1042) (p2 := 1041) (p3 := 97) (p4 := 58) (by decide +kernel)
/-! NeitherBareModel.lowerOf(I)I (39, None) -/
abbrev md_X4_lowerOf : xMd := (cX4_lowerOf, RX4, 2, some .int, 1)
def f_X4_lowerOf (a1 : Int32) (u : xN) : Option Int32 := gdl [inb ((2 : Int32) + ((2 : Int32) * a1)) 1480] (some (u.1 40 (Int32.toNatClampNeg ((2 : Int32) + ((2 : Int32) * a1)))))
set_option maxRecDepth 20000 in
theorem go_X4_lowerOf (a1 : Int32) (u : xN) : xGm md_X4_lowerOf (rsI (xU u)) (f_X4_lowerOf a1 u) 0 [(0, .ref 39), (1, .int a1)] [] (xU u) := by
  unfold f_X4_lowerOf
  refine xm_blk (bs := [inb ((2 : Int32) + ((2 : Int32) * a1)) 1480]) (pc' := 10) (lv' := [(0, .ref 39), (1, .int a1)]) (st' := [.int (u.1 40 (Int32.toNatClampNeg ((2 : Int32) + ((2 : Int32) * a1))))]) (u' := (xU u)) [(.aload_n 0, (0, 0, 0), 0, 0), (.getfield 7, (4, 0, 820), 0, 0), (.iconst 2, (0, 0, 0), 2, 0), (.iconst 2, (0, 0, 0), 2, 0), (.iload_n 1, (0, 0, 0), 0, 0), (.imul, (0, 0, 0), 0, 0), (.iadd, (0, 0, 0), 0, 0), (.iaload, (0, 0, 0), 0, 0)] (by decide +kernel) rfl ?_
  exact xm_iret (pc := 10) (by decide +kernel) rfl rfl
theorem ev_X4_lowerOf (a1 : Int32) (u : xN) : ∀ r, f_X4_lowerOf a1 u = some r → xEm md_X4_lowerOf yX4_lowerOf [.ref 39, .int a1] (xU u) (some (.int r), (xU u)) := xm_met (res := (rsI (xU u))) (as := [.ref 39, .int a1]) (go_X4_lowerOf a1 u) (by decide) rfl (Nat.le_of_ble_eq_true rfl)
theorem mw_X4_isBetween : xMv yX4_isBetween cX4_isBetween 3 (some .boolean) 2 := xMv_of (p1 := 1038) (p2 := 1037) (p3 := 97) (p4 := 57) (by decide +kernel)
/-! NeitherBareModel.isBetween(II)Z (39, None, None) -/
abbrev md_X4_isBetween : xMd := (cX4_isBetween, RX4, 3, some .boolean, 2)
def f_X4_isBetween_L23 (u : xN) (t0 : Int32) : Option Int32 := gdl [isb t0] (some t0)
set_option maxRecDepth 20000 in
theorem go_X4_isBetween_L23 (u : xN) (t0 : Int32) : xGm md_X4_isBetween (rsI (xU u)) (f_X4_isBetween_L23 u t0) 23 [] [.int t0] (xU u) := by
  unfold f_X4_isBetween_L23
  exact xm_zret (pc := 23) (by decide +kernel) rfl rfl
def f_X4_isBetween_L22 (u : xN) : Option Int32 := f_X4_isBetween_L23 u (0 : Int32)
set_option maxRecDepth 20000 in
theorem go_X4_isBetween_L22 (u : xN) : xGm md_X4_isBetween (rsI (xU u)) (f_X4_isBetween_L22 u) 22 [] [] (xU u) := by
  unfold f_X4_isBetween_L22
  refine xm_blk0 (pc' := 23) (lv' := []) (st' := [.int (0 : Int32)]) (u' := (xU u)) [(.iconst 0, (0, 0, 0), 0, 0)] (by decide +kernel) rfl ?_
  exact go_X4_isBetween_L23 u (0 : Int32)
def f_X4_isBetween (a1 : Int32) (a2 : Int32) (u : xN) : Option Int32 := Option.bind (f_X4_lowerOf a2 u) (fun r3 => if a1 ≤ r3 then f_X4_isBetween_L22 u else Option.bind (f_X4_upperOf a2 u) (fun r12 => if r12 ≤ a1 then f_X4_isBetween_L22 u else f_X4_isBetween_L23 u (1 : Int32)))
set_option maxRecDepth 20000 in
theorem go_X4_isBetween (a1 : Int32) (a2 : Int32) (u : xN) : xGm md_X4_isBetween (rsI (xU u)) (f_X4_isBetween a1 a2 u) 0 [(0, .ref 39), (1, .int a1), (2, .int a2)] [] (xU u) := by
  unfold f_X4_isBetween
  refine xm_blk0 (pc' := 3) (lv' := [(0, .ref 39), (1, .int a1), (2, .int a2)]) (st' := [.int a2, .ref 39, .int a1]) (u' := (xU u)) [(.iload_n 1, (0, 0, 0), 0, 0), (.aload_n 0, (0, 0, 0), 0, 0), (.iload_n 2, (0, 0, 0), 0, 0)] (by decide +kernel) rfl ?_
  refine xm_Vi (pc := 3) (mz := md_X4_lowerOf) (idx := 163) (p1 := 1039) (a := 39) (as := [.int a2]) (st := [.int a1]) (ev_X4_lowerOf a2 u) mw_X4_lowerOf (by decide +kernel) (by decide +kernel) (by decide) rfl rfl (by decide) rfl (Nat.le_of_ble_eq_true rfl) (fun r3 => ?_)
  refine xm_icmp_le (pc := 6) (off := 16) (tgt := 22) (by decide +kernel) (by decide) ?_ ?_
  · refine xm_wk [] (lv' := []) rfl ?_
    exact go_X4_isBetween_L22 u
  · refine xm_blk0 (pc' := 12) (lv' := [(0, .ref 39), (1, .int a1), (2, .int a2)]) (st' := [.int a2, .ref 39, .int a1]) (u' := (xU u)) [(.iload_n 1, (0, 0, 0), 0, 0), (.aload_n 0, (0, 0, 0), 0, 0), (.iload_n 2, (0, 0, 0), 0, 0)] (by decide +kernel) rfl ?_
    refine xm_Vi (pc := 12) (mz := md_X4_upperOf) (idx := 160) (p1 := 1043) (a := 39) (as := [.int a2]) (st := [.int a1]) (ev_X4_upperOf a2 u) mw_X4_upperOf (by decide +kernel) (by decide +kernel) (by decide) rfl rfl (by decide) rfl (Nat.le_of_ble_eq_true rfl) (fun r12 => ?_)
    refine xm_icmp_ge (pc := 15) (off := 7) (tgt := 22) (by decide +kernel) (by decide) ?_ ?_
    · refine xm_wk [] (lv' := []) rfl ?_
      exact go_X4_isBetween_L22 u
    · refine xm_blk0 (pc' := 19) (lv' := [(0, .ref 39), (1, .int a1), (2, .int a2)]) (st' := [.int (1 : Int32)]) (u' := (xU u)) [(.iconst 1, (0, 0, 0), 1, 0)] (by decide +kernel) rfl ?_
      refine xm_goto (pc := 19) (off := 4) (tgt := 23) (by decide +kernel) (by decide) ?_
      refine xm_wk [] (lv' := []) rfl ?_
      exact go_X4_isBetween_L23 u (1 : Int32)
theorem ev_X4_isBetween (a1 : Int32) (a2 : Int32) (u : xN) : ∀ r, f_X4_isBetween a1 a2 u = some r → xEm md_X4_isBetween yX4_isBetween [.ref 39, .int a1, .int a2] (xU u) (some (.int r), (xU u)) := xm_met (res := (rsI (xU u))) (as := [.ref 39, .int a1, .int a2]) (go_X4_isBetween a1 a2 u) (by decide) rfl (Nat.le_of_ble_eq_true rfl)
theorem mw_X4_half : xMv yX4_half cX4_half 2 (some .int) 1 := xMv_of (p1 := 1054) (p2 := 1053) (p3 := 97) (p4 := 61) (by decide +kernel)
/-! NeitherBareModel.half(I)I (39, None) -/
abbrev md_X4_half : xMd := (cX4_half, RX4, 2, some .int, 2)
def f_X4_half (a1 : Int32) (u : xN) : Option Int32 := Option.bind (f_X4_lowerOf a1 u) (fun r2 => Option.bind (f_X4_upperOf a1 u) (fun r7 => gdl [nzi (2 : Int32)] (some ((r2 + r7) / (2 : Int32)))))
set_option maxRecDepth 20000 in
theorem go_X4_half (a1 : Int32) (u : xN) : xGm md_X4_half (rsI (xU u)) (f_X4_half a1 u) 0 [(0, .ref 39), (1, .int a1)] [] (xU u) := by
  unfold f_X4_half
  refine xm_blk0 (pc' := 2) (lv' := [(0, .ref 39), (1, .int a1)]) (st' := [.int a1, .ref 39]) (u' := (xU u)) [(.aload_n 0, (0, 0, 0), 0, 0), (.iload_n 1, (0, 0, 0), 0, 0)] (by decide +kernel) rfl ?_
  refine xm_Vi (pc := 2) (mz := md_X4_lowerOf) (idx := 163) (p1 := 1039) (a := 39) (as := [.int a1]) (st := []) (ev_X4_lowerOf a1 u) mw_X4_lowerOf (by decide +kernel) (by decide +kernel) (by decide) rfl rfl (by decide) rfl (Nat.le_of_ble_eq_true rfl) (fun r2 => ?_)
  refine xm_blk0 (pc' := 7) (lv' := [(0, .ref 39), (1, .int a1)]) (st' := [.int a1, .ref 39, .int r2]) (u' := (xU u)) [(.aload_n 0, (0, 0, 0), 0, 0), (.iload_n 1, (0, 0, 0), 0, 0)] (by decide +kernel) rfl ?_
  refine xm_Vi (pc := 7) (mz := md_X4_upperOf) (idx := 160) (p1 := 1043) (a := 39) (as := [.int a1]) (st := [.int r2]) (ev_X4_upperOf a1 u) mw_X4_upperOf (by decide +kernel) (by decide +kernel) (by decide) rfl rfl (by decide) rfl (Nat.le_of_ble_eq_true rfl) (fun r7 => ?_)
  refine xm_blk (bs := [nzi (2 : Int32)]) (pc' := 13) (lv' := [(0, .ref 39), (1, .int a1)]) (st' := [.int ((r2 + r7) / (2 : Int32))]) (u' := (xU u)) [(.iadd, (0, 0, 0), 0, 0), (.iconst 2, (0, 0, 0), 2, 0), (.idiv, (0, 0, 0), 0, 0)] (by decide +kernel) rfl ?_
  exact xm_iret (pc := 13) (by decide +kernel) rfl rfl
theorem ev_X4_half (a1 : Int32) (u : xN) : ∀ r, f_X4_half a1 u = some r → xEm md_X4_half yX4_half [.ref 39, .int a1] (xU u) (some (.int r), (xU u)) := xm_met (res := (rsI (xU u))) (as := [.ref 39, .int a1]) (go_X4_half a1 u) (by decide) rfl (Nat.le_of_ble_eq_true rfl)
theorem mw_X4_isLittle : xMv yX4_isLittle cX4_isLittle 3 (some .boolean) 2 := xMv_of (p1 := 1058) (p2 := 1057) (p3 := 97) (p4 := 62) (by decide +kernel)
/-! NeitherBareModel.isLittle(II)Z (39, None, None) -/
abbrev md_X4_isLittle : xMd := (cX4_isLittle, RX4, 3, some .boolean, 3)
def f_X4_isLittle_L19 (N : Nat) (u : xN) (t0 : Int32) : Option Int32 := gdl [isb t0] (some t0)
set_option maxRecDepth 20000 in
theorem go_X4_isLittle_L19 (N : Nat) (u : xN) (t0 : Int32) : xGm md_X4_isLittle (rsI (xU u)) (f_X4_isLittle_L19 N u t0) 19 [] [.int t0] (xU u) := by
  unfold f_X4_isLittle_L19
  exact xm_zret (pc := 19) (by decide +kernel) rfl rfl
def f_X4_isLittle (N : Nat) (a1 : Int32) (a2 : Int32) (u : xN) : Option Int32 := Option.bind (f_X4_valueOf N a1 a2 u) (fun r3 => Option.bind (f_X4_lowerOf a2 u) (fun r8 => if r8 < r3 then f_X4_isLittle_L19 N u (0 : Int32) else f_X4_isLittle_L19 N u (1 : Int32)))
set_option maxRecDepth 20000 in
theorem go_X4_isLittle (N : Nat) (a1 : Int32) (a2 : Int32) (u : xN) : xGm md_X4_isLittle (rsI (xU u)) (f_X4_isLittle N a1 a2 u) 0 [(0, .ref 39), (1, .int a1), (2, .int a2)] [] (xU u) := by
  unfold f_X4_isLittle
  refine xm_blk0 (pc' := 3) (lv' := [(0, .ref 39), (1, .int a1), (2, .int a2)]) (st' := [.int a2, .int a1, .ref 39]) (u' := (xU u)) [(.aload_n 0, (0, 0, 0), 0, 0), (.iload_n 1, (0, 0, 0), 0, 0), (.iload_n 2, (0, 0, 0), 0, 0)] (by decide +kernel) rfl ?_
  refine xm_Vi (pc := 3) (mz := md_X4_valueOf) (idx := 157) (p1 := 1028) (a := 39) (as := [.int a1, .int a2]) (st := []) (ev_X4_valueOf N a1 a2 u) mw_X4_valueOf (by decide +kernel) (by decide +kernel) (by decide) rfl rfl (by decide) rfl (Nat.le_of_ble_eq_true rfl) (fun r3 => ?_)
  refine xm_blk0 (pc' := 8) (lv' := [(0, .ref 39), (1, .int a1), (2, .int a2)]) (st' := [.int a2, .ref 39, .int r3]) (u' := (xU u)) [(.aload_n 0, (0, 0, 0), 0, 0), (.iload_n 2, (0, 0, 0), 0, 0)] (by decide +kernel) rfl ?_
  refine xm_Vi (pc := 8) (mz := md_X4_lowerOf) (idx := 163) (p1 := 1039) (a := 39) (as := [.int a2]) (st := [.int r3]) (ev_X4_lowerOf a2 u) mw_X4_lowerOf (by decide +kernel) (by decide +kernel) (by decide) rfl rfl (by decide) rfl (Nat.le_of_ble_eq_true rfl) (fun r8 => ?_)
  refine xm_icmp_gt (pc := 11) (off := 7) (tgt := 18) (by decide +kernel) (by decide) ?_ ?_
  · refine xm_blk0 (pc' := 19) (lv' := [(0, .ref 39), (1, .int a1), (2, .int a2)]) (st' := [.int (0 : Int32)]) (u' := (xU u)) [(.iconst 0, (0, 0, 0), 0, 0)] (by decide +kernel) rfl ?_
    refine xm_wk [] (lv' := []) rfl ?_
    exact go_X4_isLittle_L19 N u (0 : Int32)
  · refine xm_blk0 (pc' := 15) (lv' := [(0, .ref 39), (1, .int a1), (2, .int a2)]) (st' := [.int (1 : Int32)]) (u' := (xU u)) [(.iconst 1, (0, 0, 0), 1, 0)] (by decide +kernel) rfl ?_
    refine xm_goto (pc := 15) (off := 4) (tgt := 19) (by decide +kernel) (by decide) ?_
    refine xm_wk [] (lv' := []) rfl ?_
    exact go_X4_isLittle_L19 N u (1 : Int32)
theorem ev_X4_isLittle (N : Nat) (a1 : Int32) (a2 : Int32) (u : xN) : ∀ r, f_X4_isLittle N a1 a2 u = some r → xEm md_X4_isLittle yX4_isLittle [.ref 39, .int a1, .int a2] (xU u) (some (.int r), (xU u)) := xm_met (res := (rsI (xU u))) (as := [.ref 39, .int a1, .int a2]) (go_X4_isLittle N a1 a2 u) (by decide) rfl (Nat.le_of_ble_eq_true rfl)
theorem mw_X4_holdsOf : xMv yX4_holdsOf cX4_holdsOf 5 (some .boolean) 4 := xMv_of (p1 := 1027) (p2 := 1026) (p3 := 97) (p4 := 55) (by decide +kernel)
/-! NeitherBareModel.holdsOf(IIII)Z (39, None, None, None, None) -/
abbrev md_X4_holdsOf : xMd := (cX4_holdsOf, RX4, 5, some .boolean, 4)
def f_X4_holdsOf_L74 (N : Nat) (u : xN) (t0 : Int32) : Option Int32 := gdl [isb t0] (some t0)
set_option maxRecDepth 20000 in
theorem go_X4_holdsOf_L74 (N : Nat) (u : xN) (t0 : Int32) : xGm md_X4_holdsOf (rsI (xU u)) (f_X4_holdsOf_L74 N u t0) 74 [] [.int t0] (xU u) := by
  unfold f_X4_holdsOf_L74
  exact xm_zret (pc := 74) (by decide +kernel) rfl rfl
def f_X4_holdsOf_L73 (N : Nat) (u : xN) : Option Int32 := f_X4_holdsOf_L74 N u (0 : Int32)
set_option maxRecDepth 20000 in
theorem go_X4_holdsOf_L73 (N : Nat) (u : xN) : xGm md_X4_holdsOf (rsI (xU u)) (f_X4_holdsOf_L73 N u) 73 [] [] (xU u) := by
  unfold f_X4_holdsOf_L73
  refine xm_blk0 (pc' := 74) (lv' := []) (st' := [.int (0 : Int32)]) (u' := (xU u)) [(.iconst 0, (0, 0, 0), 0, 0)] (by decide +kernel) rfl ?_
  exact go_X4_holdsOf_L74 N u (0 : Int32)
def f_X4_holdsOf_L90 (N : Nat) (u : xN) (t0 : Int32) : Option Int32 := gdl [isb t0] (some t0)
set_option maxRecDepth 20000 in
theorem go_X4_holdsOf_L90 (N : Nat) (u : xN) (t0 : Int32) : xGm md_X4_holdsOf (rsI (xU u)) (f_X4_holdsOf_L90 N u t0) 90 [] [.int t0] (xU u) := by
  unfold f_X4_holdsOf_L90
  exact xm_zret (pc := 90) (by decide +kernel) rfl rfl
def f_X4_holdsOf_L124 (N : Nat) (u : xN) (t0 : Int32) : Option Int32 := gdl [isb t0] (some t0)
set_option maxRecDepth 20000 in
theorem go_X4_holdsOf_L124 (N : Nat) (u : xN) (t0 : Int32) : xGm md_X4_holdsOf (rsI (xU u)) (f_X4_holdsOf_L124 N u t0) 124 [] [.int t0] (xU u) := by
  unfold f_X4_holdsOf_L124
  exact xm_zret (pc := 124) (by decide +kernel) rfl rfl
def f_X4_holdsOf_L123 (N : Nat) (u : xN) : Option Int32 := f_X4_holdsOf_L124 N u (0 : Int32)
set_option maxRecDepth 20000 in
theorem go_X4_holdsOf_L123 (N : Nat) (u : xN) : xGm md_X4_holdsOf (rsI (xU u)) (f_X4_holdsOf_L123 N u) 123 [] [] (xU u) := by
  unfold f_X4_holdsOf_L123
  refine xm_blk0 (pc' := 124) (lv' := []) (st' := [.int (0 : Int32)]) (u' := (xU u)) [(.iconst 0, (0, 0, 0), 0, 0)] (by decide +kernel) rfl ?_
  exact go_X4_holdsOf_L124 N u (0 : Int32)
def f_X4_holdsOf_L150 (N : Nat) (u : xN) (t0 : Int32) : Option Int32 := gdl [isb t0] (some t0)
set_option maxRecDepth 20000 in
theorem go_X4_holdsOf_L150 (N : Nat) (u : xN) (t0 : Int32) : xGm md_X4_holdsOf (rsI (xU u)) (f_X4_holdsOf_L150 N u t0) 150 [] [.int t0] (xU u) := by
  unfold f_X4_holdsOf_L150
  exact xm_zret (pc := 150) (by decide +kernel) rfl rfl
def f_X4_holdsOf_L149 (N : Nat) (u : xN) : Option Int32 := f_X4_holdsOf_L150 N u (0 : Int32)
set_option maxRecDepth 20000 in
theorem go_X4_holdsOf_L149 (N : Nat) (u : xN) : xGm md_X4_holdsOf (rsI (xU u)) (f_X4_holdsOf_L149 N u) 149 [] [] (xU u) := by
  unfold f_X4_holdsOf_L149
  refine xm_blk0 (pc' := 150) (lv' := []) (st' := [.int (0 : Int32)]) (u' := (xU u)) [(.iconst 0, (0, 0, 0), 0, 0)] (by decide +kernel) rfl ?_
  exact go_X4_holdsOf_L150 N u (0 : Int32)
def f_X4_holdsOf (N : Nat) (a1 : Int32) (a2 : Int32) (a3 : Int32) (a4 : Int32) (u : xN) : Option Int32 := if Int32.toInt a1 < 1 ∨ 5 < Int32.toInt a1 then (Option.bind (f_X4_isMuch N a4 a2 u) (fun r155 => gdl [isb r155] (some r155))) else if a1 = (1 : Int32) then (Option.bind (f_X4_valueOf N a4 a2 u) (fun r41 => Option.bind (f_X4_isBetween r41 a2 u) (fun r45 => gdl [isb r45] (some r45)))) else if a1 = (2 : Int32) then (Option.bind (f_X4_isMuch N a4 a2 u) (fun r53 => if r53 = (0 : Int32) then f_X4_holdsOf_L73 N u else Option.bind (f_X4_isMuch N a4 a3 u) (fun r63 => if r63 = (0 : Int32) then f_X4_holdsOf_L73 N u else f_X4_holdsOf_L74 N u (1 : Int32)))) else if a1 = (3 : Int32) then (Option.bind (f_X4_isMuch N a4 a2 u) (fun r79 => if r79 = (0 : Int32) then f_X4_holdsOf_L90 N u (1 : Int32) else f_X4_holdsOf_L90 N u (0 : Int32))) else if a1 = (4 : Int32) then (Option.bind (f_X4_valueOf N a4 a2 u) (fun r95 => Option.bind (f_X4_half a2 u) (fun r100 => if r95 = r100 then Option.bind (f_X4_half a2 u) (fun r109 => Option.bind (f_X4_isBetween r109 a2 u) (fun r113 => if r113 = (0 : Int32) then f_X4_holdsOf_L123 N u else f_X4_holdsOf_L124 N u (1 : Int32))) else f_X4_holdsOf_L123 N u))) else if a1 = (5 : Int32) then (Option.bind (f_X4_isMuch N a4 a2 u) (fun r129 => if r129 = (0 : Int32) then f_X4_holdsOf_L149 N u else Option.bind (f_X4_isLittle N a4 a3 u) (fun r139 => if r139 = (0 : Int32) then f_X4_holdsOf_L149 N u else f_X4_holdsOf_L150 N u (1 : Int32)))) else none
set_option maxRecDepth 20000 in
theorem go_X4_holdsOf (N : Nat) (a1 : Int32) (a2 : Int32) (a3 : Int32) (a4 : Int32) (u : xN) : xGm md_X4_holdsOf (rsI (xU u)) (f_X4_holdsOf N a1 a2 a3 a4 u) 0 [(0, .ref 39), (1, .int a1), (2, .int a2), (3, .int a3), (4, .int a4)] [] (xU u) := by
  unfold f_X4_holdsOf
  refine xm_blk0 (pc' := 1) (lv' := [(0, .ref 39), (1, .int a1), (2, .int a2), (3, .int a3), (4, .int a4)]) (st' := [.int a1]) (u' := (xU u)) [(.iload_n 1, (0, 0, 0), 0, 0)] (by decide +kernel) rfl ?_
  refine xm_tout (pc := 1) (tgt := 151) (dflt := 150) (lo := 1) (hi := 5) (offs := #[35, 48, 74, 90, 124]) (len := 35) (by decide +kernel) (by decide) ?_ ?_
  · refine xm_blk0 (pc' := 155) (lv' := [(0, .ref 39), (1, .int a1), (2, .int a2), (3, .int a3), (4, .int a4)]) (st' := [.int a2, .int a4, .ref 39]) (u' := (xU u)) [(.aload_n 0, (0, 0, 0), 0, 0), (.iload 4, (0, 0, 0), 0, 0), (.iload_n 2, (0, 0, 0), 0, 0)] (by decide +kernel) rfl ?_
    refine xm_Vi (pc := 155) (mz := md_X4_isMuch) (idx := 169) (p1 := 1047) (a := 39) (as := [.int a4, .int a2]) (st := []) (ev_X4_isMuch N a4 a2 u) mw_X4_isMuch (by decide +kernel) (by decide +kernel) (by decide) rfl rfl (by decide) rfl (Nat.le_of_ble_eq_true rfl) (fun r155 => ?_)
    exact xm_zret (pc := 158) (by decide +kernel) rfl rfl
  · refine xm_tin (pc := 1) (tgt := 36) (off := 35) (dflt := 150) (lo := 1) (hi := 5) (offs := #[35, 48, 74, 90, 124]) (len := 35) (1 : Int32) (by decide +kernel) (by decide) (by decide) (by decide) (by decide) ?_ ?_
    · refine xm_blk0 (pc' := 41) (lv' := [(0, .ref 39), (1, .int a1), (2, .int a2), (3, .int a3), (4, .int a4)]) (st' := [.int a2, .int a4, .ref 39, .ref 39]) (u' := (xU u)) [(.aload_n 0, (0, 0, 0), 0, 0), (.aload_n 0, (0, 0, 0), 0, 0), (.iload 4, (0, 0, 0), 0, 0), (.iload_n 2, (0, 0, 0), 0, 0)] (by decide +kernel) rfl ?_
      refine xm_Vi (pc := 41) (mz := md_X4_valueOf) (idx := 157) (p1 := 1028) (a := 39) (as := [.int a4, .int a2]) (st := [.ref 39]) (ev_X4_valueOf N a4 a2 u) mw_X4_valueOf (by decide +kernel) (by decide +kernel) (by decide) rfl rfl (by decide) rfl (Nat.le_of_ble_eq_true rfl) (fun r41 => ?_)
      refine xm_blk0 (pc' := 45) (lv' := [(0, .ref 39), (1, .int a1), (2, .int a2), (3, .int a3), (4, .int a4)]) (st' := [.int a2, .int r41, .ref 39]) (u' := (xU u)) [(.iload_n 2, (0, 0, 0), 0, 0)] (by decide +kernel) rfl ?_
      refine xm_Vi (pc := 45) (mz := md_X4_isBetween) (idx := 166) (p1 := 1035) (a := 39) (as := [.int r41, .int a2]) (st := []) (ev_X4_isBetween r41 a2 u) mw_X4_isBetween (by decide +kernel) (by decide +kernel) (by decide) rfl rfl (by decide) rfl (Nat.le_of_ble_eq_true rfl) (fun r45 => ?_)
      exact xm_zret (pc := 48) (by decide +kernel) rfl rfl
    refine xm_tin (pc := 1) (tgt := 49) (off := 48) (dflt := 150) (lo := 1) (hi := 5) (offs := #[35, 48, 74, 90, 124]) (len := 35) (2 : Int32) (by decide +kernel) (by decide) (by decide) (by decide) (by decide) ?_ ?_
    · refine xm_blk0 (pc' := 53) (lv' := [(0, .ref 39), (1, .int a1), (2, .int a2), (3, .int a3), (4, .int a4)]) (st' := [.int a2, .int a4, .ref 39]) (u' := (xU u)) [(.aload_n 0, (0, 0, 0), 0, 0), (.iload 4, (0, 0, 0), 0, 0), (.iload_n 2, (0, 0, 0), 0, 0)] (by decide +kernel) rfl ?_
      refine xm_Vi (pc := 53) (mz := md_X4_isMuch) (idx := 169) (p1 := 1047) (a := 39) (as := [.int a4, .int a2]) (st := []) (ev_X4_isMuch N a4 a2 u) mw_X4_isMuch (by decide +kernel) (by decide +kernel) (by decide) rfl rfl (by decide) rfl (Nat.le_of_ble_eq_true rfl) (fun r53 => ?_)
      refine xm_if_eq (pc := 56) (off := 17) (tgt := 73) (by decide +kernel) (by decide) ?_ ?_
      · refine xm_wk [] (lv' := []) rfl ?_
        exact go_X4_holdsOf_L73 N u
      · refine xm_blk0 (pc' := 63) (lv' := [(0, .ref 39), (1, .int a1), (2, .int a2), (3, .int a3), (4, .int a4)]) (st' := [.int a3, .int a4, .ref 39]) (u' := (xU u)) [(.aload_n 0, (0, 0, 0), 0, 0), (.iload 4, (0, 0, 0), 0, 0), (.iload_n 3, (0, 0, 0), 0, 0)] (by decide +kernel) rfl ?_
        refine xm_Vi (pc := 63) (mz := md_X4_isMuch) (idx := 169) (p1 := 1047) (a := 39) (as := [.int a4, .int a3]) (st := []) (ev_X4_isMuch N a4 a3 u) mw_X4_isMuch (by decide +kernel) (by decide +kernel) (by decide) rfl rfl (by decide) rfl (Nat.le_of_ble_eq_true rfl) (fun r63 => ?_)
        refine xm_if_eq (pc := 66) (off := 7) (tgt := 73) (by decide +kernel) (by decide) ?_ ?_
        · refine xm_wk [] (lv' := []) rfl ?_
          exact go_X4_holdsOf_L73 N u
        · refine xm_blk0 (pc' := 70) (lv' := [(0, .ref 39), (1, .int a1), (2, .int a2), (3, .int a3), (4, .int a4)]) (st' := [.int (1 : Int32)]) (u' := (xU u)) [(.iconst 1, (0, 0, 0), 1, 0)] (by decide +kernel) rfl ?_
          refine xm_goto (pc := 70) (off := 4) (tgt := 74) (by decide +kernel) (by decide) ?_
          refine xm_wk [] (lv' := []) rfl ?_
          exact go_X4_holdsOf_L74 N u (1 : Int32)
    refine xm_tin (pc := 1) (tgt := 75) (off := 74) (dflt := 150) (lo := 1) (hi := 5) (offs := #[35, 48, 74, 90, 124]) (len := 35) (3 : Int32) (by decide +kernel) (by decide) (by decide) (by decide) (by decide) ?_ ?_
    · refine xm_blk0 (pc' := 79) (lv' := [(0, .ref 39), (1, .int a1), (2, .int a2), (3, .int a3), (4, .int a4)]) (st' := [.int a2, .int a4, .ref 39]) (u' := (xU u)) [(.aload_n 0, (0, 0, 0), 0, 0), (.iload 4, (0, 0, 0), 0, 0), (.iload_n 2, (0, 0, 0), 0, 0)] (by decide +kernel) rfl ?_
      refine xm_Vi (pc := 79) (mz := md_X4_isMuch) (idx := 169) (p1 := 1047) (a := 39) (as := [.int a4, .int a2]) (st := []) (ev_X4_isMuch N a4 a2 u) mw_X4_isMuch (by decide +kernel) (by decide +kernel) (by decide) rfl rfl (by decide) rfl (Nat.le_of_ble_eq_true rfl) (fun r79 => ?_)
      refine xm_if_ne (pc := 82) (off := 7) (tgt := 89) (by decide +kernel) (by decide) ?_ ?_
      · refine xm_blk0 (pc' := 90) (lv' := [(0, .ref 39), (1, .int a1), (2, .int a2), (3, .int a3), (4, .int a4)]) (st' := [.int (0 : Int32)]) (u' := (xU u)) [(.iconst 0, (0, 0, 0), 0, 0)] (by decide +kernel) rfl ?_
        refine xm_wk [] (lv' := []) rfl ?_
        exact go_X4_holdsOf_L90 N u (0 : Int32)
      · refine xm_blk0 (pc' := 86) (lv' := [(0, .ref 39), (1, .int a1), (2, .int a2), (3, .int a3), (4, .int a4)]) (st' := [.int (1 : Int32)]) (u' := (xU u)) [(.iconst 1, (0, 0, 0), 1, 0)] (by decide +kernel) rfl ?_
        refine xm_goto (pc := 86) (off := 4) (tgt := 90) (by decide +kernel) (by decide) ?_
        refine xm_wk [] (lv' := []) rfl ?_
        exact go_X4_holdsOf_L90 N u (1 : Int32)
    refine xm_tin (pc := 1) (tgt := 91) (off := 90) (dflt := 150) (lo := 1) (hi := 5) (offs := #[35, 48, 74, 90, 124]) (len := 35) (4 : Int32) (by decide +kernel) (by decide) (by decide) (by decide) (by decide) ?_ ?_
    · refine xm_blk0 (pc' := 95) (lv' := [(0, .ref 39), (1, .int a1), (2, .int a2), (3, .int a3), (4, .int a4)]) (st' := [.int a2, .int a4, .ref 39]) (u' := (xU u)) [(.aload_n 0, (0, 0, 0), 0, 0), (.iload 4, (0, 0, 0), 0, 0), (.iload_n 2, (0, 0, 0), 0, 0)] (by decide +kernel) rfl ?_
      refine xm_Vi (pc := 95) (mz := md_X4_valueOf) (idx := 157) (p1 := 1028) (a := 39) (as := [.int a4, .int a2]) (st := []) (ev_X4_valueOf N a4 a2 u) mw_X4_valueOf (by decide +kernel) (by decide +kernel) (by decide) rfl rfl (by decide) rfl (Nat.le_of_ble_eq_true rfl) (fun r95 => ?_)
      refine xm_blk0 (pc' := 100) (lv' := [(0, .ref 39), (1, .int a1), (2, .int a2), (3, .int a3), (4, .int a4)]) (st' := [.int a2, .ref 39, .int r95]) (u' := (xU u)) [(.aload_n 0, (0, 0, 0), 0, 0), (.iload_n 2, (0, 0, 0), 0, 0)] (by decide +kernel) rfl ?_
      refine xm_Vi (pc := 100) (mz := md_X4_half) (idx := 172) (p1 := 1051) (a := 39) (as := [.int a2]) (st := [.int r95]) (ev_X4_half a2 u) mw_X4_half (by decide +kernel) (by decide +kernel) (by decide) rfl rfl (by decide) rfl (Nat.le_of_ble_eq_true rfl) (fun r100 => ?_)
      refine xm_icmp_ne (pc := 103) (off := 20) (tgt := 123) (by decide +kernel) (by decide) ?_ ?_
      · refine xm_wk [] (lv' := []) rfl ?_
        exact go_X4_holdsOf_L123 N u
      · refine xm_blk0 (pc' := 109) (lv' := [(0, .ref 39), (1, .int a1), (2, .int a2), (3, .int a3), (4, .int a4)]) (st' := [.int a2, .ref 39, .ref 39]) (u' := (xU u)) [(.aload_n 0, (0, 0, 0), 0, 0), (.aload_n 0, (0, 0, 0), 0, 0), (.iload_n 2, (0, 0, 0), 0, 0)] (by decide +kernel) rfl ?_
        refine xm_Vi (pc := 109) (mz := md_X4_half) (idx := 172) (p1 := 1051) (a := 39) (as := [.int a2]) (st := [.ref 39]) (ev_X4_half a2 u) mw_X4_half (by decide +kernel) (by decide +kernel) (by decide) rfl rfl (by decide) rfl (Nat.le_of_ble_eq_true rfl) (fun r109 => ?_)
        refine xm_blk0 (pc' := 113) (lv' := [(0, .ref 39), (1, .int a1), (2, .int a2), (3, .int a3), (4, .int a4)]) (st' := [.int a2, .int r109, .ref 39]) (u' := (xU u)) [(.iload_n 2, (0, 0, 0), 0, 0)] (by decide +kernel) rfl ?_
        refine xm_Vi (pc := 113) (mz := md_X4_isBetween) (idx := 166) (p1 := 1035) (a := 39) (as := [.int r109, .int a2]) (st := []) (ev_X4_isBetween r109 a2 u) mw_X4_isBetween (by decide +kernel) (by decide +kernel) (by decide) rfl rfl (by decide) rfl (Nat.le_of_ble_eq_true rfl) (fun r113 => ?_)
        refine xm_if_eq (pc := 116) (off := 7) (tgt := 123) (by decide +kernel) (by decide) ?_ ?_
        · refine xm_wk [] (lv' := []) rfl ?_
          exact go_X4_holdsOf_L123 N u
        · refine xm_blk0 (pc' := 120) (lv' := [(0, .ref 39), (1, .int a1), (2, .int a2), (3, .int a3), (4, .int a4)]) (st' := [.int (1 : Int32)]) (u' := (xU u)) [(.iconst 1, (0, 0, 0), 1, 0)] (by decide +kernel) rfl ?_
          refine xm_goto (pc := 120) (off := 4) (tgt := 124) (by decide +kernel) (by decide) ?_
          refine xm_wk [] (lv' := []) rfl ?_
          exact go_X4_holdsOf_L124 N u (1 : Int32)
    refine xm_tin (pc := 1) (tgt := 125) (off := 124) (dflt := 150) (lo := 1) (hi := 5) (offs := #[35, 48, 74, 90, 124]) (len := 35) (5 : Int32) (by decide +kernel) (by decide) (by decide) (by decide) (by decide) ?_ ?_
    · refine xm_blk0 (pc' := 129) (lv' := [(0, .ref 39), (1, .int a1), (2, .int a2), (3, .int a3), (4, .int a4)]) (st' := [.int a2, .int a4, .ref 39]) (u' := (xU u)) [(.aload_n 0, (0, 0, 0), 0, 0), (.iload 4, (0, 0, 0), 0, 0), (.iload_n 2, (0, 0, 0), 0, 0)] (by decide +kernel) rfl ?_
      refine xm_Vi (pc := 129) (mz := md_X4_isMuch) (idx := 169) (p1 := 1047) (a := 39) (as := [.int a4, .int a2]) (st := []) (ev_X4_isMuch N a4 a2 u) mw_X4_isMuch (by decide +kernel) (by decide +kernel) (by decide) rfl rfl (by decide) rfl (Nat.le_of_ble_eq_true rfl) (fun r129 => ?_)
      refine xm_if_eq (pc := 132) (off := 17) (tgt := 149) (by decide +kernel) (by decide) ?_ ?_
      · refine xm_wk [] (lv' := []) rfl ?_
        exact go_X4_holdsOf_L149 N u
      · refine xm_blk0 (pc' := 139) (lv' := [(0, .ref 39), (1, .int a1), (2, .int a2), (3, .int a3), (4, .int a4)]) (st' := [.int a3, .int a4, .ref 39]) (u' := (xU u)) [(.aload_n 0, (0, 0, 0), 0, 0), (.iload 4, (0, 0, 0), 0, 0), (.iload_n 3, (0, 0, 0), 0, 0)] (by decide +kernel) rfl ?_
        refine xm_Vi (pc := 139) (mz := md_X4_isLittle) (idx := 175) (p1 := 1055) (a := 39) (as := [.int a4, .int a3]) (st := []) (ev_X4_isLittle N a4 a3 u) mw_X4_isLittle (by decide +kernel) (by decide +kernel) (by decide) rfl rfl (by decide) rfl (Nat.le_of_ble_eq_true rfl) (fun r139 => ?_)
        refine xm_if_eq (pc := 142) (off := 7) (tgt := 149) (by decide +kernel) (by decide) ?_ ?_
        · refine xm_wk [] (lv' := []) rfl ?_
          exact go_X4_holdsOf_L149 N u
        · refine xm_blk0 (pc' := 146) (lv' := [(0, .ref 39), (1, .int a1), (2, .int a2), (3, .int a3), (4, .int a4)]) (st' := [.int (1 : Int32)]) (u' := (xU u)) [(.iconst 1, (0, 0, 0), 1, 0)] (by decide +kernel) rfl ?_
          refine xm_goto (pc := 146) (off := 4) (tgt := 150) (by decide +kernel) (by decide) ?_
          refine xm_wk [] (lv' := []) rfl ?_
          exact go_X4_holdsOf_L150 N u (1 : Int32)
    exact xm_none
theorem ev_X4_holdsOf (N : Nat) (a1 : Int32) (a2 : Int32) (a3 : Int32) (a4 : Int32) (u : xN) : ∀ r, f_X4_holdsOf N a1 a2 a3 a4 u = some r → xEm md_X4_holdsOf yX4_holdsOf [.ref 39, .int a1, .int a2, .int a3, .int a4] (xU u) (some (.int r), (xU u)) := xm_met (res := (rsI (xU u))) (as := [.ref 39, .int a1, .int a2, .int a3, .int a4]) (go_X4_holdsOf N a1 a2 a3 a4 u) (by decide) rfl (Nat.le_of_ble_eq_true rfl)
theorem mw_X4_holdsIn : xMv yX4_holdsIn cX4_holdsIn 3 (some .boolean) 2 := xMv_of (p1 := 1152) (p2 := 1151) (p3 := 97) (p4 := 73) (by decide +kernel)
/-! NeitherBareModel.holdsIn(II)Z (39, None, None) -/
abbrev md_X4_holdsIn : xMd := (cX4_holdsIn, RX4, 3, some .boolean, 5)
def f_X4_holdsIn (N : Nat) (a1 : Int32) (a2 : Int32) (u : xN) : Option Int32 := gdl [inb a1 8, inb a1 8, inb a1 8] (Option.bind (f_X4_holdsOf N (u.1 42 (Int32.toNatClampNeg a1)) (u.1 43 (Int32.toNatClampNeg a1)) (u.1 44 (Int32.toNatClampNeg a1)) a2 u) (fun r20 => gdl [isb r20] (some r20)))
set_option maxRecDepth 20000 in
theorem go_X4_holdsIn (N : Nat) (a1 : Int32) (a2 : Int32) (u : xN) : xGm md_X4_holdsIn (rsI (xU u)) (f_X4_holdsIn N a1 a2 u) 0 [(0, .ref 39), (1, .int a1), (2, .int a2)] [] (xU u) := by
  unfold f_X4_holdsIn
  refine xm_blk (bs := [inb a1 8, inb a1 8, inb a1 8]) (pc' := 20) (lv' := [(0, .ref 39), (1, .int a1), (2, .int a2)]) (st' := [.int a2, .int (u.1 44 (Int32.toNatClampNeg a1)), .int (u.1 43 (Int32.toNatClampNeg a1)), .int (u.1 42 (Int32.toNatClampNeg a1)), .ref 39]) (u' := (xU u)) [(.aload_n 0, (0, 0, 0), 0, 0), (.aload_n 0, (0, 0, 0), 0, 0), (.getfield 16, (4, 4, 824), 0, 0), (.iload_n 1, (0, 0, 0), 0, 0), (.iaload, (0, 0, 0), 0, 0), (.aload_n 0, (0, 0, 0), 0, 0), (.getfield 19, (4, 5, 825), 0, 0), (.iload_n 1, (0, 0, 0), 0, 0), (.iaload, (0, 0, 0), 0, 0), (.aload_n 0, (0, 0, 0), 0, 0), (.getfield 22, (4, 6, 826), 0, 0), (.iload_n 1, (0, 0, 0), 0, 0), (.iaload, (0, 0, 0), 0, 0), (.iload_n 2, (0, 0, 0), 0, 0)] (by decide +kernel) rfl ?_
  refine xm_Vi (pc := 20) (mz := md_X4_holdsOf) (idx := 178) (p1 := 1024) (a := 39) (as := [.int (u.1 42 (Int32.toNatClampNeg a1)), .int (u.1 43 (Int32.toNatClampNeg a1)), .int (u.1 44 (Int32.toNatClampNeg a1)), .int a2]) (st := []) (ev_X4_holdsOf N (u.1 42 (Int32.toNatClampNeg a1)) (u.1 43 (Int32.toNatClampNeg a1)) (u.1 44 (Int32.toNatClampNeg a1)) a2 u) mw_X4_holdsOf (by decide +kernel) (by decide +kernel) (by decide) rfl rfl (by decide) rfl (Nat.le_of_ble_eq_true rfl) (fun r20 => ?_)
  exact xm_zret (pc := 23) (by decide +kernel) rfl rfl
theorem ev_X4_holdsIn (N : Nat) (a1 : Int32) (a2 : Int32) (u : xN) : ∀ r, f_X4_holdsIn N a1 a2 u = some r → xEm md_X4_holdsIn yX4_holdsIn [.ref 39, .int a1, .int a2] (xU u) (some (.int r), (xU u)) := xm_met (res := (rsI (xU u))) (as := [.ref 39, .int a1, .int a2]) (go_X4_holdsIn N a1 a2 u) (by decide) rfl (Nat.le_of_ble_eq_true rfl)
theorem mw_X4_heldBy : xMv yX4_heldBy cX4_heldBy 4 (some .int) 1 := xMv_of (p1 := 1148) (p2 := 1147) (p3 := 97) (p4 := 72) (by decide +kernel)
/-! NeitherBareModel.heldBy(I)I (39, None) -/
abbrev md_X4_heldBy : xMd := (cX4_heldBy, RX4, 4, some .int, 6)
def f_X4_heldBy_L29 (N : Nat) (u : xN) (rec4 : Int32 → Int32 → Int32 → Option Int32) (v1 : Int32) (v3 : Int32) (t0 : Int32) (t1 : Int32) : Option Int32 := rec4 v1 (t1 ||| t0) (v3 + (1 : Int32))
set_option maxRecDepth 20000 in
theorem go_X4_heldBy_L29 (N : Nat) (u : xN) (rec4 : Int32 → Int32 → Int32 → Option Int32) (h4 : ∀ (v1 : Int32) (v2 : Int32) (v3 : Int32), xGm md_X4_heldBy (rsI (xU u)) (rec4 v1 v2 v3) 4 [(0, .ref 39), (1, .int v1), (2, .int v2), (3, .int v3)] [] (xU u)) (v1 : Int32) (v3 : Int32) (t0 : Int32) (t1 : Int32) : xGm md_X4_heldBy (rsI (xU u)) (f_X4_heldBy_L29 N u rec4 v1 v3 t0 t1) 29 [(0, .ref 39), (1, .int v1), (3, .int v3)] [.int t0, .int t1] (xU u) := by
  unfold f_X4_heldBy_L29
  refine xm_blk0 (pc' := 34) (lv' := [(0, .ref 39), (1, .int v1), (2, .int (t1 ||| t0)), (3, .int (v3 + (1 : Int32)))]) (st' := []) (u' := (xU u)) [(.ior, (0, 0, 0), 0, 0), (.istore_n 2, (0, 0, 0), 0, 0), (.iinc 3 1, (0, 0, 0), 1, 0)] (by decide +kernel) rfl ?_
  refine xm_goto (pc := 34) (off := -30) (tgt := 4) (by decide +kernel) (by decide) ?_
  exact h4 v1 (t1 ||| t0) (v3 + (1 : Int32))
def f_X4_heldBy_L4b (N : Nat) (u : xN) (rec4 : Int32 → Int32 → Int32 → Option Int32) (v1 : Int32) (v2 : Int32) (v3 : Int32) : Option Int32 := if (u.1 39 3) ≤ v3 then some v2 else Option.bind (f_X4_holdsIn N v3 v1 u) (fun r16 => if r16 = (0 : Int32) then f_X4_heldBy_L29 N u rec4 v1 v3 (0 : Int32) v2 else f_X4_heldBy_L29 N u rec4 v1 v3 ((1 : Int32) <<< (v3 &&& 31)) v2)
set_option maxRecDepth 20000 in
theorem go_X4_heldBy_L4b (N : Nat) (u : xN) (rec4 : Int32 → Int32 → Int32 → Option Int32) (h4 : ∀ (v1 : Int32) (v2 : Int32) (v3 : Int32), xGm md_X4_heldBy (rsI (xU u)) (rec4 v1 v2 v3) 4 [(0, .ref 39), (1, .int v1), (2, .int v2), (3, .int v3)] [] (xU u)) (v1 : Int32) (v2 : Int32) (v3 : Int32) : xGm md_X4_heldBy (rsI (xU u)) (f_X4_heldBy_L4b N u rec4 v1 v2 v3) 4 [(0, .ref 39), (1, .int v1), (2, .int v2), (3, .int v3)] [] (xU u) := by
  unfold f_X4_heldBy_L4b
  refine xm_blk0 (pc' := 9) (lv' := [(0, .ref 39), (1, .int v1), (2, .int v2), (3, .int v3)]) (st' := [.int (u.1 39 3), .int v3]) (u' := (xU u)) [(.iload_n 3, (0, 0, 0), 0, 0), (.aload_n 0, (0, 0, 0), 0, 0), (.getfield 60, (4, 3, 823), 0, 0)] (by decide +kernel) rfl ?_
  refine xm_icmp_ge (pc := 9) (off := 28) (tgt := 37) (by decide +kernel) (by decide) ?_ ?_
  · refine xm_blk0 (pc' := 38) (lv' := [(0, .ref 39), (1, .int v1), (2, .int v2), (3, .int v3)]) (st' := [.int v2]) (u' := (xU u)) [(.iload_n 2, (0, 0, 0), 0, 0)] (by decide +kernel) rfl ?_
    exact xm_iret (pc := 38) (by decide +kernel) rfl rfl
  · refine xm_blk0 (pc' := 16) (lv' := [(0, .ref 39), (1, .int v1), (2, .int v2), (3, .int v3)]) (st' := [.int v1, .int v3, .ref 39, .int v2]) (u' := (xU u)) [(.iload_n 2, (0, 0, 0), 0, 0), (.aload_n 0, (0, 0, 0), 0, 0), (.iload_n 3, (0, 0, 0), 0, 0), (.iload_n 1, (0, 0, 0), 0, 0)] (by decide +kernel) rfl ?_
    refine xm_Vi (pc := 16) (mz := md_X4_holdsIn) (idx := 182) (p1 := 1149) (a := 39) (as := [.int v3, .int v1]) (st := [.int v2]) (ev_X4_holdsIn N v3 v1 u) mw_X4_holdsIn (by decide +kernel) (by decide +kernel) (by decide) rfl rfl (by decide) rfl (Nat.le_of_ble_eq_true rfl) (fun r16 => ?_)
    refine xm_if_eq (pc := 19) (off := 9) (tgt := 28) (by decide +kernel) (by decide) ?_ ?_
    · refine xm_blk0 (pc' := 29) (lv' := [(0, .ref 39), (1, .int v1), (2, .int v2), (3, .int v3)]) (st' := [.int (0 : Int32), .int v2]) (u' := (xU u)) [(.iconst 0, (0, 0, 0), 0, 0)] (by decide +kernel) rfl ?_
      refine xm_wk [0, 1, 3] (lv' := [(0, .ref 39), (1, .int v1), (3, .int v3)]) rfl ?_
      exact go_X4_heldBy_L29 N u rec4 h4 v1 v3 (0 : Int32) v2
    · refine xm_blk0 (pc' := 25) (lv' := [(0, .ref 39), (1, .int v1), (2, .int v2), (3, .int v3)]) (st' := [.int ((1 : Int32) <<< (v3 &&& 31)), .int v2]) (u' := (xU u)) [(.iconst 1, (0, 0, 0), 1, 0), (.iload_n 3, (0, 0, 0), 0, 0), (.ishl, (0, 0, 0), 0, 0)] (by decide +kernel) rfl ?_
      refine xm_goto (pc := 25) (off := 4) (tgt := 29) (by decide +kernel) (by decide) ?_
      refine xm_wk [0, 1, 3] (lv' := [(0, .ref 39), (1, .int v1), (3, .int v3)]) rfl ?_
      exact go_X4_heldBy_L29 N u rec4 h4 v1 v3 ((1 : Int32) <<< (v3 &&& 31)) v2
def f_X4_heldBy_L4 (N : Nat) (u : xN) : Nat → Int32 → Int32 → Int32 → Option Int32
  | 0 => fun _ _ _ => none
  | n + 1 => fun v1 v2 v3 => f_X4_heldBy_L4b N u (f_X4_heldBy_L4 N u n) v1 v2 v3
theorem go_X4_heldBy_L4 (N : Nat) (u : xN) : ∀ (n : Nat) (v1 : Int32) (v2 : Int32) (v3 : Int32), xGm md_X4_heldBy (rsI (xU u)) (f_X4_heldBy_L4 N u n v1 v2 v3) 4 [(0, .ref 39), (1, .int v1), (2, .int v2), (3, .int v3)] [] (xU u) := by
  intro n
  induction n with
  | zero => intro v1 v2 v3; exact xm_none
  | succ n ih => intro v1 v2 v3; exact go_X4_heldBy_L4b N u _ ih v1 v2 v3
def f_X4_heldBy (N : Nat) (a1 : Int32) (u : xN) : Option Int32 := f_X4_heldBy_L4 N u N a1 (0 : Int32) (0 : Int32)
set_option maxRecDepth 20000 in
theorem go_X4_heldBy (N : Nat) (a1 : Int32) (u : xN) : xGm md_X4_heldBy (rsI (xU u)) (f_X4_heldBy N a1 u) 0 [(0, .ref 39), (1, .int a1)] [] (xU u) := by
  unfold f_X4_heldBy
  refine xm_blk0 (pc' := 4) (lv' := [(0, .ref 39), (1, .int a1), (2, .int (0 : Int32)), (3, .int (0 : Int32))]) (st' := []) (u' := (xU u)) [(.iconst 0, (0, 0, 0), 0, 0), (.istore_n 2, (0, 0, 0), 0, 0), (.iconst 0, (0, 0, 0), 0, 0), (.istore_n 3, (0, 0, 0), 0, 0)] (by decide +kernel) rfl ?_
  exact go_X4_heldBy_L4 N u N a1 (0 : Int32) (0 : Int32)
theorem ev_X4_heldBy (N : Nat) (a1 : Int32) (u : xN) : ∀ r, f_X4_heldBy N a1 u = some r → xEm md_X4_heldBy yX4_heldBy [.ref 39, .int a1] (xU u) (some (.int r), (xU u)) := xm_met (res := (rsI (xU u))) (as := [.ref 39, .int a1]) (go_X4_heldBy N a1 u) (by decide) rfl (Nat.le_of_ble_eq_true rfl)
