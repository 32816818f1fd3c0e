theorem mw_X3_ruledOtherwise : xMv yX3_ruledOtherwise cX3_ruledOtherwise 8 (some .int) 3 := xMv_of (p1 := 696) (p2 := 695) (p3 := 92) (p4 := 31) (by decide +kernel)
/-! NeitherBare.ruledOtherwise(III)I (0, None, None, None) -/
abbrev md_X3_ruledOtherwise : xMd := (cX3_ruledOtherwise, RX3, 8, some .int, 2)
def f_X3_ruledOtherwise_L103 (N : Nat) (u : xN) (rec6 : Int32 → Int32 → Int32 → Int32 → Int32 → Option Int32) (v1 : Int32) (v2 : Int32) (v3 : Int32) (v4 : Int32) (v5 : Int32) : Option Int32 := rec6 v1 v2 v3 v4 (v5 + (1 : Int32))
set_option maxRecDepth 20000 in
theorem go_X3_ruledOtherwise_L103 (N : Nat) (u : xN) (rec6 : Int32 → Int32 → Int32 → Int32 → Int32 → Option Int32) (h6 : ∀ (v1 : Int32) (v2 : Int32) (v3 : Int32) (v4 : Int32) (v5 : Int32), xGm md_X3_ruledOtherwise (rsI (xU u)) (rec6 v1 v2 v3 v4 v5) 6 [(0, .ref 0), (1, .int v1), (2, .int v2), (3, .int v3), (4, .int v4), (5, .int v5)] [] (xU u)) (v1 : Int32) (v2 : Int32) (v3 : Int32) (v4 : Int32) (v5 : Int32) : xGm md_X3_ruledOtherwise (rsI (xU u)) (f_X3_ruledOtherwise_L103 N u rec6 v1 v2 v3 v4 v5) 103 [(0, .ref 0), (1, .int v1), (2, .int v2), (3, .int v3), (4, .int v4), (5, .int v5)] [] (xU u) := by
  unfold f_X3_ruledOtherwise_L103
  refine xm_blk0 (pc' := 106) (lv' := [(0, .ref 0), (1, .int v1), (2, .int v2), (3, .int v3), (4, .int v4), (5, .int (v5 + (1 : Int32)))]) (st' := []) (u' := (xU u)) [(.iinc 5 1, (0, 0, 0), 1, 0)] (by decide +kernel) rfl ?_
  refine xm_goto (pc := 106) (off := -100) (tgt := 6) (by decide +kernel) (by decide) ?_
  exact h6 v1 v2 v3 v4 (v5 + (1 : Int32))
def f_X3_ruledOtherwise_L69 (N : Nat) (u : xN) (rec6 : Int32 → Int32 → Int32 → Int32 → Int32 → Option Int32) (v1 : Int32) (v2 : Int32) (v3 : Int32) (v4 : Int32) (v5 : Int32) (v6 : Int32) (t0 : Int32) : Option Int32 := Option.bind (f_X1_cellOf_1 v1 ((3 : Int32) * v5) u) (fun r80 => if r80 = v2 then (if v6 = t0 then f_X3_ruledOtherwise_L103 N u rec6 v1 v2 v3 v4 v5 else f_X3_ruledOtherwise_L103 N u rec6 v1 v2 v3 (v4 ||| ((1 : Int32) <<< (v5 &&& 31))) v5) else f_X3_ruledOtherwise_L103 N u rec6 v1 v2 v3 v4 v5)
set_option maxRecDepth 20000 in
theorem go_X3_ruledOtherwise_L69 (N : Nat) (u : xN) (rec6 : Int32 → Int32 → Int32 → Int32 → Int32 → Option Int32) (h6 : ∀ (v1 : Int32) (v2 : Int32) (v3 : Int32) (v4 : Int32) (v5 : Int32), xGm md_X3_ruledOtherwise (rsI (xU u)) (rec6 v1 v2 v3 v4 v5) 6 [(0, .ref 0), (1, .int v1), (2, .int v2), (3, .int v3), (4, .int v4), (5, .int v5)] [] (xU u)) (v1 : Int32) (v2 : Int32) (v3 : Int32) (v4 : Int32) (v5 : Int32) (v6 : Int32) (t0 : Int32) : xGm md_X3_ruledOtherwise (rsI (xU u)) (f_X3_ruledOtherwise_L69 N u rec6 v1 v2 v3 v4 v5 v6 t0) 69 [(0, .ref 0), (1, .int v1), (2, .int v2), (3, .int v3), (4, .int v4), (5, .int v5), (6, .int v6)] [.int t0] (xU u) := by
  unfold f_X3_ruledOtherwise_L69
  refine xm_blk0 (pc' := 80) (lv' := [(0, .ref 0), (1, .int v1), (2, .int v2), (3, .int v3), (4, .int v4), (5, .int v5), (6, .int v6), (7, .int t0)]) (st' := [.int ((3 : Int32) * v5), .int v1, .ref 1]) (u' := (xU u)) [(.istore 7, (0, 0, 0), 0, 0), (.aload_n 0, (0, 0, 0), 0, 0), (.getfield 14, (3, 0, 206), 0, 0), (.iload_n 1, (0, 0, 0), 0, 0), (.iconst 3, (0, 0, 0), 3, 0), (.iload 5, (0, 0, 0), 0, 0), (.imul, (0, 0, 0), 0, 0)] (by decide +kernel) rfl ?_
  refine xm_Vi (pc := 80) (mz := md_X1_cellOf_1) (idx := 67) (p1 := 292) (a := 1) (as := [.int v1, .int ((3 : Int32) * v5)]) (st := []) (ev_X1_cellOf_1 v1 ((3 : Int32) * v5) u) mw_X1_cellOf (by decide +kernel) (by decide +kernel) (by decide) rfl rfl (by decide) rfl (Nat.le_of_ble_eq_true rfl) (fun r80 => ?_)
  refine xm_blk0 (pc' := 84) (lv' := [(0, .ref 0), (1, .int v1), (2, .int v2), (3, .int v3), (4, .int v4), (5, .int v5), (6, .int v6), (7, .int t0)]) (st' := [.int v2, .int r80]) (u' := (xU u)) [(.iload_n 2, (0, 0, 0), 0, 0)] (by decide +kernel) rfl ?_
  refine xm_icmp_ne (pc := 84) (off := 19) (tgt := 103) (by decide +kernel) (by decide) ?_ ?_
  · refine xm_wk [0, 1, 2, 3, 4, 5] (lv' := [(0, .ref 0), (1, .int v1), (2, .int v2), (3, .int v3), (4, .int v4), (5, .int v5)]) rfl ?_
    exact go_X3_ruledOtherwise_L103 N u rec6 h6 v1 v2 v3 v4 v5
  · refine xm_blk0 (pc' := 91) (lv' := [(0, .ref 0), (1, .int v1), (2, .int v2), (3, .int v3), (4, .int v4), (5, .int v5), (6, .int v6), (7, .int t0)]) (st' := [.int t0, .int v6]) (u' := (xU u)) [(.iload 6, (0, 0, 0), 0, 0), (.iload 7, (0, 0, 0), 0, 0)] (by decide +kernel) rfl ?_
    refine xm_icmp_eq (pc := 91) (off := 12) (tgt := 103) (by decide +kernel) (by decide) ?_ ?_
    · refine xm_wk [0, 1, 2, 3, 4, 5] (lv' := [(0, .ref 0), (1, .int v1), (2, .int v2), (3, .int v3), (4, .int v4), (5, .int v5)]) rfl ?_
      exact go_X3_ruledOtherwise_L103 N u rec6 h6 v1 v2 v3 v4 v5
    · refine xm_blk0 (pc' := 103) (lv' := [(0, .ref 0), (1, .int v1), (2, .int v2), (3, .int v3), (4, .int (v4 ||| ((1 : Int32) <<< (v5 &&& 31)))), (5, .int v5), (6, .int v6), (7, .int t0)]) (st' := []) (u' := (xU u)) [(.iload 4, (0, 0, 0), 0, 0), (.iconst 1, (0, 0, 0), 1, 0), (.iload 5, (0, 0, 0), 0, 0), (.ishl, (0, 0, 0), 0, 0), (.ior, (0, 0, 0), 0, 0), (.istore 4, (0, 0, 0), 0, 0)] (by decide +kernel) rfl ?_
      refine xm_wk [0, 1, 2, 3, 4, 5] (lv' := [(0, .ref 0), (1, .int v1), (2, .int v2), (3, .int v3), (4, .int (v4 ||| ((1 : Int32) <<< (v5 &&& 31)))), (5, .int v5)]) rfl ?_
      exact go_X3_ruledOtherwise_L103 N u rec6 h6 v1 v2 v3 (v4 ||| ((1 : Int32) <<< (v5 &&& 31))) v5
def f_X3_ruledOtherwise_L44 (N : Nat) (u : xN) (rec6 : Int32 → Int32 → Int32 → Int32 → Int32 → Option Int32) (v1 : Int32) (v2 : Int32) (v3 : Int32) (v4 : Int32) (v5 : Int32) (t0 : Int32) : Option Int32 := Option.bind (f_X1_cellOf_1 v1 (((3 : Int32) * v5) + (1 : Int32)) u) (fun r57 => if r57 < v3 then f_X3_ruledOtherwise_L69 N u rec6 v1 v2 v3 v4 v5 t0 (0 : Int32) else f_X3_ruledOtherwise_L69 N u rec6 v1 v2 v3 v4 v5 t0 (1 : Int32))
set_option maxRecDepth 20000 in
theorem go_X3_ruledOtherwise_L44 (N : Nat) (u : xN) (rec6 : Int32 → Int32 → Int32 → Int32 → Int32 → Option Int32) (h6 : ∀ (v1 : Int32) (v2 : Int32) (v3 : Int32) (v4 : Int32) (v5 : Int32), xGm md_X3_ruledOtherwise (rsI (xU u)) (rec6 v1 v2 v3 v4 v5) 6 [(0, .ref 0), (1, .int v1), (2, .int v2), (3, .int v3), (4, .int v4), (5, .int v5)] [] (xU u)) (v1 : Int32) (v2 : Int32) (v3 : Int32) (v4 : Int32) (v5 : Int32) (t0 : Int32) : xGm md_X3_ruledOtherwise (rsI (xU u)) (f_X3_ruledOtherwise_L44 N u rec6 v1 v2 v3 v4 v5 t0) 44 [(0, .ref 0), (1, .int v1), (2, .int v2), (3, .int v3), (4, .int v4), (5, .int v5)] [.int t0] (xU u) := by
  unfold f_X3_ruledOtherwise_L44
  refine xm_blk0 (pc' := 57) (lv' := [(0, .ref 0), (1, .int v1), (2, .int v2), (3, .int v3), (4, .int v4), (5, .int v5), (6, .int t0)]) (st' := [.int (((3 : Int32) * v5) + (1 : Int32)), .int v1, .ref 1]) (u' := (xU u)) [(.istore 6, (0, 0, 0), 0, 0), (.aload_n 0, (0, 0, 0), 0, 0), (.getfield 14, (3, 0, 206), 0, 0), (.iload_n 1, (0, 0, 0), 0, 0), (.iconst 3, (0, 0, 0), 3, 0), (.iload 5, (0, 0, 0), 0, 0), (.imul, (0, 0, 0), 0, 0), (.iconst 1, (0, 0, 0), 1, 0), (.iadd, (0, 0, 0), 0, 0)] (by decide +kernel) rfl ?_
  refine xm_Vi (pc := 57) (mz := md_X1_cellOf_1) (idx := 67) (p1 := 292) (a := 1) (as := [.int v1, .int (((3 : Int32) * v5) + (1 : Int32))]) (st := []) (ev_X1_cellOf_1 v1 (((3 : Int32) * v5) + (1 : Int32)) u) mw_X1_cellOf (by decide +kernel) (by decide +kernel) (by decide) rfl rfl (by decide) rfl (Nat.le_of_ble_eq_true rfl) (fun r57 => ?_)
  refine xm_blk0 (pc' := 61) (lv' := [(0, .ref 0), (1, .int v1), (2, .int v2), (3, .int v3), (4, .int v4), (5, .int v5), (6, .int t0)]) (st' := [.int v3, .int r57]) (u' := (xU u)) [(.iload_n 3, (0, 0, 0), 0, 0)] (by decide +kernel) rfl ?_
  refine xm_icmp_lt (pc := 61) (off := 7) (tgt := 68) (by decide +kernel) (by decide) ?_ ?_
  · refine xm_blk0 (pc' := 69) (lv' := [(0, .ref 0), (1, .int v1), (2, .int v2), (3, .int v3), (4, .int v4), (5, .int v5), (6, .int t0)]) (st' := [.int (0 : Int32)]) (u' := (xU u)) [(.iconst 0, (0, 0, 0), 0, 0)] (by decide +kernel) rfl ?_
    exact go_X3_ruledOtherwise_L69 N u rec6 h6 v1 v2 v3 v4 v5 t0 (0 : Int32)
  · refine xm_blk0 (pc' := 65) (lv' := [(0, .ref 0), (1, .int v1), (2, .int v2), (3, .int v3), (4, .int v4), (5, .int v5), (6, .int t0)]) (st' := [.int (1 : Int32)]) (u' := (xU u)) [(.iconst 1, (0, 0, 0), 1, 0)] (by decide +kernel) rfl ?_
    refine xm_goto (pc := 65) (off := 4) (tgt := 69) (by decide +kernel) (by decide) ?_
    exact go_X3_ruledOtherwise_L69 N u rec6 h6 v1 v2 v3 v4 v5 t0 (1 : Int32)
def f_X3_ruledOtherwise_L6b (N : Nat) (u : xN) (rec6 : Int32 → Int32 → Int32 → Int32 → Int32 → Option Int32) (v1 : Int32) (v2 : Int32) (v3 : Int32) (v4 : Int32) (v5 : Int32) : Option Int32 := Option.bind (f_X1_sizeOf_1 v1 u) (fun r13 => gdl [nzi (3 : Int32)] (if (r13 / (3 : Int32)) ≤ v5 then some v4 else Option.bind (f_X1_cellOf_1 v1 (((3 : Int32) * v5) + (2 : Int32)) u) (fun r32 => if r32 = (1 : Int32) then f_X3_ruledOtherwise_L44 N u rec6 v1 v2 v3 v4 v5 (1 : Int32) else f_X3_ruledOtherwise_L44 N u rec6 v1 v2 v3 v4 v5 (0 : Int32))))
set_option maxRecDepth 20000 in
theorem go_X3_ruledOtherwise_L6b (N : Nat) (u : xN) (rec6 : Int32 → Int32 → Int32 → Int32 → Int32 → Option Int32) (h6 : ∀ (v1 : Int32) (v2 : Int32) (v3 : Int32) (v4 : Int32) (v5 : Int32), xGm md_X3_ruledOtherwise (rsI (xU u)) (rec6 v1 v2 v3 v4 v5) 6 [(0, .ref 0), (1, .int v1), (2, .int v2), (3, .int v3), (4, .int v4), (5, .int v5)] [] (xU u)) (v1 : Int32) (v2 : Int32) (v3 : Int32) (v4 : Int32) (v5 : Int32) : xGm md_X3_ruledOtherwise (rsI (xU u)) (f_X3_ruledOtherwise_L6b N u rec6 v1 v2 v3 v4 v5) 6 [(0, .ref 0), (1, .int v1), (2, .int v2), (3, .int v3), (4, .int v4), (5, .int v5)] [] (xU u) := by
  unfold f_X3_ruledOtherwise_L6b
  refine xm_blk0 (pc' := 13) (lv' := [(0, .ref 0), (1, .int v1), (2, .int v2), (3, .int v3), (4, .int v4), (5, .int v5)]) (st' := [.int v1, .ref 1, .int v5]) (u' := (xU u)) [(.iload 5, (0, 0, 0), 0, 0), (.aload_n 0, (0, 0, 0), 0, 0), (.getfield 14, (3, 0, 206), 0, 0), (.iload_n 1, (0, 0, 0), 0, 0)] (by decide +kernel) rfl ?_
  refine xm_Vi (pc := 13) (mz := md_X1_sizeOf_1) (idx := 104) (p1 := 327) (a := 1) (as := [.int v1]) (st := [.int v5]) (ev_X1_sizeOf_1 v1 u) mw_X1_sizeOf (by decide +kernel) (by decide +kernel) (by decide) rfl rfl (by decide) rfl (Nat.le_of_ble_eq_true rfl) (fun r13 => ?_)
  refine xm_blk (bs := [nzi (3 : Int32)]) (pc' := 18) (lv' := [(0, .ref 0), (1, .int v1), (2, .int v2), (3, .int v3), (4, .int v4), (5, .int v5)]) (st' := [.int (r13 / (3 : Int32)), .int v5]) (u' := (xU u)) [(.iconst 3, (0, 0, 0), 3, 0), (.idiv, (0, 0, 0), 0, 0)] (by decide +kernel) rfl ?_
  refine xm_icmp_ge (pc := 18) (off := 91) (tgt := 109) (by decide +kernel) (by decide) ?_ ?_
  · refine xm_blk0 (pc' := 111) (lv' := [(0, .ref 0), (1, .int v1), (2, .int v2), (3, .int v3), (4, .int v4), (5, .int v5)]) (st' := [.int v4]) (u' := (xU u)) [(.iload 4, (0, 0, 0), 0, 0)] (by decide +kernel) rfl ?_
    exact xm_iret (pc := 111) (by decide +kernel) rfl rfl
  · refine xm_blk0 (pc' := 32) (lv' := [(0, .ref 0), (1, .int v1), (2, .int v2), (3, .int v3), (4, .int v4), (5, .int v5)]) (st' := [.int (((3 : Int32) * v5) + (2 : Int32)), .int v1, .ref 1]) (u' := (xU u)) [(.aload_n 0, (0, 0, 0), 0, 0), (.getfield 14, (3, 0, 206), 0, 0), (.iload_n 1, (0, 0, 0), 0, 0), (.iconst 3, (0, 0, 0), 3, 0), (.iload 5, (0, 0, 0), 0, 0), (.imul, (0, 0, 0), 0, 0), (.iconst 2, (0, 0, 0), 2, 0), (.iadd, (0, 0, 0), 0, 0)] (by decide +kernel) rfl ?_
    refine xm_Vi (pc := 32) (mz := md_X1_cellOf_1) (idx := 67) (p1 := 292) (a := 1) (as := [.int v1, .int (((3 : Int32) * v5) + (2 : Int32))]) (st := []) (ev_X1_cellOf_1 v1 (((3 : Int32) * v5) + (2 : Int32)) u) mw_X1_cellOf (by decide +kernel) (by decide +kernel) (by decide) rfl rfl (by decide) rfl (Nat.le_of_ble_eq_true rfl) (fun r32 => ?_)
    refine xm_blk0 (pc' := 36) (lv' := [(0, .ref 0), (1, .int v1), (2, .int v2), (3, .int v3), (4, .int v4), (5, .int v5)]) (st' := [.int (1 : Int32), .int r32]) (u' := (xU u)) [(.iconst 1, (0, 0, 0), 1, 0)] (by decide +kernel) rfl ?_
    refine xm_icmp_ne (pc := 36) (off := 7) (tgt := 43) (by decide +kernel) (by decide) ?_ ?_
    · refine xm_blk0 (pc' := 44) (lv' := [(0, .ref 0), (1, .int v1), (2, .int v2), (3, .int v3), (4, .int v4), (5, .int v5)]) (st' := [.int (0 : Int32)]) (u' := (xU u)) [(.iconst 0, (0, 0, 0), 0, 0)] (by decide +kernel) rfl ?_
      exact go_X3_ruledOtherwise_L44 N u rec6 h6 v1 v2 v3 v4 v5 (0 : Int32)
    · refine xm_blk0 (pc' := 40) (lv' := [(0, .ref 0), (1, .int v1), (2, .int v2), (3, .int v3), (4, .int v4), (5, .int v5)]) (st' := [.int (1 : Int32)]) (u' := (xU u)) [(.iconst 1, (0, 0, 0), 1, 0)] (by decide +kernel) rfl ?_
      refine xm_goto (pc := 40) (off := 4) (tgt := 44) (by decide +kernel) (by decide) ?_
      exact go_X3_ruledOtherwise_L44 N u rec6 h6 v1 v2 v3 v4 v5 (1 : Int32)
def f_X3_ruledOtherwise_L6 (N : Nat) (u : xN) : Nat → Int32 → Int32 → Int32 → Int32 → Int32 → Option Int32
  | 0 => fun _ _ _ _ _ => none
  | n + 1 => fun v1 v2 v3 v4 v5 => f_X3_ruledOtherwise_L6b N u (f_X3_ruledOtherwise_L6 N u n) v1 v2 v3 v4 v5
theorem go_X3_ruledOtherwise_L6 (N : Nat) (u : xN) : ∀ (n : Nat) (v1 : Int32) (v2 : Int32) (v3 : Int32) (v4 : Int32) (v5 : Int32), xGm md_X3_ruledOtherwise (rsI (xU u)) (f_X3_ruledOtherwise_L6 N u n v1 v2 v3 v4 v5) 6 [(0, .ref 0), (1, .int v1), (2, .int v2), (3, .int v3), (4, .int v4), (5, .int v5)] [] (xU u) := by
  intro n
  induction n with
  | zero => intro v1 v2 v3 v4 v5; exact xm_none
  | succ n ih => intro v1 v2 v3 v4 v5; exact go_X3_ruledOtherwise_L6b N u _ ih v1 v2 v3 v4 v5
def f_X3_ruledOtherwise (N : Nat) (a1 : Int32) (a2 : Int32) (a3 : Int32) (u : xN) : Option Int32 := f_X3_ruledOtherwise_L6 N u N a1 a2 a3 (0 : Int32) (0 : Int32)
set_option maxRecDepth 20000 in
theorem go_X3_ruledOtherwise (N : Nat) (a1 : Int32) (a2 : Int32) (a3 : Int32) (u : xN) : xGm md_X3_ruledOtherwise (rsI (xU u)) (f_X3_ruledOtherwise N a1 a2 a3 u) 0 [(0, .ref 0), (1, .int a1), (2, .int a2), (3, .int a3)] [] (xU u) := by
  unfold f_X3_ruledOtherwise
  refine xm_blk0 (pc' := 6) (lv' := [(0, .ref 0), (1, .int a1), (2, .int a2), (3, .int a3), (4, .int (0 : Int32)), (5, .int (0 : Int32))]) (st' := []) (u' := (xU u)) [(.iconst 0, (0, 0, 0), 0, 0), (.istore 4, (0, 0, 0), 0, 0), (.iconst 0, (0, 0, 0), 0, 0), (.istore 5, (0, 0, 0), 0, 0)] (by decide +kernel) rfl ?_
  exact go_X3_ruledOtherwise_L6 N u N a1 a2 a3 (0 : Int32) (0 : Int32)
theorem ev_X3_ruledOtherwise (N : Nat) (a1 : Int32) (a2 : Int32) (a3 : Int32) (u : xN) : ∀ r, f_X3_ruledOtherwise N a1 a2 a3 u = some r → xEm md_X3_ruledOtherwise yX3_ruledOtherwise [.ref 0, .int a1, .int a2, .int a3] (xU u) (some (.int r), (xU u)) := xm_met (res := (rsI (xU u))) (as := [.ref 0, .int a1, .int a2, .int a3]) (go_X3_ruledOtherwise N a1 a2 a3 u) (by decide) rfl (Nat.le_of_ble_eq_true rfl)
theorem mw_X3_struckOfTrait : xMv yX3_struckOfTrait cX3_struckOfTrait 5 (some .int) 2 := xMv_of (p1 := 692) (p2 := 691) (p3 := 92) (p4 := 30) (by decide +kernel)
/-! NeitherBare.struckOfTrait(II)I (0, None, None) -/
abbrev md_X3_struckOfTrait : xMd := (cX3_struckOfTrait, RX3, 5, some .int, 3)
def f_X3_struckOfTrait_L11b (N : Nat) (u : xN) (rec11 : Int32 → Int32 → Int32 → Int32 → Option Int32) (v1 : Int32) (v2 : Int32) (v3 : Int32) (v4 : Int32) : Option Int32 := if (6 : Int32) < v4 then some v3 else Option.bind (f_X3_ruledOtherwise N v1 v2 v4 u) (fun r24 => Option.bind (f_X3_smallerSet v3 r24) (fun r27 => rec11 v1 v2 r27 (v4 + (1 : Int32))))
set_option maxRecDepth 20000 in
theorem go_X3_struckOfTrait_L11b (N : Nat) (u : xN) (rec11 : Int32 → Int32 → Int32 → Int32 → Option Int32) (h11 : ∀ (v1 : Int32) (v2 : Int32) (v3 : Int32) (v4 : Int32), xGm md_X3_struckOfTrait (rsI (xU u)) (rec11 v1 v2 v3 v4) 11 [(0, .ref 0), (1, .int v1), (2, .int v2), (3, .int v3), (4, .int v4)] [] (xU u)) (v1 : Int32) (v2 : Int32) (v3 : Int32) (v4 : Int32) : xGm md_X3_struckOfTrait (rsI (xU u)) (f_X3_struckOfTrait_L11b N u rec11 v1 v2 v3 v4) 11 [(0, .ref 0), (1, .int v1), (2, .int v2), (3, .int v3), (4, .int v4)] [] (xU u) := by
  unfold f_X3_struckOfTrait_L11b
  refine xm_blk0 (pc' := 15) (lv' := [(0, .ref 0), (1, .int v1), (2, .int v2), (3, .int v3), (4, .int v4)]) (st' := [.int (6 : Int32), .int v4]) (u' := (xU u)) [(.iload 4, (0, 0, 0), 0, 0), (.bipush 6, (0, 0, 0), 6, 0)] (by decide +kernel) rfl ?_
  refine xm_icmp_gt (pc := 15) (off := 22) (tgt := 37) (by decide +kernel) (by decide) ?_ ?_
  · refine xm_blk0 (pc' := 38) (lv' := [(0, .ref 0), (1, .int v1), (2, .int v2), (3, .int v3), (4, .int v4)]) (st' := [.int v3]) (u' := (xU u)) [(.iload_n 3, (0, 0, 0), 0, 0)] (by decide +kernel) rfl ?_
    exact xm_iret (pc := 38) (by decide +kernel) rfl rfl
  · refine xm_blk0 (pc' := 24) (lv' := [(0, .ref 0), (1, .int v1), (2, .int v2), (3, .int v3), (4, .int v4)]) (st' := [.int v4, .int v2, .int v1, .ref 0, .int v3]) (u' := (xU u)) [(.iload_n 3, (0, 0, 0), 0, 0), (.aload_n 0, (0, 0, 0), 0, 0), (.iload_n 1, (0, 0, 0), 0, 0), (.iload_n 2, (0, 0, 0), 0, 0), (.iload 4, (0, 0, 0), 0, 0)] (by decide +kernel) rfl ?_
    refine xm_Vi (pc := 24) (mz := md_X3_ruledOtherwise) (idx := 277) (p1 := 693) (a := 0) (as := [.int v1, .int v2, .int v4]) (st := [.int v3]) (ev_X3_ruledOtherwise N v1 v2 v4 u) mw_X3_ruledOtherwise (by decide +kernel) (by decide +kernel) (by decide) rfl rfl (by decide) rfl (Nat.le_of_ble_eq_true rfl) (fun r24 => ?_)
    refine xm_Si (pc := 27) (mz := md_X3_smallerSet) (idx := 250) (p1 := 637) (as := [.int v3, .int r24]) (st := []) (ev_X3_smallerSet v3 r24 u) mw_X3_smallerSet (by decide +kernel) (by decide +kernel) (by decide) rfl (Nat.le_of_ble_eq_true rfl) (fun r27 => ?_)
    refine xm_blk0 (pc' := 34) (lv' := [(0, .ref 0), (1, .int v1), (2, .int v2), (3, .int r27), (4, .int (v4 + (1 : Int32)))]) (st' := []) (u' := (xU u)) [(.istore_n 3, (0, 0, 0), 0, 0), (.iinc 4 1, (0, 0, 0), 1, 0)] (by decide +kernel) rfl ?_
    refine xm_goto (pc := 34) (off := -23) (tgt := 11) (by decide +kernel) (by decide) ?_
    exact h11 v1 v2 r27 (v4 + (1 : Int32))
def f_X3_struckOfTrait_L11 (N : Nat) (u : xN) : Nat → Int32 → Int32 → Int32 → Int32 → Option Int32
  | 0 => fun _ _ _ _ => none
  | n + 1 => fun v1 v2 v3 v4 => f_X3_struckOfTrait_L11b N u (f_X3_struckOfTrait_L11 N u n) v1 v2 v3 v4
theorem go_X3_struckOfTrait_L11 (N : Nat) (u : xN) : ∀ (n : Nat) (v1 : Int32) (v2 : Int32) (v3 : Int32) (v4 : Int32), xGm md_X3_struckOfTrait (rsI (xU u)) (f_X3_struckOfTrait_L11 N u n v1 v2 v3 v4) 11 [(0, .ref 0), (1, .int v1), (2, .int v2), (3, .int v3), (4, .int v4)] [] (xU u) := by
  intro n
  induction n with
  | zero => intro v1 v2 v3 v4; exact xm_none
  | succ n ih => intro v1 v2 v3 v4; exact go_X3_struckOfTrait_L11b N u _ ih v1 v2 v3 v4
def f_X3_struckOfTrait (N : Nat) (a1 : Int32) (a2 : Int32) (u : xN) : Option Int32 := Option.bind (f_X3_ruledOtherwise N a1 a2 (0 : Int32) u) (fun r4 => f_X3_struckOfTrait_L11 N u N a1 a2 r4 (1 : Int32))
set_option maxRecDepth 20000 in
theorem go_X3_struckOfTrait (N : Nat) (a1 : Int32) (a2 : Int32) (u : xN) : xGm md_X3_struckOfTrait (rsI (xU u)) (f_X3_struckOfTrait N a1 a2 u) 0 [(0, .ref 0), (1, .int a1), (2, .int a2)] [] (xU u) := by
  unfold f_X3_struckOfTrait
  refine xm_blk0 (pc' := 4) (lv' := [(0, .ref 0), (1, .int a1), (2, .int a2)]) (st' := [.int (0 : Int32), .int a2, .int a1, .ref 0]) (u' := (xU u)) [(.aload_n 0, (0, 0, 0), 0, 0), (.iload_n 1, (0, 0, 0), 0, 0), (.iload_n 2, (0, 0, 0), 0, 0), (.iconst 0, (0, 0, 0), 0, 0)] (by decide +kernel) rfl ?_
  refine xm_Vi (pc := 4) (mz := md_X3_ruledOtherwise) (idx := 277) (p1 := 693) (a := 0) (as := [.int a1, .int a2, .int (0 : Int32)]) (st := []) (ev_X3_ruledOtherwise N a1 a2 (0 : Int32) u) mw_X3_ruledOtherwise (by decide +kernel) (by decide +kernel) (by decide) rfl rfl (by decide) rfl (Nat.le_of_ble_eq_true rfl) (fun r4 => ?_)
  refine xm_blk0 (pc' := 11) (lv' := [(0, .ref 0), (1, .int a1), (2, .int a2), (3, .int r4), (4, .int (1 : Int32))]) (st' := []) (u' := (xU u)) [(.istore_n 3, (0, 0, 0), 0, 0), (.iconst 1, (0, 0, 0), 1, 0), (.istore 4, (0, 0, 0), 0, 0)] (by decide +kernel) rfl ?_
  exact go_X3_struckOfTrait_L11 N u N a1 a2 r4 (1 : Int32)
theorem ev_X3_struckOfTrait (N : Nat) (a1 : Int32) (a2 : Int32) (u : xN) : ∀ r, f_X3_struckOfTrait N a1 a2 u = some r → xEm md_X3_struckOfTrait yX3_struckOfTrait [.ref 0, .int a1, .int a2] (xU u) (some (.int r), (xU u)) := xm_met (res := (rsI (xU u))) (as := [.ref 0, .int a1, .int a2]) (go_X3_struckOfTrait N a1 a2 u) (by decide) rfl (Nat.le_of_ble_eq_true rfl)
theorem mw_X3_fix : xMv yX3_fix cX3_fix 5 (some .int) 1 := xMv_of (p1 := 688) (p2 := 686) (p3 := 92) (p4 := 687) (by decide +kernel)
/-! NeitherBare.fix(I)I (0, None) -/
abbrev md_X3_fix : xMd := (cX3_fix, RX3, 5, some .int, 4)
def f_X3_fix_L17b (N : Nat) (rec17 : Int32 → Int32 → Int32 → xN → Option (Int32 × xN)) (v1 : Int32) (v3 : Int32) (v4 : Int32) (u : xN) : Option (Int32 × xN) := if (4 : Int32) ≤ v4 then Option.bind (f_J6_bitCount_0f7a4 v3) (fun r45 => some (r45, mI u 0 10 v3)) else Option.bind (f_X3_struckOfTrait N v1 v4 u) (fun r28 => rec17 v1 (v3 ||| r28) (v4 + (1 : Int32)) u)
set_option maxRecDepth 20000 in
theorem go_X3_fix_L17b (N : Nat) (rec17 : Int32 → Int32 → Int32 → xN → Option (Int32 × xN)) (h17 : ∀ (v1 : Int32) (v3 : Int32) (v4 : Int32) (u : xN), xGm md_X3_fix rsM (rec17 v1 v3 v4 u) 17 [(0, .ref 0), (1, .int v1), (3, .int v3), (4, .int v4)] [] (xU u)) (v1 : Int32) (v3 : Int32) (v4 : Int32) (u : xN) : xGm md_X3_fix rsM (f_X3_fix_L17b N rec17 v1 v3 v4 u) 17 [(0, .ref 0), (1, .int v1), (3, .int v3), (4, .int v4)] [] (xU u) := by
  unfold f_X3_fix_L17b
  refine xm_blk0 (pc' := 20) (lv' := [(0, .ref 0), (1, .int v1), (3, .int v3), (4, .int v4)]) (st' := [.int (4 : Int32), .int v4]) (u' := (xU u)) [(.iload 4, (0, 0, 0), 0, 0), (.iconst 4, (0, 0, 0), 4, 0)] (by decide +kernel) rfl ?_
  refine xm_icmp_ge (pc := 20) (off := 19) (tgt := 39) (by decide +kernel) (by decide) ?_ ?_
  · refine xm_blk0 (pc' := 45) (lv' := [(0, .ref 0), (1, .int v1), (3, .int v3), (4, .int v4)]) (st' := [.int v3]) (u' := (xU (mI u 0 10 v3))) [(.aload_n 0, (0, 0, 0), 0, 0), (.iload_n 3, (0, 0, 0), 0, 0), (.putfield 71, (3, 10, 216), 0, 0), (.iload_n 3, (0, 0, 0), 0, 0)] (by decide +kernel) rfl ?_
    refine xm_Si (pc := 45) (mz := md_J6_bitCount_0f7a4) (idx := 186) (p1 := 509) (as := [.int v3]) (st := []) (ev_J6_bitCount_0f7a4 v3 (mI u 0 10 v3)) mw_J6_bitCount_0f7a4 (by decide +kernel) (by decide +kernel) (by decide) rfl (Nat.le_of_ble_eq_true rfl) (fun r45 => ?_)
    exact xm_iret (pc := 48) (by decide +kernel) rfl rfl
  · refine xm_blk0 (pc' := 28) (lv' := [(0, .ref 0), (1, .int v1), (3, .int v3), (4, .int v4)]) (st' := [.int v4, .int v1, .ref 0, .int v3]) (u' := (xU u)) [(.iload_n 3, (0, 0, 0), 0, 0), (.aload_n 0, (0, 0, 0), 0, 0), (.iload_n 1, (0, 0, 0), 0, 0), (.iload 4, (0, 0, 0), 0, 0)] (by decide +kernel) rfl ?_
    refine xm_Vi (pc := 28) (mz := md_X3_struckOfTrait) (idx := 271) (p1 := 689) (a := 0) (as := [.int v1, .int v4]) (st := [.int v3]) (ev_X3_struckOfTrait N v1 v4 u) mw_X3_struckOfTrait (by decide +kernel) (by decide +kernel) (by decide) rfl rfl (by decide) rfl (Nat.le_of_ble_eq_true rfl) (fun r28 => ?_)
    refine xm_blk0 (pc' := 36) (lv' := [(0, .ref 0), (1, .int v1), (3, .int (v3 ||| r28)), (4, .int (v4 + (1 : Int32)))]) (st' := []) (u' := (xU u)) [(.ior, (0, 0, 0), 0, 0), (.istore_n 3, (0, 0, 0), 0, 0), (.iinc 4 1, (0, 0, 0), 1, 0)] (by decide +kernel) rfl ?_
    refine xm_goto (pc := 36) (off := -19) (tgt := 17) (by decide +kernel) (by decide) ?_
    exact h17 v1 (v3 ||| r28) (v4 + (1 : Int32)) u
def f_X3_fix_L17 (N : Nat) : Nat → Int32 → Int32 → Int32 → xN → Option (Int32 × xN)
  | 0 => fun _ _ _ _ => none
  | n + 1 => fun v1 v3 v4 u => f_X3_fix_L17b N (f_X3_fix_L17 N n) v1 v3 v4 u
theorem go_X3_fix_L17 (N : Nat) : ∀ (n : Nat) (v1 : Int32) (v3 : Int32) (v4 : Int32) (u : xN), xGm md_X3_fix rsM (f_X3_fix_L17 N n v1 v3 v4 u) 17 [(0, .ref 0), (1, .int v1), (3, .int v3), (4, .int v4)] [] (xU u) := by
  intro n
  induction n with
  | zero => intro v1 v3 v4 u; exact xm_none
  | succ n ih => intro v1 v3 v4 u; exact go_X3_fix_L17b N _ ih v1 v3 v4 u
def f_X3_fix (N : Nat) (a1 : Int32) (u : xN) : Option (Int32 × xN) := Option.bind (f_X3_refusedRulings N a1 u) (fun r2 => if r2.1 = (0 : Int32) then f_X3_fix_L17 N N a1 (0 : Int32) (0 : Int32) r2.2 else some (r2.1, r2.2))
set_option maxRecDepth 20000 in
theorem go_X3_fix (N : Nat) (a1 : Int32) (u : xN) : xGm md_X3_fix rsM (f_X3_fix N a1 u) 0 [(0, .ref 0), (1, .int a1)] [] (xU u) := by
  unfold f_X3_fix
  refine xm_blk0 (pc' := 2) (lv' := [(0, .ref 0), (1, .int a1)]) (st' := [.int a1, .ref 0]) (u' := (xU u)) [(.aload_n 0, (0, 0, 0), 0, 0), (.iload_n 1, (0, 0, 0), 0, 0)] (by decide +kernel) rfl ?_
  refine xm_Vm (pc := 2) (mz := md_X3_refusedRulings) (idx := 265) (p1 := 674) (a := 0) (as := [.int a1]) (st := []) (ev_X3_refusedRulings N a1 u) mw_X3_refusedRulings (by decide +kernel) (by decide +kernel) (by decide) rfl rfl (by decide) rfl (Nat.le_of_ble_eq_true rfl) (fun r2 => ?_)
  refine xm_blk0 (pc' := 7) (lv' := [(0, .ref 0), (1, .int a1), (2, .int r2.1)]) (st' := [.int r2.1]) (u' := (xU r2.2)) [(.istore_n 2, (0, 0, 0), 0, 0), (.iload_n 2, (0, 0, 0), 0, 0)] (by decide +kernel) rfl ?_
  refine xm_if_eq (pc := 7) (off := 5) (tgt := 12) (by decide +kernel) (by decide) ?_ ?_
  · refine xm_blk0 (pc' := 17) (lv' := [(0, .ref 0), (1, .int a1), (2, .int r2.1), (3, .int (0 : Int32)), (4, .int (0 : Int32))]) (st' := []) (u' := (xU r2.2)) [(.iconst 0, (0, 0, 0), 0, 0), (.istore_n 3, (0, 0, 0), 0, 0), (.iconst 0, (0, 0, 0), 0, 0), (.istore 4, (0, 0, 0), 0, 0)] (by decide +kernel) rfl ?_
    refine xm_wk [0, 1, 3, 4] (lv' := [(0, .ref 0), (1, .int a1), (3, .int (0 : Int32)), (4, .int (0 : Int32))]) rfl ?_
    exact go_X3_fix_L17 N N a1 (0 : Int32) (0 : Int32) r2.2
  · refine xm_blk0 (pc' := 11) (lv' := [(0, .ref 0), (1, .int a1), (2, .int r2.1)]) (st' := [.int r2.1]) (u' := (xU r2.2)) [(.iload_n 2, (0, 0, 0), 0, 0)] (by decide +kernel) rfl ?_
    exact xm_iret (pc := 11) (by decide +kernel) rfl rfl
theorem ev_X3_fix (N : Nat) (a1 : Int32) (u : xN) : ∀ r, f_X3_fix N a1 u = some r → xEm md_X3_fix yX3_fix [.ref 0, .int a1] (xU u) (some (.int r.1), xU r.2) := xm_met (res := rsM) (as := [.ref 0, .int a1]) (go_X3_fix N a1 u) (by decide) rfl (Nat.le_of_ble_eq_true rfl)
theorem mw_X3_follows : xMv yX3_follows cX3_follows 9 (some .int) 3 := xMv_of (p1 := 700) (p2 := 698) (p3 := 92) (p4 := 699) (by decide +kernel)
/-! NeitherBare.follows(III)I (0, None, None, None) -/
abbrev md_X3_follows : xMd := (cX3_follows, RX3, 9, some .int, 4)
def f_X3_follows_L14 (N : Nat) (u : xN) : Option (Int32 × xN) := some ((-1 : Int32), u)
set_option maxRecDepth 20000 in
theorem go_X3_follows_L14 (N : Nat) (u : xN) : xGm md_X3_follows rsM (f_X3_follows_L14 N u) 14 [] [] (xU u) := by
  unfold f_X3_follows_L14
  refine xm_blk0 (pc' := 15) (lv' := []) (st' := [.int (-1 : Int32)]) (u' := (xU u)) [(.iconst (-1), (0, 0, 0), -1, 0)] (by decide +kernel) rfl ?_
  exact xm_iret (pc := 15) (by decide +kernel) rfl rfl
def f_X3_follows_L143 (N : Nat) (rec37 : Int32 → Int32 → Int32 → Int32 → Int32 → xN → Option (Int32 × xN)) (v1 : Int32) (v2 : Int32) (v3 : Int32) (v5 : Int32) (v6 : Int32) (u : xN) : Option (Int32 × xN) := rec37 v1 v2 v3 v5 (v6 + (1 : Int32)) u
set_option maxRecDepth 20000 in
theorem go_X3_follows_L143 (N : Nat) (rec37 : Int32 → Int32 → Int32 → Int32 → Int32 → xN → Option (Int32 × xN)) (h37 : ∀ (v1 : Int32) (v2 : Int32) (v3 : Int32) (v5 : Int32) (v6 : Int32) (u : xN), xGm md_X3_follows rsM (rec37 v1 v2 v3 v5 v6 u) 37 [(0, .ref 0), (1, .int v1), (2, .int v2), (3, .int v3), (5, .int v5), (6, .int v6)] [] (xU u)) (v1 : Int32) (v2 : Int32) (v3 : Int32) (v5 : Int32) (v6 : Int32) (u : xN) : xGm md_X3_follows rsM (f_X3_follows_L143 N rec37 v1 v2 v3 v5 v6 u) 143 [(0, .ref 0), (1, .int v1), (2, .int v2), (3, .int v3), (5, .int v5), (6, .int v6)] [] (xU u) := by
  unfold f_X3_follows_L143
  refine xm_blk0 (pc' := 146) (lv' := [(0, .ref 0), (1, .int v1), (2, .int v2), (3, .int v3), (5, .int v5), (6, .int (v6 + (1 : Int32)))]) (st' := []) (u' := (xU u)) [(.iinc 6 1, (0, 0, 0), 1, 0)] (by decide +kernel) rfl ?_
  refine xm_goto (pc := 146) (off := -109) (tgt := 37) (by decide +kernel) (by decide) ?_
  exact h37 v1 v2 v3 v5 (v6 + (1 : Int32)) u
def f_X3_follows_L140 (N : Nat) (rec37 : Int32 → Int32 → Int32 → Int32 → Int32 → xN → Option (Int32 × xN)) (v1 : Int32) (v2 : Int32) (v3 : Int32) (v6 : Int32) (t0 : Int32) (t1 : Int32) (u : xN) : Option (Int32 × xN) := f_X3_follows_L143 N rec37 v1 v2 v3 (t1 ||| t0) v6 u
set_option maxRecDepth 20000 in
theorem go_X3_follows_L140 (N : Nat) (rec37 : Int32 → Int32 → Int32 → Int32 → Int32 → xN → Option (Int32 × xN)) (h37 : ∀ (v1 : Int32) (v2 : Int32) (v3 : Int32) (v5 : Int32) (v6 : Int32) (u : xN), xGm md_X3_follows rsM (rec37 v1 v2 v3 v5 v6 u) 37 [(0, .ref 0), (1, .int v1), (2, .int v2), (3, .int v3), (5, .int v5), (6, .int v6)] [] (xU u)) (v1 : Int32) (v2 : Int32) (v3 : Int32) (v6 : Int32) (t0 : Int32) (t1 : Int32) (u : xN) : xGm md_X3_follows rsM (f_X3_follows_L140 N rec37 v1 v2 v3 v6 t0 t1 u) 140 [(0, .ref 0), (1, .int v1), (2, .int v2), (3, .int v3), (6, .int v6)] [.int t0, .int t1] (xU u) := by
  unfold f_X3_follows_L140
  refine xm_blk0 (pc' := 143) (lv' := [(0, .ref 0), (1, .int v1), (2, .int v2), (3, .int v3), (5, .int (t1 ||| t0)), (6, .int v6)]) (st' := []) (u' := (xU u)) [(.ior, (0, 0, 0), 0, 0), (.istore 5, (0, 0, 0), 0, 0)] (by decide +kernel) rfl ?_
  exact go_X3_follows_L143 N rec37 h37 v1 v2 v3 (t1 ||| t0) v6 u
def f_X3_follows_L139 (N : Nat) (rec37 : Int32 → Int32 → Int32 → Int32 → Int32 → xN → Option (Int32 × xN)) (v1 : Int32) (v2 : Int32) (v3 : Int32) (v6 : Int32) (t0 : Int32) (u : xN) : Option (Int32 × xN) := f_X3_follows_L140 N rec37 v1 v2 v3 v6 (0 : Int32) t0 u
set_option maxRecDepth 20000 in
theorem go_X3_follows_L139 (N : Nat) (rec37 : Int32 → Int32 → Int32 → Int32 → Int32 → xN → Option (Int32 × xN)) (h37 : ∀ (v1 : Int32) (v2 : Int32) (v3 : Int32) (v5 : Int32) (v6 : Int32) (u : xN), xGm md_X3_follows rsM (rec37 v1 v2 v3 v5 v6 u) 37 [(0, .ref 0), (1, .int v1), (2, .int v2), (3, .int v3), (5, .int v5), (6, .int v6)] [] (xU u)) (v1 : Int32) (v2 : Int32) (v3 : Int32) (v6 : Int32) (t0 : Int32) (u : xN) : xGm md_X3_follows rsM (f_X3_follows_L139 N rec37 v1 v2 v3 v6 t0 u) 139 [(0, .ref 0), (1, .int v1), (2, .int v2), (3, .int v3), (6, .int v6)] [.int t0] (xU u) := by
  unfold f_X3_follows_L139
  refine xm_blk0 (pc' := 140) (lv' := [(0, .ref 0), (1, .int v1), (2, .int v2), (3, .int v3), (6, .int v6)]) (st' := [.int (0 : Int32), .int t0]) (u' := (xU u)) [(.iconst 0, (0, 0, 0), 0, 0)] (by decide +kernel) rfl ?_
  exact go_X3_follows_L140 N rec37 h37 v1 v2 v3 v6 (0 : Int32) t0 u
def f_X3_follows_L122 (N : Nat) (rec37 : Int32 → Int32 → Int32 → Int32 → Int32 → xN → Option (Int32 × xN)) (v1 : Int32) (v2 : Int32) (v3 : Int32) (v5 : Int32) (v6 : Int32) (v7 : Int32) (v8 : Int32) (u : xN) : Option (Int32 × xN) := if v8 = (0 : Int32) then (if v7 < v3 then f_X3_follows_L139 N rec37 v1 v2 v3 v6 v5 u else f_X3_follows_L140 N rec37 v1 v2 v3 v6 (1 : Int32) v5 u) else f_X3_follows_L139 N rec37 v1 v2 v3 v6 v5 u
set_option maxRecDepth 20000 in
theorem go_X3_follows_L122 (N : Nat) (rec37 : Int32 → Int32 → Int32 → Int32 → Int32 → xN → Option (Int32 × xN)) (h37 : ∀ (v1 : Int32) (v2 : Int32) (v3 : Int32) (v5 : Int32) (v6 : Int32) (u : xN), xGm md_X3_follows rsM (rec37 v1 v2 v3 v5 v6 u) 37 [(0, .ref 0), (1, .int v1), (2, .int v2), (3, .int v3), (5, .int v5), (6, .int v6)] [] (xU u)) (v1 : Int32) (v2 : Int32) (v3 : Int32) (v5 : Int32) (v6 : Int32) (v7 : Int32) (v8 : Int32) (u : xN) : xGm md_X3_follows rsM (f_X3_follows_L122 N rec37 v1 v2 v3 v5 v6 v7 v8 u) 122 [(0, .ref 0), (1, .int v1), (2, .int v2), (3, .int v3), (5, .int v5), (6, .int v6), (7, .int v7), (8, .int v8)] [] (xU u) := by
  unfold f_X3_follows_L122
  refine xm_blk0 (pc' := 126) (lv' := [(0, .ref 0), (1, .int v1), (2, .int v2), (3, .int v3), (5, .int v5), (6, .int v6), (7, .int v7), (8, .int v8)]) (st' := [.int v8, .int v5]) (u' := (xU u)) [(.iload 5, (0, 0, 0), 0, 0), (.iload 8, (0, 0, 0), 0, 0)] (by decide +kernel) rfl ?_
  refine xm_if_ne (pc := 126) (off := 13) (tgt := 139) (by decide +kernel) (by decide) ?_ ?_
  · refine xm_wk [0, 1, 2, 3, 5] (lv' := [(0, .ref 0), (1, .int v1), (2, .int v2), (3, .int v3), (6, .int v6)]) rfl ?_
    exact go_X3_follows_L139 N rec37 h37 v1 v2 v3 v6 v5 u
  · refine xm_blk0 (pc' := 132) (lv' := [(0, .ref 0), (1, .int v1), (2, .int v2), (3, .int v3), (5, .int v5), (6, .int v6), (7, .int v7), (8, .int v8)]) (st' := [.int v3, .int v7, .int v5]) (u' := (xU u)) [(.iload 7, (0, 0, 0), 0, 0), (.iload_n 3, (0, 0, 0), 0, 0)] (by decide +kernel) rfl ?_
    refine xm_icmp_lt (pc := 132) (off := 7) (tgt := 139) (by decide +kernel) (by decide) ?_ ?_
    · refine xm_wk [0, 1, 2, 3, 5] (lv' := [(0, .ref 0), (1, .int v1), (2, .int v2), (3, .int v3), (6, .int v6)]) rfl ?_
      exact go_X3_follows_L139 N rec37 h37 v1 v2 v3 v6 v5 u
    · refine xm_blk0 (pc' := 136) (lv' := [(0, .ref 0), (1, .int v1), (2, .int v2), (3, .int v3), (5, .int v5), (6, .int v6), (7, .int v7), (8, .int v8)]) (st' := [.int (1 : Int32), .int v5]) (u' := (xU u)) [(.iconst 1, (0, 0, 0), 1, 0)] (by decide +kernel) rfl ?_
      refine xm_goto (pc := 136) (off := 4) (tgt := 140) (by decide +kernel) (by decide) ?_
      refine xm_wk [0, 1, 2, 3, 5] (lv' := [(0, .ref 0), (1, .int v1), (2, .int v2), (3, .int v3), (6, .int v6)]) rfl ?_
      exact go_X3_follows_L140 N rec37 h37 v1 v2 v3 v6 (1 : Int32) v5 u
def f_X3_follows_L107 (N : Nat) (rec37 : Int32 → Int32 → Int32 → Int32 → Int32 → xN → Option (Int32 × xN)) (v1 : Int32) (v2 : Int32) (v3 : Int32) (v5 : Int32) (v6 : Int32) (v7 : Int32) (t0 : Int32) (u : xN) : Option (Int32 × xN) := if t0 = (0 : Int32) then f_X3_follows_L122 N rec37 v1 v2 v3 v5 v6 v7 t0 u else if v3 < v7 then f_X3_follows_L122 N rec37 v1 v2 v3 v5 v6 v7 t0 u else some ((1 : Int32), u)
set_option maxRecDepth 20000 in
theorem go_X3_follows_L107 (N : Nat) (rec37 : Int32 → Int32 → Int32 → Int32 → Int32 → xN → Option (Int32 × xN)) (h37 : ∀ (v1 : Int32) (v2 : Int32) (v3 : Int32) (v5 : Int32) (v6 : Int32) (u : xN), xGm md_X3_follows rsM (rec37 v1 v2 v3 v5 v6 u) 37 [(0, .ref 0), (1, .int v1), (2, .int v2), (3, .int v3), (5, .int v5), (6, .int v6)] [] (xU u)) (v1 : Int32) (v2 : Int32) (v3 : Int32) (v5 : Int32) (v6 : Int32) (v7 : Int32) (t0 : Int32) (u : xN) : xGm md_X3_follows rsM (f_X3_follows_L107 N rec37 v1 v2 v3 v5 v6 v7 t0 u) 107 [(0, .ref 0), (1, .int v1), (2, .int v2), (3, .int v3), (5, .int v5), (6, .int v6), (7, .int v7)] [.int t0] (xU u) := by
  unfold f_X3_follows_L107
  refine xm_blk0 (pc' := 111) (lv' := [(0, .ref 0), (1, .int v1), (2, .int v2), (3, .int v3), (5, .int v5), (6, .int v6), (7, .int v7), (8, .int t0)]) (st' := [.int t0]) (u' := (xU u)) [(.istore 8, (0, 0, 0), 0, 0), (.iload 8, (0, 0, 0), 0, 0)] (by decide +kernel) rfl ?_
  refine xm_if_eq (pc := 111) (off := 11) (tgt := 122) (by decide +kernel) (by decide) ?_ ?_
  · exact go_X3_follows_L122 N rec37 h37 v1 v2 v3 v5 v6 v7 t0 u
  · refine xm_blk0 (pc' := 117) (lv' := [(0, .ref 0), (1, .int v1), (2, .int v2), (3, .int v3), (5, .int v5), (6, .int v6), (7, .int v7), (8, .int t0)]) (st' := [.int v3, .int v7]) (u' := (xU u)) [(.iload 7, (0, 0, 0), 0, 0), (.iload_n 3, (0, 0, 0), 0, 0)] (by decide +kernel) rfl ?_
    refine xm_icmp_gt (pc := 117) (off := 5) (tgt := 122) (by decide +kernel) (by decide) ?_ ?_
    · exact go_X3_follows_L122 N rec37 h37 v1 v2 v3 v5 v6 v7 t0 u
    · refine xm_blk0 (pc' := 121) (lv' := [(0, .ref 0), (1, .int v1), (2, .int v2), (3, .int v3), (5, .int v5), (6, .int v6), (7, .int v7), (8, .int t0)]) (st' := [.int (1 : Int32)]) (u' := (xU u)) [(.iconst 1, (0, 0, 0), 1, 0)] (by decide +kernel) rfl ?_
      exact xm_iret (pc := 121) (by decide +kernel) rfl rfl
def f_X3_follows_L160 (N : Nat) (t0 : Int32) (u : xN) : Option (Int32 × xN) := some (t0, u)
set_option maxRecDepth 20000 in
theorem go_X3_follows_L160 (N : Nat) (t0 : Int32) (u : xN) : xGm md_X3_follows rsM (f_X3_follows_L160 N t0 u) 160 [] [.int t0] (xU u) := by
  unfold f_X3_follows_L160
  exact xm_iret (pc := 160) (by decide +kernel) rfl rfl
def f_X3_follows_L37b (N : Nat) (rec37 : Int32 → Int32 → Int32 → Int32 → Int32 → xN → Option (Int32 × xN)) (v1 : Int32) (v2 : Int32) (v3 : Int32) (v5 : Int32) (v6 : Int32) (u : xN) : Option (Int32 × xN) := Option.bind (f_X1_sizeOf_1 v1 u) (fun r44 => gdl [nzi (3 : Int32)] (if (r44 / (3 : Int32)) ≤ v6 then (if v5 = (0 : Int32) then f_X3_follows_L160 N (-9 : Int32) u else f_X3_follows_L160 N (0 : Int32) u) else Option.bind (f_X1_cellOf_1 v1 ((3 : Int32) * v6) u) (fun r61 => if r61 = v2 then Option.bind (f_X1_cellOf_1 v1 (((3 : Int32) * v6) + (1 : Int32)) u) (fun r79 => Option.bind (f_X1_cellOf_1 v1 (((3 : Int32) * v6) + (2 : Int32)) u) (fun r95 => if r95 = (1 : Int32) then f_X3_follows_L107 N rec37 v1 v2 v3 v5 v6 r79 (1 : Int32) u else f_X3_follows_L107 N rec37 v1 v2 v3 v5 v6 r79 (0 : Int32) u)) else f_X3_follows_L143 N rec37 v1 v2 v3 v5 v6 u)))
set_option maxRecDepth 20000 in
theorem go_X3_follows_L37b (N : Nat) (rec37 : Int32 → Int32 → Int32 → Int32 → Int32 → xN → Option (Int32 × xN)) (h37 : ∀ (v1 : Int32) (v2 : Int32) (v3 : Int32) (v5 : Int32) (v6 : Int32) (u : xN), xGm md_X3_follows rsM (rec37 v1 v2 v3 v5 v6 u) 37 [(0, .ref 0), (1, .int v1), (2, .int v2), (3, .int v3), (5, .int v5), (6, .int v6)] [] (xU u)) (v1 : Int32) (v2 : Int32) (v3 : Int32) (v5 : Int32) (v6 : Int32) (u : xN) : xGm md_X3_follows rsM (f_X3_follows_L37b N rec37 v1 v2 v3 v5 v6 u) 37 [(0, .ref 0), (1, .int v1), (2, .int v2), (3, .int v3), (5, .int v5), (6, .int v6)] [] (xU u) := by
  unfold f_X3_follows_L37b
  refine xm_blk0 (pc' := 44) (lv' := [(0, .ref 0), (1, .int v1), (2, .int v2), (3, .int v3), (5, .int v5), (6, .int v6)]) (st' := [.int v1, .ref 1, .int v6]) (u' := (xU u)) [(.iload 6, (0, 0, 0), 0, 0), (.aload_n 0, (0, 0, 0), 0, 0), (.getfield 14, (3, 0, 206), 0, 0), (.iload_n 1, (0, 0, 0), 0, 0)] (by decide +kernel) rfl ?_
  refine xm_Vi (pc := 44) (mz := md_X1_sizeOf_1) (idx := 104) (p1 := 327) (a := 1) (as := [.int v1]) (st := [.int v6]) (ev_X1_sizeOf_1 v1 u) mw_X1_sizeOf (by decide +kernel) (by decide +kernel) (by decide) rfl rfl (by decide) rfl (Nat.le_of_ble_eq_true rfl) (fun r44 => ?_)
  refine xm_blk (bs := [nzi (3 : Int32)]) (pc' := 49) (lv' := [(0, .ref 0), (1, .int v1), (2, .int v2), (3, .int v3), (5, .int v5), (6, .int v6)]) (st' := [.int (r44 / (3 : Int32)), .int v6]) (u' := (xU u)) [(.iconst 3, (0, 0, 0), 3, 0), (.idiv, (0, 0, 0), 0, 0)] (by decide +kernel) rfl ?_
  refine xm_icmp_ge (pc := 49) (off := 100) (tgt := 149) (by decide +kernel) (by decide) ?_ ?_
  · refine xm_blk0 (pc' := 151) (lv' := [(0, .ref 0), (1, .int v1), (2, .int v2), (3, .int v3), (5, .int v5), (6, .int v6)]) (st' := [.int v5]) (u' := (xU u)) [(.iload 5, (0, 0, 0), 0, 0)] (by decide +kernel) rfl ?_
    refine xm_if_eq (pc := 151) (off := 7) (tgt := 158) (by decide +kernel) (by decide) ?_ ?_
    · refine xm_blk0 (pc' := 160) (lv' := [(0, .ref 0), (1, .int v1), (2, .int v2), (3, .int v3), (5, .int v5), (6, .int v6)]) (st' := [.int (-9 : Int32)]) (u' := (xU u)) [(.bipush (-9), (0, 0, 0), -9, 0)] (by decide +kernel) rfl ?_
      refine xm_wk [] (lv' := []) rfl ?_
      exact go_X3_follows_L160 N (-9 : Int32) u
    · refine xm_blk0 (pc' := 155) (lv' := [(0, .ref 0), (1, .int v1), (2, .int v2), (3, .int v3), (5, .int v5), (6, .int v6)]) (st' := [.int (0 : Int32)]) (u' := (xU u)) [(.iconst 0, (0, 0, 0), 0, 0)] (by decide +kernel) rfl ?_
      refine xm_goto (pc := 155) (off := 5) (tgt := 160) (by decide +kernel) (by decide) ?_
      refine xm_wk [] (lv' := []) rfl ?_
      exact go_X3_follows_L160 N (0 : Int32) u
  · refine xm_blk0 (pc' := 61) (lv' := [(0, .ref 0), (1, .int v1), (2, .int v2), (3, .int v3), (5, .int v5), (6, .int v6)]) (st' := [.int ((3 : Int32) * v6), .int v1, .ref 1]) (u' := (xU u)) [(.aload_n 0, (0, 0, 0), 0, 0), (.getfield 14, (3, 0, 206), 0, 0), (.iload_n 1, (0, 0, 0), 0, 0), (.iconst 3, (0, 0, 0), 3, 0), (.iload 6, (0, 0, 0), 0, 0), (.imul, (0, 0, 0), 0, 0)] (by decide +kernel) rfl ?_
    refine xm_Vi (pc := 61) (mz := md_X1_cellOf_1) (idx := 67) (p1 := 292) (a := 1) (as := [.int v1, .int ((3 : Int32) * v6)]) (st := []) (ev_X1_cellOf_1 v1 ((3 : Int32) * v6) u) mw_X1_cellOf (by decide +kernel) (by decide +kernel) (by decide) rfl rfl (by decide) rfl (Nat.le_of_ble_eq_true rfl) (fun r61 => ?_)
    refine xm_blk0 (pc' := 65) (lv' := [(0, .ref 0), (1, .int v1), (2, .int v2), (3, .int v3), (5, .int v5), (6, .int v6)]) (st' := [.int v2, .int r61]) (u' := (xU u)) [(.iload_n 2, (0, 0, 0), 0, 0)] (by decide +kernel) rfl ?_
    refine xm_icmp_ne (pc := 65) (off := 78) (tgt := 143) (by decide +kernel) (by decide) ?_ ?_
    · exact go_X3_follows_L143 N rec37 h37 v1 v2 v3 v5 v6 u
    · refine xm_blk0 (pc' := 79) (lv' := [(0, .ref 0), (1, .int v1), (2, .int v2), (3, .int v3), (5, .int v5), (6, .int v6)]) (st' := [.int (((3 : Int32) * v6) + (1 : Int32)), .int v1, .ref 1]) (u' := (xU u)) [(.aload_n 0, (0, 0, 0), 0, 0), (.getfield 14, (3, 0, 206), 0, 0), (.iload_n 1, (0, 0, 0), 0, 0), (.iconst 3, (0, 0, 0), 3, 0), (.iload 6, (0, 0, 0), 0, 0), (.imul, (0, 0, 0), 0, 0), (.iconst 1, (0, 0, 0), 1, 0), (.iadd, (0, 0, 0), 0, 0)] (by decide +kernel) rfl ?_
      refine xm_Vi (pc := 79) (mz := md_X1_cellOf_1) (idx := 67) (p1 := 292) (a := 1) (as := [.int v1, .int (((3 : Int32) * v6) + (1 : Int32))]) (st := []) (ev_X1_cellOf_1 v1 (((3 : Int32) * v6) + (1 : Int32)) u) mw_X1_cellOf (by decide +kernel) (by decide +kernel) (by decide) rfl rfl (by decide) rfl (Nat.le_of_ble_eq_true rfl) (fun r79 => ?_)
      refine xm_blk0 (pc' := 95) (lv' := [(0, .ref 0), (1, .int v1), (2, .int v2), (3, .int v3), (5, .int v5), (6, .int v6), (7, .int r79)]) (st' := [.int (((3 : Int32) * v6) + (2 : Int32)), .int v1, .ref 1]) (u' := (xU u)) [(.istore 7, (0, 0, 0), 0, 0), (.aload_n 0, (0, 0, 0), 0, 0), (.getfield 14, (3, 0, 206), 0, 0), (.iload_n 1, (0, 0, 0), 0, 0), (.iconst 3, (0, 0, 0), 3, 0), (.iload 6, (0, 0, 0), 0, 0), (.imul, (0, 0, 0), 0, 0), (.iconst 2, (0, 0, 0), 2, 0), (.iadd, (0, 0, 0), 0, 0)] (by decide +kernel) rfl ?_
      refine xm_Vi (pc := 95) (mz := md_X1_cellOf_1) (idx := 67) (p1 := 292) (a := 1) (as := [.int v1, .int (((3 : Int32) * v6) + (2 : Int32))]) (st := []) (ev_X1_cellOf_1 v1 (((3 : Int32) * v6) + (2 : Int32)) u) mw_X1_cellOf (by decide +kernel) (by decide +kernel) (by decide) rfl rfl (by decide) rfl (Nat.le_of_ble_eq_true rfl) (fun r95 => ?_)
      refine xm_blk0 (pc' := 99) (lv' := [(0, .ref 0), (1, .int v1), (2, .int v2), (3, .int v3), (5, .int v5), (6, .int v6), (7, .int r79)]) (st' := [.int (1 : Int32), .int r95]) (u' := (xU u)) [(.iconst 1, (0, 0, 0), 1, 0)] (by decide +kernel) rfl ?_
      refine xm_icmp_ne (pc := 99) (off := 7) (tgt := 106) (by decide +kernel) (by decide) ?_ ?_
      · refine xm_blk0 (pc' := 107) (lv' := [(0, .ref 0), (1, .int v1), (2, .int v2), (3, .int v3), (5, .int v5), (6, .int v6), (7, .int r79)]) (st' := [.int (0 : Int32)]) (u' := (xU u)) [(.iconst 0, (0, 0, 0), 0, 0)] (by decide +kernel) rfl ?_
        exact go_X3_follows_L107 N rec37 h37 v1 v2 v3 v5 v6 r79 (0 : Int32) u
      · refine xm_blk0 (pc' := 103) (lv' := [(0, .ref 0), (1, .int v1), (2, .int v2), (3, .int v3), (5, .int v5), (6, .int v6), (7, .int r79)]) (st' := [.int (1 : Int32)]) (u' := (xU u)) [(.iconst 1, (0, 0, 0), 1, 0)] (by decide +kernel) rfl ?_
        refine xm_goto (pc := 103) (off := 4) (tgt := 107) (by decide +kernel) (by decide) ?_
        exact go_X3_follows_L107 N rec37 h37 v1 v2 v3 v5 v6 r79 (1 : Int32) u
def f_X3_follows_L37 (N : Nat) : Nat → Int32 → Int32 → Int32 → Int32 → Int32 → xN → Option (Int32 × xN)
  | 0 => fun _ _ _ _ _ _ => none
  | n + 1 => fun v1 v2 v3 v5 v6 u => f_X3_follows_L37b N (f_X3_follows_L37 N n) v1 v2 v3 v5 v6 u
theorem go_X3_follows_L37 (N : Nat) : ∀ (n : Nat) (v1 : Int32) (v2 : Int32) (v3 : Int32) (v5 : Int32) (v6 : Int32) (u : xN), xGm md_X3_follows rsM (f_X3_follows_L37 N n v1 v2 v3 v5 v6 u) 37 [(0, .ref 0), (1, .int v1), (2, .int v2), (3, .int v3), (5, .int v5), (6, .int v6)] [] (xU u) := by
  intro n
  induction n with
  | zero => intro v1 v2 v3 v5 v6 u; exact xm_none
  | succ n ih => intro v1 v2 v3 v5 v6 u; exact go_X3_follows_L37b N _ ih v1 v2 v3 v5 v6 u
def f_X3_follows (N : Nat) (a1 : Int32) (a2 : Int32) (a3 : Int32) (u : xN) : Option (Int32 × xN) := Option.bind (f_X3_isTrait a2) (fun r1 => if r1 = (0 : Int32) then f_X3_follows_L14 N u else Option.bind (f_X3_isValue a3) (fun r8 => if r8 = (0 : Int32) then f_X3_follows_L14 N u else Option.bind (f_X3_refusedRulings N a1 u) (fun r18 => if r18.1 = (0 : Int32) then f_X3_follows_L37 N N a1 a2 a3 (0 : Int32) (0 : Int32) r18.2 else some (r18.1, r18.2))))
set_option maxRecDepth 20000 in
theorem go_X3_follows (N : Nat) (a1 : Int32) (a2 : Int32) (a3 : Int32) (u : xN) : xGm md_X3_follows rsM (f_X3_follows N a1 a2 a3 u) 0 [(0, .ref 0), (1, .int a1), (2, .int a2), (3, .int a3)] [] (xU u) := by
  unfold f_X3_follows
  refine xm_blk0 (pc' := 1) (lv' := [(0, .ref 0), (1, .int a1), (2, .int a2), (3, .int a3)]) (st' := [.int a2]) (u' := (xU u)) [(.iload_n 2, (0, 0, 0), 0, 0)] (by decide +kernel) rfl ?_
  refine xm_Si (pc := 1) (mz := md_X3_isTrait) (idx := 164) (p1 := 488) (as := [.int a2]) (st := []) (ev_X3_isTrait a2 u) mw_X3_isTrait (by decide +kernel) (by decide +kernel) (by decide) rfl (Nat.le_of_ble_eq_true rfl) (fun r1 => ?_)
  refine xm_if_eq (pc := 4) (off := 10) (tgt := 14) (by decide +kernel) (by decide) ?_ ?_
  · refine xm_wk [] (lv' := []) rfl ?_
    exact go_X3_follows_L14 N u
  · refine xm_blk0 (pc' := 8) (lv' := [(0, .ref 0), (1, .int a1), (2, .int a2), (3, .int a3)]) (st' := [.int a3]) (u' := (xU u)) [(.iload_n 3, (0, 0, 0), 0, 0)] (by decide +kernel) rfl ?_
    refine xm_Si (pc := 8) (mz := md_X3_isValue) (idx := 274) (p1 := 678) (as := [.int a3]) (st := []) (ev_X3_isValue a3 u) mw_X3_isValue (by decide +kernel) (by decide +kernel) (by decide) rfl (Nat.le_of_ble_eq_true rfl) (fun r8 => ?_)
    refine xm_if_ne (pc := 11) (off := 5) (tgt := 16) (by decide +kernel) (by decide) ?_ ?_
    · refine xm_blk0 (pc' := 18) (lv' := [(0, .ref 0), (1, .int a1), (2, .int a2), (3, .int a3)]) (st' := [.int a1, .ref 0]) (u' := (xU u)) [(.aload_n 0, (0, 0, 0), 0, 0), (.iload_n 1, (0, 0, 0), 0, 0)] (by decide +kernel) rfl ?_
      refine xm_Vm (pc := 18) (mz := md_X3_refusedRulings) (idx := 265) (p1 := 674) (a := 0) (as := [.int a1]) (st := []) (ev_X3_refusedRulings N a1 u) mw_X3_refusedRulings (by decide +kernel) (by decide +kernel) (by decide) rfl rfl (by decide) rfl (Nat.le_of_ble_eq_true rfl) (fun r18 => ?_)
      refine xm_blk0 (pc' := 25) (lv' := [(0, .ref 0), (1, .int a1), (2, .int a2), (3, .int a3), (4, .int r18.1)]) (st' := [.int r18.1]) (u' := (xU r18.2)) [(.istore 4, (0, 0, 0), 0, 0), (.iload 4, (0, 0, 0), 0, 0)] (by decide +kernel) rfl ?_
      refine xm_if_eq (pc := 25) (off := 6) (tgt := 31) (by decide +kernel) (by decide) ?_ ?_
      · refine xm_blk0 (pc' := 37) (lv' := [(0, .ref 0), (1, .int a1), (2, .int a2), (3, .int a3), (4, .int r18.1), (5, .int (0 : Int32)), (6, .int (0 : Int32))]) (st' := []) (u' := (xU r18.2)) [(.iconst 0, (0, 0, 0), 0, 0), (.istore 5, (0, 0, 0), 0, 0), (.iconst 0, (0, 0, 0), 0, 0), (.istore 6, (0, 0, 0), 0, 0)] (by decide +kernel) rfl ?_
        refine xm_wk [0, 1, 2, 3, 5, 6] (lv' := [(0, .ref 0), (1, .int a1), (2, .int a2), (3, .int a3), (5, .int (0 : Int32)), (6, .int (0 : Int32))]) rfl ?_
        exact go_X3_follows_L37 N N a1 a2 a3 (0 : Int32) (0 : Int32) r18.2
      · refine xm_blk0 (pc' := 30) (lv' := [(0, .ref 0), (1, .int a1), (2, .int a2), (3, .int a3), (4, .int r18.1)]) (st' := [.int r18.1]) (u' := (xU r18.2)) [(.iload 4, (0, 0, 0), 0, 0)] (by decide +kernel) rfl ?_
        exact xm_iret (pc := 30) (by decide +kernel) rfl rfl
    · refine xm_wk [] (lv' := []) rfl ?_
      exact go_X3_follows_L14 N u
theorem ev_X3_follows (N : Nat) (a1 : Int32) (a2 : Int32) (a3 : Int32) (u : xN) : ∀ r, f_X3_follows N a1 a2 a3 u = some r → xEm md_X3_follows yX3_follows [.ref 0, .int a1, .int a2, .int a3] (xU u) (some (.int r.1), xU r.2) := xm_met (res := rsM) (as := [.ref 0, .int a1, .int a2, .int a3]) (go_X3_follows N a1 a2 a3 u) (by decide) rfl (Nat.le_of_ble_eq_true rfl)
theorem mw_X3_borders : xMv yX3_borders cX3_borders 6 (some .int) 2 := xMv_of (p1 := 704) (p2 := 702) (p3 := 92) (p4 := 703) (by decide +kernel)
/-! NeitherBare.borders(II)I (0, None, None) -/
abbrev md_X3_borders : xMd := (cX3_borders, RX3, 6, some .int, 4)
def f_X3_borders_L53 (N : Nat) (rec27 : Int32 → Int32 → Int32 → Int32 → xN → Option (Int32 × xN)) (v1 : Int32) (v2 : Int32) (v4 : Int32) (v5 : Int32) (u : xN) : Option (Int32 × xN) := rec27 v1 v2 v4 (v5 + (1 : Int32)) u
set_option maxRecDepth 20000 in
theorem go_X3_borders_L53 (N : Nat) (rec27 : Int32 → Int32 → Int32 → Int32 → xN → Option (Int32 × xN)) (h27 : ∀ (v1 : Int32) (v2 : Int32) (v4 : Int32) (v5 : Int32) (u : xN), xGm md_X3_borders rsM (rec27 v1 v2 v4 v5 u) 27 [(0, .ref 0), (1, .int v1), (2, .int v2), (4, .int v4), (5, .int v5)] [] (xU u)) (v1 : Int32) (v2 : Int32) (v4 : Int32) (v5 : Int32) (u : xN) : xGm md_X3_borders rsM (f_X3_borders_L53 N rec27 v1 v2 v4 v5 u) 53 [(0, .ref 0), (1, .int v1), (2, .int v2), (4, .int v4), (5, .int v5)] [] (xU u) := by
  unfold f_X3_borders_L53
  refine xm_blk0 (pc' := 56) (lv' := [(0, .ref 0), (1, .int v1), (2, .int v2), (4, .int v4), (5, .int (v5 + (1 : Int32)))]) (st' := []) (u' := (xU u)) [(.iinc 5 1, (0, 0, 0), 1, 0)] (by decide +kernel) rfl ?_
  refine xm_goto (pc := 56) (off := -29) (tgt := 27) (by decide +kernel) (by decide) ?_
  exact h27 v1 v2 v4 (v5 + (1 : Int32)) u
def f_X3_borders_L27b (N : Nat) (rec27 : Int32 → Int32 → Int32 → Int32 → xN → Option (Int32 × xN)) (v1 : Int32) (v2 : Int32) (v4 : Int32) (v5 : Int32) (u : xN) : Option (Int32 × xN) := if (5 : Int32) < v5 then some (v4, u) else Option.bind (f_X3_ruledOtherwise N v1 v2 v5 u) (fun r38 => if r38 = (0 : Int32) then f_X3_borders_L53 N rec27 v1 v2 (v4 ||| ((1 : Int32) <<< (v5 &&& 31))) v5 u else f_X3_borders_L53 N rec27 v1 v2 v4 v5 u)
set_option maxRecDepth 20000 in
theorem go_X3_borders_L27b (N : Nat) (rec27 : Int32 → Int32 → Int32 → Int32 → xN → Option (Int32 × xN)) (h27 : ∀ (v1 : Int32) (v2 : Int32) (v4 : Int32) (v5 : Int32) (u : xN), xGm md_X3_borders rsM (rec27 v1 v2 v4 v5 u) 27 [(0, .ref 0), (1, .int v1), (2, .int v2), (4, .int v4), (5, .int v5)] [] (xU u)) (v1 : Int32) (v2 : Int32) (v4 : Int32) (v5 : Int32) (u : xN) : xGm md_X3_borders rsM (f_X3_borders_L27b N rec27 v1 v2 v4 v5 u) 27 [(0, .ref 0), (1, .int v1), (2, .int v2), (4, .int v4), (5, .int v5)] [] (xU u) := by
  unfold f_X3_borders_L27b
  refine xm_blk0 (pc' := 30) (lv' := [(0, .ref 0), (1, .int v1), (2, .int v2), (4, .int v4), (5, .int v5)]) (st' := [.int (5 : Int32), .int v5]) (u' := (xU u)) [(.iload 5, (0, 0, 0), 0, 0), (.iconst 5, (0, 0, 0), 5, 0)] (by decide +kernel) rfl ?_
  refine xm_icmp_gt (pc := 30) (off := 29) (tgt := 59) (by decide +kernel) (by decide) ?_ ?_
  · refine xm_blk0 (pc' := 61) (lv' := [(0, .ref 0), (1, .int v1), (2, .int v2), (4, .int v4), (5, .int v5)]) (st' := [.int v4]) (u' := (xU u)) [(.iload 4, (0, 0, 0), 0, 0)] (by decide +kernel) rfl ?_
    exact xm_iret (pc := 61) (by decide +kernel) rfl rfl
  · refine xm_blk0 (pc' := 38) (lv' := [(0, .ref 0), (1, .int v1), (2, .int v2), (4, .int v4), (5, .int v5)]) (st' := [.int v5, .int v2, .int v1, .ref 0]) (u' := (xU u)) [(.aload_n 0, (0, 0, 0), 0, 0), (.iload_n 1, (0, 0, 0), 0, 0), (.iload_n 2, (0, 0, 0), 0, 0), (.iload 5, (0, 0, 0), 0, 0)] (by decide +kernel) rfl ?_
    refine xm_Vi (pc := 38) (mz := md_X3_ruledOtherwise) (idx := 277) (p1 := 693) (a := 0) (as := [.int v1, .int v2, .int v5]) (st := []) (ev_X3_ruledOtherwise N v1 v2 v5 u) mw_X3_ruledOtherwise (by decide +kernel) (by decide +kernel) (by decide) rfl rfl (by decide) rfl (Nat.le_of_ble_eq_true rfl) (fun r38 => ?_)
    refine xm_if_ne (pc := 41) (off := 12) (tgt := 53) (by decide +kernel) (by decide) ?_ ?_
    · exact go_X3_borders_L53 N rec27 h27 v1 v2 v4 v5 u
    · refine xm_blk0 (pc' := 53) (lv' := [(0, .ref 0), (1, .int v1), (2, .int v2), (4, .int (v4 ||| ((1 : Int32) <<< (v5 &&& 31)))), (5, .int v5)]) (st' := []) (u' := (xU u)) [(.iload 4, (0, 0, 0), 0, 0), (.iconst 1, (0, 0, 0), 1, 0), (.iload 5, (0, 0, 0), 0, 0), (.ishl, (0, 0, 0), 0, 0), (.ior, (0, 0, 0), 0, 0), (.istore 4, (0, 0, 0), 0, 0)] (by decide +kernel) rfl ?_
      exact go_X3_borders_L53 N rec27 h27 v1 v2 (v4 ||| ((1 : Int32) <<< (v5 &&& 31))) v5 u
def f_X3_borders_L27 (N : Nat) : Nat → Int32 → Int32 → Int32 → Int32 → xN → Option (Int32 × xN)
  | 0 => fun _ _ _ _ _ => none
  | n + 1 => fun v1 v2 v4 v5 u => f_X3_borders_L27b N (f_X3_borders_L27 N n) v1 v2 v4 v5 u
theorem go_X3_borders_L27 (N : Nat) : ∀ (n : Nat) (v1 : Int32) (v2 : Int32) (v4 : Int32) (v5 : Int32) (u : xN), xGm md_X3_borders rsM (f_X3_borders_L27 N n v1 v2 v4 v5 u) 27 [(0, .ref 0), (1, .int v1), (2, .int v2), (4, .int v4), (5, .int v5)] [] (xU u) := by
  intro n
  induction n with
  | zero => intro v1 v2 v4 v5 u; exact xm_none
  | succ n ih => intro v1 v2 v4 v5 u; exact go_X3_borders_L27b N _ ih v1 v2 v4 v5 u
def f_X3_borders (N : Nat) (a1 : Int32) (a2 : Int32) (u : xN) : Option (Int32 × xN) := Option.bind (f_X3_isTrait a2) (fun r1 => if r1 = (0 : Int32) then some ((-1 : Int32), u) else Option.bind (f_X3_refusedRulings N a1 u) (fun r11 => if r11.1 = (0 : Int32) then f_X3_borders_L27 N N a1 a2 (0 : Int32) (1 : Int32) r11.2 else some (r11.1, r11.2)))
set_option maxRecDepth 20000 in
theorem go_X3_borders (N : Nat) (a1 : Int32) (a2 : Int32) (u : xN) : xGm md_X3_borders rsM (f_X3_borders N a1 a2 u) 0 [(0, .ref 0), (1, .int a1), (2, .int a2)] [] (xU u) := by
  unfold f_X3_borders
  refine xm_blk0 (pc' := 1) (lv' := [(0, .ref 0), (1, .int a1), (2, .int a2)]) (st' := [.int a2]) (u' := (xU u)) [(.iload_n 2, (0, 0, 0), 0, 0)] (by decide +kernel) rfl ?_
  refine xm_Si (pc := 1) (mz := md_X3_isTrait) (idx := 164) (p1 := 488) (as := [.int a2]) (st := []) (ev_X3_isTrait a2 u) mw_X3_isTrait (by decide +kernel) (by decide +kernel) (by decide) rfl (Nat.le_of_ble_eq_true rfl) (fun r1 => ?_)
  refine xm_if_ne (pc := 4) (off := 5) (tgt := 9) (by decide +kernel) (by decide) ?_ ?_
  · refine xm_blk0 (pc' := 11) (lv' := [(0, .ref 0), (1, .int a1), (2, .int a2)]) (st' := [.int a1, .ref 0]) (u' := (xU u)) [(.aload_n 0, (0, 0, 0), 0, 0), (.iload_n 1, (0, 0, 0), 0, 0)] (by decide +kernel) rfl ?_
    refine xm_Vm (pc := 11) (mz := md_X3_refusedRulings) (idx := 265) (p1 := 674) (a := 0) (as := [.int a1]) (st := []) (ev_X3_refusedRulings N a1 u) mw_X3_refusedRulings (by decide +kernel) (by decide +kernel) (by decide) rfl rfl (by decide) rfl (Nat.le_of_ble_eq_true rfl) (fun r11 => ?_)
    refine xm_blk0 (pc' := 16) (lv' := [(0, .ref 0), (1, .int a1), (2, .int a2), (3, .int r11.1)]) (st' := [.int r11.1]) (u' := (xU r11.2)) [(.istore_n 3, (0, 0, 0), 0, 0), (.iload_n 3, (0, 0, 0), 0, 0)] (by decide +kernel) rfl ?_
    refine xm_if_eq (pc := 16) (off := 5) (tgt := 21) (by decide +kernel) (by decide) ?_ ?_
    · refine xm_blk0 (pc' := 27) (lv' := [(0, .ref 0), (1, .int a1), (2, .int a2), (3, .int r11.1), (4, .int (0 : Int32)), (5, .int (1 : Int32))]) (st' := []) (u' := (xU r11.2)) [(.iconst 0, (0, 0, 0), 0, 0), (.istore 4, (0, 0, 0), 0, 0), (.iconst 1, (0, 0, 0), 1, 0), (.istore 5, (0, 0, 0), 0, 0)] (by decide +kernel) rfl ?_
      refine xm_wk [0, 1, 2, 4, 5] (lv' := [(0, .ref 0), (1, .int a1), (2, .int a2), (4, .int (0 : Int32)), (5, .int (1 : Int32))]) rfl ?_
      exact go_X3_borders_L27 N N a1 a2 (0 : Int32) (1 : Int32) r11.2
    · refine xm_blk0 (pc' := 20) (lv' := [(0, .ref 0), (1, .int a1), (2, .int a2), (3, .int r11.1)]) (st' := [.int r11.1]) (u' := (xU r11.2)) [(.iload_n 3, (0, 0, 0), 0, 0)] (by decide +kernel) rfl ?_
      exact xm_iret (pc := 20) (by decide +kernel) rfl rfl
  · refine xm_blk0 (pc' := 8) (lv' := [(0, .ref 0), (1, .int a1), (2, .int a2)]) (st' := [.int (-1 : Int32)]) (u' := (xU u)) [(.iconst (-1), (0, 0, 0), -1, 0)] (by decide +kernel) rfl ?_
    exact xm_iret (pc := 8) (by decide +kernel) rfl rfl
theorem ev_X3_borders (N : Nat) (a1 : Int32) (a2 : Int32) (u : xN) : ∀ r, f_X3_borders N a1 a2 u = some r → xEm md_X3_borders yX3_borders [.ref 0, .int a1, .int a2] (xU u) (some (.int r.1), xU r.2) := xm_met (res := rsM) (as := [.ref 0, .int a1, .int a2]) (go_X3_borders N a1 a2 u) (by decide) rfl (Nat.le_of_ble_eq_true rfl)
theorem mw_X3_worth : xMv yX3_worth cX3_worth 4 (some .int) 1 := xMv_of (p1 := 708) (p2 := 706) (p3 := 92) (p4 := 707) (by decide +kernel)
/-! NeitherBare.worth(I)I (0, None) -/
abbrev md_X3_worth : xMd := (cX3_worth, RX3, 4, some .int, 7)
def f_X3_worth (N : Nat) (a1 : Int32) (u : xN) : Option (Int32 × xN) := Option.bind (f_X3_isClause a1 u) (fun r2 => if r2 = (0 : Int32) then some ((-1 : Int32), u) else if (u.1 7 0) = (0 : Int32) then some ((-4 : Int32), u) else Option.bind (f_X2_isOn_19 a1 u) (fun r28 => if r28 = (0 : Int32) then some ((0 : Int32), u) else Option.bind (f_X3_judgeWays_20 N u) (fun r44 => Option.bind (f_X3_cheapestBy N ((r44.1 19 1) &&& (((1 : Int32) <<< (a1 &&& 31)) ^^^ (-1 : Int32))) r44) (fun r61 => if r61 = (-9 : Int32) then some ((-9 : Int32), r44) else Option.bind (f_X3_cheapestBy N (r44.1 19 1) r44) (fun r82 => if r82 = (-9 : Int32) then some ((1000 : Int32), r44) else Option.bind (f_X0_sumOf_7 r82 (4 : Int32) r44) (fun r102 => Option.bind (f_X0_sumOf_7 r61 (4 : Int32) r44) (fun r111 => some ((r102 - r111), r44))))))))
set_option maxRecDepth 20000 in
theorem go_X3_worth (N : Nat) (a1 : Int32) (u : xN) : xGm md_X3_worth rsM (f_X3_worth N a1 u) 0 [(0, .ref 0), (1, .int a1)] [] (xU u) := by
  unfold f_X3_worth
  refine xm_blk0 (pc' := 2) (lv' := [(0, .ref 0), (1, .int a1)]) (st' := [.int a1, .ref 0]) (u' := (xU u)) [(.aload_n 0, (0, 0, 0), 0, 0), (.iload_n 1, (0, 0, 0), 0, 0)] (by decide +kernel) rfl ?_
  refine xm_Vi (pc := 2) (mz := md_X3_isClause) (idx := 125) (p1 := 411) (a := 0) (as := [.int a1]) (st := []) (ev_X3_isClause a1 u) mw_X3_isClause (by decide +kernel) (by decide +kernel) (by decide) rfl rfl (by decide) rfl (Nat.le_of_ble_eq_true rfl) (fun r2 => ?_)
  refine xm_if_ne (pc := 5) (off := 5) (tgt := 10) (by decide +kernel) (by decide) ?_ ?_
  · refine xm_blk0 (pc' := 17) (lv' := [(0, .ref 0), (1, .int a1)]) (st' := [.int (u.1 7 0)]) (u' := (xU u)) [(.aload_n 0, (0, 0, 0), 0, 0), (.getfield 24, (3, 2, 208), 0, 0), (.getfield 119, (0, 0, 143), 0, 0)] (by decide +kernel) rfl ?_
    refine xm_if_ne (pc := 17) (off := 6) (tgt := 23) (by decide +kernel) (by decide) ?_ ?_
    · refine xm_blk0 (pc' := 28) (lv' := [(0, .ref 0), (1, .int a1)]) (st' := [.int a1, .ref 19]) (u' := (xU u)) [(.aload_n 0, (0, 0, 0), 0, 0), (.getfield 34, (3, 4, 210), 0, 0), (.iload_n 1, (0, 0, 0), 0, 0)] (by decide +kernel) rfl ?_
      refine xm_Vi (pc := 28) (mz := md_X2_isOn_19) (idx := 173) (p1 := 419) (a := 19) (as := [.int a1]) (st := []) (ev_X2_isOn_19 a1 u) mw_X2_isOn (by decide +kernel) (by decide +kernel) (by decide) rfl rfl (by decide) rfl (Nat.le_of_ble_eq_true rfl) (fun r28 => ?_)
      refine xm_if_ne (pc := 31) (off := 5) (tgt := 36) (by decide +kernel) (by decide) ?_ ?_
      · refine xm_blk0 (pc' := 44) (lv' := [(0, .ref 0), (1, .int a1)]) (st' := [.ref 20, .ref 0]) (u' := (xU u)) [(.aload_n 0, (0, 0, 0), 0, 0), (.aload_n 0, (0, 0, 0), 0, 0), (.getfield 34, (3, 4, 210), 0, 0), (.getfield 170, (2, 3, 185), 0, 0)] (by decide +kernel) rfl ?_
        refine xm_Vv (pc := 44) (mz := md_X3_judgeWays_20) (idx := 227) (p1 := 583) (a := 0) (as := [.ref 20]) (st := []) (ev_X3_judgeWays_20 N u) mw_X3_judgeWays (by decide +kernel) (by decide +kernel) (by decide) rfl rfl (by decide) rfl (Nat.le_of_ble_eq_true rfl) (fun r44 => ?_)
        refine xm_blk0 (pc' := 61) (lv' := [(0, .ref 0), (1, .int a1)]) (st' := [.int ((r44.1 19 1) &&& (((1 : Int32) <<< (a1 &&& 31)) ^^^ (-1 : Int32))), .ref 0]) (u' := (xU r44)) [(.aload_n 0, (0, 0, 0), 0, 0), (.aload_n 0, (0, 0, 0), 0, 0), (.getfield 34, (3, 4, 210), 0, 0), (.getfield 183, (2, 1, 181), 0, 0), (.iconst 1, (0, 0, 0), 1, 0), (.iload_n 1, (0, 0, 0), 0, 0), (.ishl, (0, 0, 0), 0, 0), (.iconst (-1), (0, 0, 0), -1, 0), (.ixor, (0, 0, 0), 0, 0), (.iand, (0, 0, 0), 0, 0)] (by decide +kernel) rfl ?_
        refine xm_Vi (pc := 61) (mz := md_X3_cheapestBy) (idx := 235) (p1 := 591) (a := 0) (as := [.int ((r44.1 19 1) &&& (((1 : Int32) <<< (a1 &&& 31)) ^^^ (-1 : Int32)))]) (st := []) (ev_X3_cheapestBy N ((r44.1 19 1) &&& (((1 : Int32) <<< (a1 &&& 31)) ^^^ (-1 : Int32))) r44) mw_X3_cheapestBy (by decide +kernel) (by decide +kernel) (by decide) rfl rfl (by decide) rfl (Nat.le_of_ble_eq_true rfl) (fun r61 => ?_)
        refine xm_blk0 (pc' := 68) (lv' := [(0, .ref 0), (1, .int a1), (2, .int r61)]) (st' := [.int (-9 : Int32), .int r61]) (u' := (xU r44)) [(.istore_n 2, (0, 0, 0), 0, 0), (.iload_n 2, (0, 0, 0), 0, 0), (.bipush (-9), (0, 0, 0), -9, 0)] (by decide +kernel) rfl ?_
        refine xm_icmp_ne (pc := 68) (off := 6) (tgt := 74) (by decide +kernel) (by decide) ?_ ?_
        · refine xm_blk0 (pc' := 82) (lv' := [(0, .ref 0), (1, .int a1), (2, .int r61)]) (st' := [.int (r44.1 19 1), .ref 0]) (u' := (xU r44)) [(.aload_n 0, (0, 0, 0), 0, 0), (.aload_n 0, (0, 0, 0), 0, 0), (.getfield 34, (3, 4, 210), 0, 0), (.getfield 183, (2, 1, 181), 0, 0)] (by decide +kernel) rfl ?_
          refine xm_Vi (pc := 82) (mz := md_X3_cheapestBy) (idx := 235) (p1 := 591) (a := 0) (as := [.int (r44.1 19 1)]) (st := []) (ev_X3_cheapestBy N (r44.1 19 1) r44) mw_X3_cheapestBy (by decide +kernel) (by decide +kernel) (by decide) rfl rfl (by decide) rfl (Nat.le_of_ble_eq_true rfl) (fun r82 => ?_)
          refine xm_blk0 (pc' := 89) (lv' := [(0, .ref 0), (1, .int a1), (2, .int r61), (3, .int r82)]) (st' := [.int (-9 : Int32), .int r82]) (u' := (xU r44)) [(.istore_n 3, (0, 0, 0), 0, 0), (.iload_n 3, (0, 0, 0), 0, 0), (.bipush (-9), (0, 0, 0), -9, 0)] (by decide +kernel) rfl ?_
          refine xm_icmp_ne (pc := 89) (off := 7) (tgt := 96) (by decide +kernel) (by decide) ?_ ?_
          · refine xm_blk0 (pc' := 102) (lv' := [(0, .ref 0), (1, .int a1), (2, .int r61), (3, .int r82)]) (st' := [.int (4 : Int32), .int r82, .ref 7]) (u' := (xU r44)) [(.aload_n 0, (0, 0, 0), 0, 0), (.getfield 24, (3, 2, 208), 0, 0), (.iload_n 3, (0, 0, 0), 0, 0), (.iconst 4, (0, 0, 0), 4, 0)] (by decide +kernel) rfl ?_
            refine xm_Vi (pc := 102) (mz := md_X0_sumOf_7) (idx := 217) (p1 := 566) (a := 7) (as := [.int r82, .int (4 : Int32)]) (st := []) (ev_X0_sumOf_7 r82 (4 : Int32) r44) mw_X0_sumOf (by decide +kernel) (by decide +kernel) (by decide) rfl rfl (by decide) rfl (Nat.le_of_ble_eq_true rfl) (fun r102 => ?_)
            refine xm_blk0 (pc' := 111) (lv' := [(0, .ref 0), (1, .int a1), (2, .int r61), (3, .int r82)]) (st' := [.int (4 : Int32), .int r61, .ref 7, .int r102]) (u' := (xU r44)) [(.aload_n 0, (0, 0, 0), 0, 0), (.getfield 24, (3, 2, 208), 0, 0), (.iload_n 2, (0, 0, 0), 0, 0), (.iconst 4, (0, 0, 0), 4, 0)] (by decide +kernel) rfl ?_
            refine xm_Vi (pc := 111) (mz := md_X0_sumOf_7) (idx := 217) (p1 := 566) (a := 7) (as := [.int r61, .int (4 : Int32)]) (st := [.int r102]) (ev_X0_sumOf_7 r61 (4 : Int32) r44) mw_X0_sumOf (by decide +kernel) (by decide +kernel) (by decide) rfl rfl (by decide) rfl (Nat.le_of_ble_eq_true rfl) (fun r111 => ?_)
            refine xm_blk0 (pc' := 115) (lv' := [(0, .ref 0), (1, .int a1), (2, .int r61), (3, .int r82)]) (st' := [.int (r102 - r111)]) (u' := (xU r44)) [(.isub, (0, 0, 0), 0, 0)] (by decide +kernel) rfl ?_
            exact xm_iret (pc := 115) (by decide +kernel) rfl rfl
          · refine xm_blk0 (pc' := 95) (lv' := [(0, .ref 0), (1, .int a1), (2, .int r61), (3, .int r82)]) (st' := [.int (1000 : Int32)]) (u' := (xU r44)) [(.sipush 1000, (0, 0, 0), 1000, 0)] (by decide +kernel) rfl ?_
            exact xm_iret (pc := 95) (by decide +kernel) rfl rfl
        · refine xm_blk0 (pc' := 73) (lv' := [(0, .ref 0), (1, .int a1), (2, .int r61)]) (st' := [.int (-9 : Int32)]) (u' := (xU r44)) [(.bipush (-9), (0, 0, 0), -9, 0)] (by decide +kernel) rfl ?_
          exact xm_iret (pc := 73) (by decide +kernel) rfl rfl
      · refine xm_blk0 (pc' := 35) (lv' := [(0, .ref 0), (1, .int a1)]) (st' := [.int (0 : Int32)]) (u' := (xU u)) [(.iconst 0, (0, 0, 0), 0, 0)] (by decide +kernel) rfl ?_
        exact xm_iret (pc := 35) (by decide +kernel) rfl rfl
    · refine xm_blk0 (pc' := 22) (lv' := [(0, .ref 0), (1, .int a1)]) (st' := [.int (-4 : Int32)]) (u' := (xU u)) [(.bipush (-4), (0, 0, 0), -4, 0)] (by decide +kernel) rfl ?_
      exact xm_iret (pc := 22) (by decide +kernel) rfl rfl
  · refine xm_blk0 (pc' := 9) (lv' := [(0, .ref 0), (1, .int a1)]) (st' := [.int (-1 : Int32)]) (u' := (xU u)) [(.iconst (-1), (0, 0, 0), -1, 0)] (by decide +kernel) rfl ?_
    exact xm_iret (pc := 9) (by decide +kernel) rfl rfl
theorem ev_X3_worth (N : Nat) (a1 : Int32) (u : xN) : ∀ r, f_X3_worth N a1 u = some r → xEm md_X3_worth yX3_worth [.ref 0, .int a1] (xU u) (some (.int r.1), xU r.2) := xm_met (res := rsM) (as := [.ref 0, .int a1]) (go_X3_worth N a1 u) (by decide) rfl (Nat.le_of_ble_eq_true rfl)
theorem mw_X3_copyBordersToTrial : xMv yX3_copyBordersToTrial cX3_copyBordersToTrial 1 none 0 := xMv_of (p1 := 716) (p2 := 715) (p3 := 92) (p4 := 32) (by decide +kernel)
/-! NeitherBare.copyBordersToTrial()V (0,) -/
abbrev md_X3_copyBordersToTrial : xMd := (cX3_copyBordersToTrial, RX3, 1, none, 1)
def f_X3_copyBordersToTrial (u : xN) : Option xN := gdl [cpok (0 : Int32) (0 : Int32) (8 : Int32) 8 8] (some (mCp u 20 37 (0 : Int32) (0 : Int32) (8 : Int32)))
set_option maxRecDepth 20000 in
theorem go_X3_copyBordersToTrial (u : xN) : xGm md_X3_copyBordersToTrial rsV (f_X3_copyBordersToTrial u) 0 [(0, .ref 0)] [] (xU u) := by
  unfold f_X3_copyBordersToTrial
  refine xm_blk0 (pc' := 15) (lv' := [(0, .ref 0)]) (st' := [.int (8 : Int32), .int (0 : Int32), .ref 37, .int (0 : Int32), .ref 20]) (u' := (xU u)) [(.aload_n 0, (0, 0, 0), 0, 0), (.getfield 34, (3, 4, 210), 0, 0), (.getfield 170, (2, 3, 185), 0, 0), (.iconst 0, (0, 0, 0), 0, 0), (.aload_n 0, (0, 0, 0), 0, 0), (.getfield 46, (3, 7, 213), 0, 0), (.iconst 0, (0, 0, 0), 0, 0), (.bipush 8, (0, 0, 0), 8, 0)] (by decide +kernel) rfl ?_
  refine xm_acopy (pc := 15) (idx := 346) (p1 := 717) 8 8 (by decide +kernel) (by decide +kernel) rfl rfl (by decide) (by decide) (by decide) (Nat.le_of_ble_eq_true rfl) ?_
  show xGm md_X3_copyBordersToTrial rsV _ 18 [(0, .ref 0)] [] (xU (mCp u 20 37 (0 : Int32) (0 : Int32) (8 : Int32)))
  exact xm_vret (pc := 18) (by decide +kernel) rfl rfl
theorem ev_X3_copyBordersToTrial (u : xN) : ∀ r, f_X3_copyBordersToTrial u = some r → xEm md_X3_copyBordersToTrial yX3_copyBordersToTrial [.ref 0] (xU u) (none, xU r) := xm_met (res := rsV) (as := [.ref 0]) (go_X3_copyBordersToTrial u) (by decide) rfl (Nat.le_of_ble_eq_true rfl)
/-! NeitherBare$Court.isSecondLittle(II[I)Z (7, None, None, 37) -/
abbrev md_X0_isSecondLittle_7_37 : xMd := (cX0_isSecondLittle, RX0, 5, some .boolean, 3)
def f_X0_isSecondLittle_7_37_L28 (u : xN) (t0 : Int32) : Option Int32 := gdl [isb t0] (some t0)
set_option maxRecDepth 20000 in
theorem go_X0_isSecondLittle_7_37_L28 (u : xN) (t0 : Int32) : xGm md_X0_isSecondLittle_7_37 (rsI (xU u)) (f_X0_isSecondLittle_7_37_L28 u t0) 28 [] [.int t0] (xU u) := by
  unfold f_X0_isSecondLittle_7_37_L28
  exact xm_zret (pc := 28) (by decide +kernel) rfl rfl
def f_X0_isSecondLittle_7_37 (a1 : Int32) (a2 : Int32) (u : xN) : Option Int32 := Option.bind (f_X0_secondOf_7 a1 u) (fun r2 => Option.bind (f_X0_valueOf_7 a2 r2 u) (fun r11 => gdl [inb ((2 : Int32) * r2) 8] (if (u.1 37 (Int32.toNatClampNeg ((2 : Int32) * r2))) < r11 then f_X0_isSecondLittle_7_37_L28 u (0 : Int32) else f_X0_isSecondLittle_7_37_L28 u (1 : Int32))))
set_option maxRecDepth 20000 in
theorem go_X0_isSecondLittle_7_37 (a1 : Int32) (a2 : Int32) (u : xN) : xGm md_X0_isSecondLittle_7_37 (rsI (xU u)) (f_X0_isSecondLittle_7_37 a1 a2 u) 0 [(0, .ref 7), (1, .int a1), (2, .int a2), (3, .ref 37)] [] (xU u) := by
  unfold f_X0_isSecondLittle_7_37
  refine xm_blk0 (pc' := 2) (lv' := [(0, .ref 7), (1, .int a1), (2, .int a2), (3, .ref 37)]) (st' := [.int a1, .ref 7]) (u' := (xU u)) [(.aload_n 0, (0, 0, 0), 0, 0), (.iload_n 1, (0, 0, 0), 0, 0)] (by decide +kernel) rfl ?_
  refine xm_Vi (pc := 2) (mz := md_X0_secondOf_7) (idx := 108) (p1 := 446) (a := 7) (as := [.int a1]) (st := []) (ev_X0_secondOf_7 a1 u) mw_X0_secondOf (by decide +kernel) (by decide +kernel) (by decide) rfl rfl (by decide) rfl (Nat.le_of_ble_eq_true rfl) (fun r2 => ?_)
  refine xm_blk0 (pc' := 11) (lv' := [(0, .ref 7), (1, .int a1), (2, .int a2), (3, .ref 37), (4, .int r2)]) (st' := [.int r2, .int a2, .ref 7]) (u' := (xU u)) [(.istore 4, (0, 0, 0), 0, 0), (.aload_n 0, (0, 0, 0), 0, 0), (.iload_n 2, (0, 0, 0), 0, 0), (.iload 4, (0, 0, 0), 0, 0)] (by decide +kernel) rfl ?_
  refine xm_Vi (pc := 11) (mz := md_X0_valueOf_7) (idx := 98) (p1 := 435) (a := 7) (as := [.int a2, .int r2]) (st := []) (ev_X0_valueOf_7 a2 r2 u) mw_X0_valueOf (by decide +kernel) (by decide +kernel) (by decide) rfl rfl (by decide) rfl (Nat.le_of_ble_eq_true rfl) (fun r11 => ?_)
  refine xm_blk (bs := [inb ((2 : Int32) * r2) 8]) (pc' := 20) (lv' := [(0, .ref 7), (1, .int a1), (2, .int a2), (3, .ref 37), (4, .int r2)]) (st' := [.int (u.1 37 (Int32.toNatClampNeg ((2 : Int32) * r2))), .int r11]) (u' := (xU u)) [(.aload_n 3, (0, 0, 0), 0, 0), (.iconst 2, (0, 0, 0), 2, 0), (.iload 4, (0, 0, 0), 0, 0), (.imul, (0, 0, 0), 0, 0), (.iaload, (0, 0, 0), 0, 0)] (by decide +kernel) rfl ?_
  refine xm_icmp_gt (pc := 20) (off := 7) (tgt := 27) (by decide +kernel) (by decide) ?_ ?_
  · refine xm_blk0 (pc' := 28) (lv' := [(0, .ref 7), (1, .int a1), (2, .int a2), (3, .ref 37), (4, .int r2)]) (st' := [.int (0 : Int32)]) (u' := (xU u)) [(.iconst 0, (0, 0, 0), 0, 0)] (by decide +kernel) rfl ?_
    refine xm_wk [] (lv' := []) rfl ?_
    exact go_X0_isSecondLittle_7_37_L28 u (0 : Int32)
  · refine xm_blk0 (pc' := 24) (lv' := [(0, .ref 7), (1, .int a1), (2, .int a2), (3, .ref 37), (4, .int r2)]) (st' := [.int (1 : Int32)]) (u' := (xU u)) [(.iconst 1, (0, 0, 0), 1, 0)] (by decide +kernel) rfl ?_
    refine xm_goto (pc := 24) (off := 4) (tgt := 28) (by decide +kernel) (by decide) ?_
    refine xm_wk [] (lv' := []) rfl ?_
    exact go_X0_isSecondLittle_7_37_L28 u (1 : Int32)
theorem ev_X0_isSecondLittle_7_37 (a1 : Int32) (a2 : Int32) (u : xN) : ∀ r, f_X0_isSecondLittle_7_37 a1 a2 u = some r → xEm md_X0_isSecondLittle_7_37 yX0_isSecondLittle [.ref 7, .int a1, .int a2, .ref 37] (xU u) (some (.int r), (xU u)) := xm_met (res := (rsI (xU u))) (as := [.ref 7, .int a1, .int a2, .ref 37]) (go_X0_isSecondLittle_7_37 a1 a2 u) (by decide) rfl (Nat.le_of_ble_eq_true rfl)
/-! NeitherBare$Court.isSecondMuch(II[I)Z (7, None, None, 37) -/
abbrev md_X0_isSecondMuch_7_37 : xMd := (cX0_isSecondMuch, RX0, 5, some .boolean, 3)
def f_X0_isSecondMuch_7_37_L30 (u : xN) (t0 : Int32) : Option Int32 := gdl [isb t0] (some t0)
set_option maxRecDepth 20000 in
theorem go_X0_isSecondMuch_7_37_L30 (u : xN) (t0 : Int32) : xGm md_X0_isSecondMuch_7_37 (rsI (xU u)) (f_X0_isSecondMuch_7_37_L30 u t0) 30 [] [.int t0] (xU u) := by
  unfold f_X0_isSecondMuch_7_37_L30
  exact xm_zret (pc := 30) (by decide +kernel) rfl rfl
def f_X0_isSecondMuch_7_37 (a1 : Int32) (a2 : Int32) (u : xN) : Option Int32 := Option.bind (f_X0_secondOf_7 a1 u) (fun r2 => Option.bind (f_X0_valueOf_7 a2 r2 u) (fun r11 => gdl [inb (((2 : Int32) * r2) + (1 : Int32)) 8] (if r11 < (u.1 37 (Int32.toNatClampNeg (((2 : Int32) * r2) + (1 : Int32)))) then f_X0_isSecondMuch_7_37_L30 u (0 : Int32) else f_X0_isSecondMuch_7_37_L30 u (1 : Int32))))
set_option maxRecDepth 20000 in
theorem go_X0_isSecondMuch_7_37 (a1 : Int32) (a2 : Int32) (u : xN) : xGm md_X0_isSecondMuch_7_37 (rsI (xU u)) (f_X0_isSecondMuch_7_37 a1 a2 u) 0 [(0, .ref 7), (1, .int a1), (2, .int a2), (3, .ref 37)] [] (xU u) := by
  unfold f_X0_isSecondMuch_7_37
  refine xm_blk0 (pc' := 2) (lv' := [(0, .ref 7), (1, .int a1), (2, .int a2), (3, .ref 37)]) (st' := [.int a1, .ref 7]) (u' := (xU u)) [(.aload_n 0, (0, 0, 0), 0, 0), (.iload_n 1, (0, 0, 0), 0, 0)] (by decide +kernel) rfl ?_
  refine xm_Vi (pc := 2) (mz := md_X0_secondOf_7) (idx := 108) (p1 := 446) (a := 7) (as := [.int a1]) (st := []) (ev_X0_secondOf_7 a1 u) mw_X0_secondOf (by decide +kernel) (by decide +kernel) (by decide) rfl rfl (by decide) rfl (Nat.le_of_ble_eq_true rfl) (fun r2 => ?_)
  refine xm_blk0 (pc' := 11) (lv' := [(0, .ref 7), (1, .int a1), (2, .int a2), (3, .ref 37), (4, .int r2)]) (st' := [.int r2, .int a2, .ref 7]) (u' := (xU u)) [(.istore 4, (0, 0, 0), 0, 0), (.aload_n 0, (0, 0, 0), 0, 0), (.iload_n 2, (0, 0, 0), 0, 0), (.iload 4, (0, 0, 0), 0, 0)] (by decide +kernel) rfl ?_
  refine xm_Vi (pc := 11) (mz := md_X0_valueOf_7) (idx := 98) (p1 := 435) (a := 7) (as := [.int a2, .int r2]) (st := []) (ev_X0_valueOf_7 a2 r2 u) mw_X0_valueOf (by decide +kernel) (by decide +kernel) (by decide) rfl rfl (by decide) rfl (Nat.le_of_ble_eq_true rfl) (fun r11 => ?_)
  refine xm_blk (bs := [inb (((2 : Int32) * r2) + (1 : Int32)) 8]) (pc' := 22) (lv' := [(0, .ref 7), (1, .int a1), (2, .int a2), (3, .ref 37), (4, .int r2)]) (st' := [.int (u.1 37 (Int32.toNatClampNeg (((2 : Int32) * r2) + (1 : Int32)))), .int r11]) (u' := (xU u)) [(.aload_n 3, (0, 0, 0), 0, 0), (.iconst 2, (0, 0, 0), 2, 0), (.iload 4, (0, 0, 0), 0, 0), (.imul, (0, 0, 0), 0, 0), (.iconst 1, (0, 0, 0), 1, 0), (.iadd, (0, 0, 0), 0, 0), (.iaload, (0, 0, 0), 0, 0)] (by decide +kernel) rfl ?_
  refine xm_icmp_lt (pc := 22) (off := 7) (tgt := 29) (by decide +kernel) (by decide) ?_ ?_
  · refine xm_blk0 (pc' := 30) (lv' := [(0, .ref 7), (1, .int a1), (2, .int a2), (3, .ref 37), (4, .int r2)]) (st' := [.int (0 : Int32)]) (u' := (xU u)) [(.iconst 0, (0, 0, 0), 0, 0)] (by decide +kernel) rfl ?_
    refine xm_wk [] (lv' := []) rfl ?_
    exact go_X0_isSecondMuch_7_37_L30 u (0 : Int32)
  · refine xm_blk0 (pc' := 26) (lv' := [(0, .ref 7), (1, .int a1), (2, .int a2), (3, .ref 37), (4, .int r2)]) (st' := [.int (1 : Int32)]) (u' := (xU u)) [(.iconst 1, (0, 0, 0), 1, 0)] (by decide +kernel) rfl ?_
    refine xm_goto (pc := 26) (off := 4) (tgt := 30) (by decide +kernel) (by decide) ?_
    refine xm_wk [] (lv' := []) rfl ?_
    exact go_X0_isSecondMuch_7_37_L30 u (1 : Int32)
theorem ev_X0_isSecondMuch_7_37 (a1 : Int32) (a2 : Int32) (u : xN) : ∀ r, f_X0_isSecondMuch_7_37 a1 a2 u = some r → xEm md_X0_isSecondMuch_7_37 yX0_isSecondMuch [.ref 7, .int a1, .int a2, .ref 37] (xU u) (some (.int r), (xU u)) := xm_met (res := (rsI (xU u))) (as := [.ref 7, .int a1, .int a2, .ref 37]) (go_X0_isSecondMuch_7_37 a1 a2 u) (by decide) rfl (Nat.le_of_ble_eq_true rfl)
/-! NeitherBare$Court.isHeldAs(III[I)Z (7, None, None, None, 37) -/
abbrev md_X0_isHeldAs_7_37 : xMd := (cX0_isHeldAs, RX0, 11, some .boolean, 4)
def f_X0_isHeldAs_7_37_L135 (u : xN) (t0 : Int32) : Option Int32 := gdl [isb t0] (some t0)
set_option maxRecDepth 20000 in
theorem go_X0_isHeldAs_7_37_L135 (u : xN) (t0 : Int32) : xGm md_X0_isHeldAs_7_37 (rsI (xU u)) (f_X0_isHeldAs_7_37_L135 u t0) 135 [] [.int t0] (xU u) := by
  unfold f_X0_isHeldAs_7_37_L135
  exact xm_zret (pc := 135) (by decide +kernel) rfl rfl
def f_X0_isHeldAs_7_37_L134 (u : xN) : Option Int32 := f_X0_isHeldAs_7_37_L135 u (0 : Int32)
set_option maxRecDepth 20000 in
theorem go_X0_isHeldAs_7_37_L134 (u : xN) : xGm md_X0_isHeldAs_7_37 (rsI (xU u)) (f_X0_isHeldAs_7_37_L134 u) 134 [] [] (xU u) := by
  unfold f_X0_isHeldAs_7_37_L134
  refine xm_blk0 (pc' := 135) (lv' := []) (st' := [.int (0 : Int32)]) (u' := (xU u)) [(.iconst 0, (0, 0, 0), 0, 0)] (by decide +kernel) rfl ?_
  exact go_X0_isHeldAs_7_37_L135 u (0 : Int32)
def f_X0_isHeldAs_7_37_L146 (u : xN) (t0 : Int32) : Option Int32 := gdl [isb t0] (some t0)
set_option maxRecDepth 20000 in
theorem go_X0_isHeldAs_7_37_L146 (u : xN) (t0 : Int32) : xGm md_X0_isHeldAs_7_37 (rsI (xU u)) (f_X0_isHeldAs_7_37_L146 u t0) 146 [] [.int t0] (xU u) := by
  unfold f_X0_isHeldAs_7_37_L146
  exact xm_zret (pc := 146) (by decide +kernel) rfl rfl
def f_X0_isHeldAs_7_37_L169 (u : xN) (t0 : Int32) : Option Int32 := gdl [isb t0] (some t0)
set_option maxRecDepth 20000 in
theorem go_X0_isHeldAs_7_37_L169 (u : xN) (t0 : Int32) : xGm md_X0_isHeldAs_7_37 (rsI (xU u)) (f_X0_isHeldAs_7_37_L169 u t0) 169 [] [.int t0] (xU u) := by
  unfold f_X0_isHeldAs_7_37_L169
  exact xm_zret (pc := 169) (by decide +kernel) rfl rfl
def f_X0_isHeldAs_7_37_L168 (u : xN) : Option Int32 := f_X0_isHeldAs_7_37_L169 u (0 : Int32)
set_option maxRecDepth 20000 in
theorem go_X0_isHeldAs_7_37_L168 (u : xN) : xGm md_X0_isHeldAs_7_37 (rsI (xU u)) (f_X0_isHeldAs_7_37_L168 u) 168 [] [] (xU u) := by
  unfold f_X0_isHeldAs_7_37_L168
  refine xm_blk0 (pc' := 169) (lv' := []) (st' := [.int (0 : Int32)]) (u' := (xU u)) [(.iconst 0, (0, 0, 0), 0, 0)] (by decide +kernel) rfl ?_
  exact go_X0_isHeldAs_7_37_L169 u (0 : Int32)
def f_X0_isHeldAs_7_37_L191 (u : xN) (t0 : Int32) : Option Int32 := gdl [isb t0] (some t0)
set_option maxRecDepth 20000 in
theorem go_X0_isHeldAs_7_37_L191 (u : xN) (t0 : Int32) : xGm md_X0_isHeldAs_7_37 (rsI (xU u)) (f_X0_isHeldAs_7_37_L191 u t0) 191 [] [.int t0] (xU u) := by
  unfold f_X0_isHeldAs_7_37_L191
  exact xm_zret (pc := 191) (by decide +kernel) rfl rfl
def f_X0_isHeldAs_7_37_L190 (u : xN) : Option Int32 := f_X0_isHeldAs_7_37_L191 u (0 : Int32)
set_option maxRecDepth 20000 in
theorem go_X0_isHeldAs_7_37_L190 (u : xN) : xGm md_X0_isHeldAs_7_37 (rsI (xU u)) (f_X0_isHeldAs_7_37_L190 u) 190 [] [] (xU u) := by
  unfold f_X0_isHeldAs_7_37_L190
  refine xm_blk0 (pc' := 191) (lv' := []) (st' := [.int (0 : Int32)]) (u' := (xU u)) [(.iconst 0, (0, 0, 0), 0, 0)] (by decide +kernel) rfl ?_
  exact go_X0_isHeldAs_7_37_L191 u (0 : Int32)
def f_X0_isHeldAs_7_37_L70 (u : xN) (v1 : Int32) (v2 : Int32) (v3 : Int32) (v6 : Int32) (v7 : Int32) (v8 : Int32) (v9 : Int32) (t0 : Int32) : Option Int32 := if Int32.toInt v1 < 0 ∨ 4 < Int32.toInt v1 then (if v9 = (0 : Int32) then f_X0_isHeldAs_7_37_L190 u else Option.bind (f_X0_isSecondLittle_7_37 v2 v3 u) (fun r180 => if r180 = (0 : Int32) then f_X0_isHeldAs_7_37_L190 u else f_X0_isHeldAs_7_37_L191 u (1 : Int32))) else if v1 = (0 : Int32) then (gdl [isb v9] (some v9)) else if v1 = (1 : Int32) then (gdl [isb t0] (some t0)) else if v1 = (2 : Int32) then (if v9 = (0 : Int32) then f_X0_isHeldAs_7_37_L134 u else Option.bind (f_X0_isSecondMuch_7_37 v2 v3 u) (fun r124 => if r124 = (0 : Int32) then f_X0_isHeldAs_7_37_L134 u else f_X0_isHeldAs_7_37_L135 u (1 : Int32))) else if v1 = (3 : Int32) then (if v9 = (0 : Int32) then f_X0_isHeldAs_7_37_L146 u (1 : Int32) else f_X0_isHeldAs_7_37_L146 u (0 : Int32)) else if v1 = (4 : Int32) then (if t0 = (0 : Int32) then f_X0_isHeldAs_7_37_L168 u else gdl [nzi (2 : Int32)] (if v6 = ((v7 + v8) / (2 : Int32)) then f_X0_isHeldAs_7_37_L169 u (1 : Int32) else f_X0_isHeldAs_7_37_L168 u)) else none
set_option maxRecDepth 20000 in
theorem go_X0_isHeldAs_7_37_L70 (u : xN) (v1 : Int32) (v2 : Int32) (v3 : Int32) (v6 : Int32) (v7 : Int32) (v8 : Int32) (v9 : Int32) (t0 : Int32) : xGm md_X0_isHeldAs_7_37 (rsI (xU u)) (f_X0_isHeldAs_7_37_L70 u v1 v2 v3 v6 v7 v8 v9 t0) 70 [(0, .ref 7), (1, .int v1), (2, .int v2), (3, .int v3), (4, .ref 37), (6, .int v6), (7, .int v7), (8, .int v8), (9, .int v9)] [.int t0] (xU u) := by
  unfold f_X0_isHeldAs_7_37_L70
  refine xm_blk0 (pc' := 73) (lv' := [(0, .ref 7), (1, .int v1), (2, .int v2), (3, .int v3), (4, .ref 37), (6, .int v6), (7, .int v7), (8, .int v8), (9, .int v9), (10, .int t0)]) (st' := [.int v1]) (u' := (xU u)) [(.istore 10, (0, 0, 0), 0, 0), (.iload_n 1, (0, 0, 0), 0, 0)] (by decide +kernel) rfl ?_
  refine xm_tout (pc := 73) (tgt := 170) (dflt := 97) (lo := 0) (hi := 4) (offs := #[35, 38, 41, 63, 74]) (len := 35) (by decide +kernel) (by decide) ?_ ?_
  · refine xm_blk0 (pc' := 172) (lv' := [(0, .ref 7), (1, .int v1), (2, .int v2), (3, .int v3), (4, .ref 37), (6, .int v6), (7, .int v7), (8, .int v8), (9, .int v9), (10, .int t0)]) (st' := [.int v9]) (u' := (xU u)) [(.iload 9, (0, 0, 0), 0, 0)] (by decide +kernel) rfl ?_
    refine xm_if_eq (pc := 172) (off := 18) (tgt := 190) (by decide +kernel) (by decide) ?_ ?_
    · refine xm_wk [] (lv' := []) rfl ?_
      exact go_X0_isHeldAs_7_37_L190 u
    · refine xm_blk0 (pc' := 180) (lv' := [(0, .ref 7), (1, .int v1), (2, .int v2), (3, .int v3), (4, .ref 37), (6, .int v6), (7, .int v7), (8, .int v8), (9, .int v9), (10, .int t0)]) (st' := [.ref 37, .int v3, .int v2, .ref 7]) (u' := (xU u)) [(.aload_n 0, (0, 0, 0), 0, 0), (.iload_n 2, (0, 0, 0), 0, 0), (.iload_n 3, (0, 0, 0), 0, 0), (.aload 4, (0, 0, 0), 0, 0)] (by decide +kernel) rfl ?_
      refine xm_Vi (pc := 180) (mz := md_X0_isSecondLittle_7_37) (idx := 105) (p1 := 450) (a := 7) (as := [.int v2, .int v3, .ref 37]) (st := []) (ev_X0_isSecondLittle_7_37 v2 v3 u) mw_X0_isSecondLittle (by decide +kernel) (by decide +kernel) (by decide) rfl rfl (by decide) rfl (Nat.le_of_ble_eq_true rfl) (fun r180 => ?_)
      refine xm_if_eq (pc := 183) (off := 7) (tgt := 190) (by decide +kernel) (by decide) ?_ ?_
      · refine xm_wk [] (lv' := []) rfl ?_
        exact go_X0_isHeldAs_7_37_L190 u
      · refine xm_blk0 (pc' := 187) (lv' := [(0, .ref 7), (1, .int v1), (2, .int v2), (3, .int v3), (4, .ref 37), (6, .int v6), (7, .int v7), (8, .int v8), (9, .int v9), (10, .int t0)]) (st' := [.int (1 : Int32)]) (u' := (xU u)) [(.iconst 1, (0, 0, 0), 1, 0)] (by decide +kernel) rfl ?_
        refine xm_goto (pc := 187) (off := 4) (tgt := 191) (by decide +kernel) (by decide) ?_
        refine xm_wk [] (lv' := []) rfl ?_
        exact go_X0_isHeldAs_7_37_L191 u (1 : Int32)
  · refine xm_tin (pc := 73) (tgt := 108) (off := 35) (dflt := 97) (lo := 0) (hi := 4) (offs := #[35, 38, 41, 63, 74]) (len := 35) (0 : Int32) (by decide +kernel) (by decide) (by decide) (by decide) (by decide) ?_ ?_
    · refine xm_blk0 (pc' := 110) (lv' := [(0, .ref 7), (1, .int v1), (2, .int v2), (3, .int v3), (4, .ref 37), (6, .int v6), (7, .int v7), (8, .int v8), (9, .int v9), (10, .int t0)]) (st' := [.int v9]) (u' := (xU u)) [(.iload 9, (0, 0, 0), 0, 0)] (by decide +kernel) rfl ?_
      exact xm_zret (pc := 110) (by decide +kernel) rfl rfl
    refine xm_tin (pc := 73) (tgt := 111) (off := 38) (dflt := 97) (lo := 0) (hi := 4) (offs := #[35, 38, 41, 63, 74]) (len := 35) (1 : Int32) (by decide +kernel) (by decide) (by decide) (by decide) (by decide) ?_ ?_
    · refine xm_blk0 (pc' := 113) (lv' := [(0, .ref 7), (1, .int v1), (2, .int v2), (3, .int v3), (4, .ref 37), (6, .int v6), (7, .int v7), (8, .int v8), (9, .int v9), (10, .int t0)]) (st' := [.int t0]) (u' := (xU u)) [(.iload 10, (0, 0, 0), 0, 0)] (by decide +kernel) rfl ?_
      exact xm_zret (pc := 113) (by decide +kernel) rfl rfl
    refine xm_tin (pc := 73) (tgt := 114) (off := 41) (dflt := 97) (lo := 0) (hi := 4) (offs := #[35, 38, 41, 63, 74]) (len := 35) (2 : Int32) (by decide +kernel) (by decide) (by decide) (by decide) (by decide) ?_ ?_
    · refine xm_blk0 (pc' := 116) (lv' := [(0, .ref 7), (1, .int v1), (2, .int v2), (3, .int v3), (4, .ref 37), (6, .int v6), (7, .int v7), (8, .int v8), (9, .int v9), (10, .int t0)]) (st' := [.int v9]) (u' := (xU u)) [(.iload 9, (0, 0, 0), 0, 0)] (by decide +kernel) rfl ?_
      refine xm_if_eq (pc := 116) (off := 18) (tgt := 134) (by decide +kernel) (by decide) ?_ ?_
      · refine xm_wk [] (lv' := []) rfl ?_
        exact go_X0_isHeldAs_7_37_L134 u
      · refine xm_blk0 (pc' := 124) (lv' := [(0, .ref 7), (1, .int v1), (2, .int v2), (3, .int v3), (4, .ref 37), (6, .int v6), (7, .int v7), (8, .int v8), (9, .int v9), (10, .int t0)]) (st' := [.ref 37, .int v3, .int v2, .ref 7]) (u' := (xU u)) [(.aload_n 0, (0, 0, 0), 0, 0), (.iload_n 2, (0, 0, 0), 0, 0), (.iload_n 3, (0, 0, 0), 0, 0), (.aload 4, (0, 0, 0), 0, 0)] (by decide +kernel) rfl ?_
        refine xm_Vi (pc := 124) (mz := md_X0_isSecondMuch_7_37) (idx := 101) (p1 := 442) (a := 7) (as := [.int v2, .int v3, .ref 37]) (st := []) (ev_X0_isSecondMuch_7_37 v2 v3 u) mw_X0_isSecondMuch (by decide +kernel) (by decide +kernel) (by decide) rfl rfl (by decide) rfl (Nat.le_of_ble_eq_true rfl) (fun r124 => ?_)
        refine xm_if_eq (pc := 127) (off := 7) (tgt := 134) (by decide +kernel) (by decide) ?_ ?_
        · refine xm_wk [] (lv' := []) rfl ?_
          exact go_X0_isHeldAs_7_37_L134 u
        · refine xm_blk0 (pc' := 131) (lv' := [(0, .ref 7), (1, .int v1), (2, .int v2), (3, .int v3), (4, .ref 37), (6, .int v6), (7, .int v7), (8, .int v8), (9, .int v9), (10, .int t0)]) (st' := [.int (1 : Int32)]) (u' := (xU u)) [(.iconst 1, (0, 0, 0), 1, 0)] (by decide +kernel) rfl ?_
          refine xm_goto (pc := 131) (off := 4) (tgt := 135) (by decide +kernel) (by decide) ?_
          refine xm_wk [] (lv' := []) rfl ?_
          exact go_X0_isHeldAs_7_37_L135 u (1 : Int32)
    refine xm_tin (pc := 73) (tgt := 136) (off := 63) (dflt := 97) (lo := 0) (hi := 4) (offs := #[35, 38, 41, 63, 74]) (len := 35) (3 : Int32) (by decide +kernel) (by decide) (by decide) (by decide) (by decide) ?_ ?_
    · refine xm_blk0 (pc' := 138) (lv' := [(0, .ref 7), (1, .int v1), (2, .int v2), (3, .int v3), (4, .ref 37), (6, .int v6), (7, .int v7), (8, .int v8), (9, .int v9), (10, .int t0)]) (st' := [.int v9]) (u' := (xU u)) [(.iload 9, (0, 0, 0), 0, 0)] (by decide +kernel) rfl ?_
      refine xm_if_ne (pc := 138) (off := 7) (tgt := 145) (by decide +kernel) (by decide) ?_ ?_
      · refine xm_blk0 (pc' := 146) (lv' := [(0, .ref 7), (1, .int v1), (2, .int v2), (3, .int v3), (4, .ref 37), (6, .int v6), (7, .int v7), (8, .int v8), (9, .int v9), (10, .int t0)]) (st' := [.int (0 : Int32)]) (u' := (xU u)) [(.iconst 0, (0, 0, 0), 0, 0)] (by decide +kernel) rfl ?_
        refine xm_wk [] (lv' := []) rfl ?_
        exact go_X0_isHeldAs_7_37_L146 u (0 : Int32)
      · refine xm_blk0 (pc' := 142) (lv' := [(0, .ref 7), (1, .int v1), (2, .int v2), (3, .int v3), (4, .ref 37), (6, .int v6), (7, .int v7), (8, .int v8), (9, .int v9), (10, .int t0)]) (st' := [.int (1 : Int32)]) (u' := (xU u)) [(.iconst 1, (0, 0, 0), 1, 0)] (by decide +kernel) rfl ?_
        refine xm_goto (pc := 142) (off := 4) (tgt := 146) (by decide +kernel) (by decide) ?_
        refine xm_wk [] (lv' := []) rfl ?_
        exact go_X0_isHeldAs_7_37_L146 u (1 : Int32)
    refine xm_tin (pc := 73) (tgt := 147) (off := 74) (dflt := 97) (lo := 0) (hi := 4) (offs := #[35, 38, 41, 63, 74]) (len := 35) (4 : Int32) (by decide +kernel) (by decide) (by decide) (by decide) (by decide) ?_ ?_
    · refine xm_blk0 (pc' := 149) (lv' := [(0, .ref 7), (1, .int v1), (2, .int v2), (3, .int v3), (4, .ref 37), (6, .int v6), (7, .int v7), (8, .int v8), (9, .int v9), (10, .int t0)]) (st' := [.int t0]) (u' := (xU u)) [(.iload 10, (0, 0, 0), 0, 0)] (by decide +kernel) rfl ?_
      refine xm_if_eq (pc := 149) (off := 19) (tgt := 168) (by decide +kernel) (by decide) ?_ ?_
      · refine xm_wk [] (lv' := []) rfl ?_
        exact go_X0_isHeldAs_7_37_L168 u
      · refine xm_blk (bs := [nzi (2 : Int32)]) (pc' := 161) (lv' := [(0, .ref 7), (1, .int v1), (2, .int v2), (3, .int v3), (4, .ref 37), (6, .int v6), (7, .int v7), (8, .int v8), (9, .int v9), (10, .int t0)]) (st' := [.int ((v7 + v8) / (2 : Int32)), .int v6]) (u' := (xU u)) [(.iload 6, (0, 0, 0), 0, 0), (.iload 7, (0, 0, 0), 0, 0), (.iload 8, (0, 0, 0), 0, 0), (.iadd, (0, 0, 0), 0, 0), (.iconst 2, (0, 0, 0), 2, 0), (.idiv, (0, 0, 0), 0, 0)] (by decide +kernel) rfl ?_
        refine xm_icmp_ne (pc := 161) (off := 7) (tgt := 168) (by decide +kernel) (by decide) ?_ ?_
        · refine xm_wk [] (lv' := []) rfl ?_
          exact go_X0_isHeldAs_7_37_L168 u
        · refine xm_blk0 (pc' := 165) (lv' := [(0, .ref 7), (1, .int v1), (2, .int v2), (3, .int v3), (4, .ref 37), (6, .int v6), (7, .int v7), (8, .int v8), (9, .int v9), (10, .int t0)]) (st' := [.int (1 : Int32)]) (u' := (xU u)) [(.iconst 1, (0, 0, 0), 1, 0)] (by decide +kernel) rfl ?_
          refine xm_goto (pc := 165) (off := 4) (tgt := 169) (by decide +kernel) (by decide) ?_
          refine xm_wk [] (lv' := []) rfl ?_
          exact go_X0_isHeldAs_7_37_L169 u (1 : Int32)
    exact xm_none
def f_X0_isHeldAs_7_37_L69 (u : xN) (v1 : Int32) (v2 : Int32) (v3 : Int32) (v6 : Int32) (v7 : Int32) (v8 : Int32) (v9 : Int32) : Option Int32 := f_X0_isHeldAs_7_37_L70 u v1 v2 v3 v6 v7 v8 v9 (0 : Int32)
set_option maxRecDepth 20000 in
theorem go_X0_isHeldAs_7_37_L69 (u : xN) (v1 : Int32) (v2 : Int32) (v3 : Int32) (v6 : Int32) (v7 : Int32) (v8 : Int32) (v9 : Int32) : xGm md_X0_isHeldAs_7_37 (rsI (xU u)) (f_X0_isHeldAs_7_37_L69 u v1 v2 v3 v6 v7 v8 v9) 69 [(0, .ref 7), (1, .int v1), (2, .int v2), (3, .int v3), (4, .ref 37), (6, .int v6), (7, .int v7), (8, .int v8), (9, .int v9)] [] (xU u) := by
  unfold f_X0_isHeldAs_7_37_L69
  refine xm_blk0 (pc' := 70) (lv' := [(0, .ref 7), (1, .int v1), (2, .int v2), (3, .int v3), (4, .ref 37), (6, .int v6), (7, .int v7), (8, .int v8), (9, .int v9)]) (st' := [.int (0 : Int32)]) (u' := (xU u)) [(.iconst 0, (0, 0, 0), 0, 0)] (by decide +kernel) rfl ?_
  exact go_X0_isHeldAs_7_37_L70 u v1 v2 v3 v6 v7 v8 v9 (0 : Int32)
def f_X0_isHeldAs_7_37_L49 (u : xN) (v1 : Int32) (v2 : Int32) (v3 : Int32) (v6 : Int32) (v7 : Int32) (v8 : Int32) (t0 : Int32) : Option Int32 := if v6 ≤ v7 then f_X0_isHeldAs_7_37_L69 u v1 v2 v3 v6 v7 v8 t0 else if v8 ≤ v6 then f_X0_isHeldAs_7_37_L69 u v1 v2 v3 v6 v7 v8 t0 else f_X0_isHeldAs_7_37_L70 u v1 v2 v3 v6 v7 v8 t0 (1 : Int32)
set_option maxRecDepth 20000 in
theorem go_X0_isHeldAs_7_37_L49 (u : xN) (v1 : Int32) (v2 : Int32) (v3 : Int32) (v6 : Int32) (v7 : Int32) (v8 : Int32) (t0 : Int32) : xGm md_X0_isHeldAs_7_37 (rsI (xU u)) (f_X0_isHeldAs_7_37_L49 u v1 v2 v3 v6 v7 v8 t0) 49 [(0, .ref 7), (1, .int v1), (2, .int v2), (3, .int v3), (4, .ref 37), (6, .int v6), (7, .int v7), (8, .int v8)] [.int t0] (xU u) := by
  unfold f_X0_isHeldAs_7_37_L49
  refine xm_blk0 (pc' := 55) (lv' := [(0, .ref 7), (1, .int v1), (2, .int v2), (3, .int v3), (4, .ref 37), (6, .int v6), (7, .int v7), (8, .int v8), (9, .int t0)]) (st' := [.int v7, .int v6]) (u' := (xU u)) [(.istore 9, (0, 0, 0), 0, 0), (.iload 6, (0, 0, 0), 0, 0), (.iload 7, (0, 0, 0), 0, 0)] (by decide +kernel) rfl ?_
  refine xm_icmp_le (pc := 55) (off := 14) (tgt := 69) (by decide +kernel) (by decide) ?_ ?_
  · exact go_X0_isHeldAs_7_37_L69 u v1 v2 v3 v6 v7 v8 t0
  · refine xm_blk0 (pc' := 62) (lv' := [(0, .ref 7), (1, .int v1), (2, .int v2), (3, .int v3), (4, .ref 37), (6, .int v6), (7, .int v7), (8, .int v8), (9, .int t0)]) (st' := [.int v8, .int v6]) (u' := (xU u)) [(.iload 6, (0, 0, 0), 0, 0), (.iload 8, (0, 0, 0), 0, 0)] (by decide +kernel) rfl ?_
    refine xm_icmp_ge (pc := 62) (off := 7) (tgt := 69) (by decide +kernel) (by decide) ?_ ?_
    · exact go_X0_isHeldAs_7_37_L69 u v1 v2 v3 v6 v7 v8 t0
    · refine xm_blk0 (pc' := 66) (lv' := [(0, .ref 7), (1, .int v1), (2, .int v2), (3, .int v3), (4, .ref 37), (6, .int v6), (7, .int v7), (8, .int v8), (9, .int t0)]) (st' := [.int (1 : Int32)]) (u' := (xU u)) [(.iconst 1, (0, 0, 0), 1, 0)] (by decide +kernel) rfl ?_
      refine xm_goto (pc := 66) (off := 4) (tgt := 70) (by decide +kernel) (by decide) ?_
      exact go_X0_isHeldAs_7_37_L70 u v1 v2 v3 v6 v7 v8 t0 (1 : Int32)
def f_X0_isHeldAs_7_37 (a1 : Int32) (a2 : Int32) (a3 : Int32) (u : xN) : Option Int32 := gdl [inb a2 8] (Option.bind (f_X0_valueOf_7 a3 (u.1 11 (Int32.toNatClampNeg a2)) u) (fun r12 => gdl [inb ((2 : Int32) * (u.1 11 (Int32.toNatClampNeg a2))) 8, inb (((2 : Int32) * (u.1 11 (Int32.toNatClampNeg a2))) + (1 : Int32)) 8] (if r12 < (u.1 37 (Int32.toNatClampNeg (((2 : Int32) * (u.1 11 (Int32.toNatClampNeg a2))) + (1 : Int32)))) then f_X0_isHeldAs_7_37_L49 u a1 a2 a3 r12 (u.1 37 (Int32.toNatClampNeg ((2 : Int32) * (u.1 11 (Int32.toNatClampNeg a2))))) (u.1 37 (Int32.toNatClampNeg (((2 : Int32) * (u.1 11 (Int32.toNatClampNeg a2))) + (1 : Int32)))) (0 : Int32) else f_X0_isHeldAs_7_37_L49 u a1 a2 a3 r12 (u.1 37 (Int32.toNatClampNeg ((2 : Int32) * (u.1 11 (Int32.toNatClampNeg a2))))) (u.1 37 (Int32.toNatClampNeg (((2 : Int32) * (u.1 11 (Int32.toNatClampNeg a2))) + (1 : Int32)))) (1 : Int32))))
set_option maxRecDepth 20000 in
theorem go_X0_isHeldAs_7_37 (a1 : Int32) (a2 : Int32) (a3 : Int32) (u : xN) : xGm md_X0_isHeldAs_7_37 (rsI (xU u)) (f_X0_isHeldAs_7_37 a1 a2 a3 u) 0 [(0, .ref 7), (1, .int a1), (2, .int a2), (3, .int a3), (4, .ref 37)] [] (xU u) := by
  unfold f_X0_isHeldAs_7_37
  refine xm_blk (bs := [inb a2 8]) (pc' := 12) (lv' := [(0, .ref 7), (1, .int a1), (2, .int a2), (3, .int a3), (4, .ref 37), (5, .int (u.1 11 (Int32.toNatClampNeg a2)))]) (st' := [.int (u.1 11 (Int32.toNatClampNeg a2)), .int a3, .ref 7]) (u' := (xU u)) [(.aload_n 0, (0, 0, 0), 0, 0), (.getfield 21, (0, 6, 152), 0, 0), (.iload_n 2, (0, 0, 0), 0, 0), (.iaload, (0, 0, 0), 0, 0), (.istore 5, (0, 0, 0), 0, 0), (.aload_n 0, (0, 0, 0), 0, 0), (.iload_n 3, (0, 0, 0), 0, 0), (.iload 5, (0, 0, 0), 0, 0)] (by decide +kernel) rfl ?_
  refine xm_Vi (pc := 12) (mz := md_X0_valueOf_7) (idx := 98) (p1 := 435) (a := 7) (as := [.int a3, .int (u.1 11 (Int32.toNatClampNeg a2))]) (st := []) (ev_X0_valueOf_7 a3 (u.1 11 (Int32.toNatClampNeg a2)) u) mw_X0_valueOf (by decide +kernel) (by decide +kernel) (by decide) rfl rfl (by decide) rfl (Nat.le_of_ble_eq_true rfl) (fun r12 => ?_)
  refine xm_blk (bs := [inb ((2 : Int32) * (u.1 11 (Int32.toNatClampNeg a2))) 8, inb (((2 : Int32) * (u.1 11 (Int32.toNatClampNeg a2))) + (1 : Int32)) 8]) (pc' := 41) (lv' := [(0, .ref 7), (1, .int a1), (2, .int a2), (3, .int a3), (4, .ref 37), (5, .int (u.1 11 (Int32.toNatClampNeg a2))), (6, .int r12), (7, .int (u.1 37 (Int32.toNatClampNeg ((2 : Int32) * (u.1 11 (Int32.toNatClampNeg a2)))))), (8, .int (u.1 37 (Int32.toNatClampNeg (((2 : Int32) * (u.1 11 (Int32.toNatClampNeg a2))) + (1 : Int32)))))]) (st' := [.int (u.1 37 (Int32.toNatClampNeg (((2 : Int32) * (u.1 11 (Int32.toNatClampNeg a2))) + (1 : Int32)))), .int r12]) (u' := (xU u)) [(.istore 6, (0, 0, 0), 0, 0), (.aload 4, (0, 0, 0), 0, 0), (.iconst 2, (0, 0, 0), 2, 0), (.iload 5, (0, 0, 0), 0, 0), (.imul, (0, 0, 0), 0, 0), (.iaload, (0, 0, 0), 0, 0), (.istore 7, (0, 0, 0), 0, 0), (.aload 4, (0, 0, 0), 0, 0), (.iconst 2, (0, 0, 0), 2, 0), (.iload 5, (0, 0, 0), 0, 0), (.imul, (0, 0, 0), 0, 0), (.iconst 1, (0, 0, 0), 1, 0), (.iadd, (0, 0, 0), 0, 0), (.iaload, (0, 0, 0), 0, 0), (.istore 8, (0, 0, 0), 0, 0), (.iload 6, (0, 0, 0), 0, 0), (.iload 8, (0, 0, 0), 0, 0)] (by decide +kernel) rfl ?_
  refine xm_icmp_lt (pc := 41) (off := 7) (tgt := 48) (by decide +kernel) (by decide) ?_ ?_
  · refine xm_blk0 (pc' := 49) (lv' := [(0, .ref 7), (1, .int a1), (2, .int a2), (3, .int a3), (4, .ref 37), (5, .int (u.1 11 (Int32.toNatClampNeg a2))), (6, .int r12), (7, .int (u.1 37 (Int32.toNatClampNeg ((2 : Int32) * (u.1 11 (Int32.toNatClampNeg a2)))))), (8, .int (u.1 37 (Int32.toNatClampNeg (((2 : Int32) * (u.1 11 (Int32.toNatClampNeg a2))) + (1 : Int32)))))]) (st' := [.int (0 : Int32)]) (u' := (xU u)) [(.iconst 0, (0, 0, 0), 0, 0)] (by decide +kernel) rfl ?_
    refine xm_wk [0, 1, 2, 3, 4, 6, 7, 8] (lv' := [(0, .ref 7), (1, .int a1), (2, .int a2), (3, .int a3), (4, .ref 37), (6, .int r12), (7, .int (u.1 37 (Int32.toNatClampNeg ((2 : Int32) * (u.1 11 (Int32.toNatClampNeg a2)))))), (8, .int (u.1 37 (Int32.toNatClampNeg (((2 : Int32) * (u.1 11 (Int32.toNatClampNeg a2))) + (1 : Int32)))))]) rfl ?_
    exact go_X0_isHeldAs_7_37_L49 u a1 a2 a3 r12 (u.1 37 (Int32.toNatClampNeg ((2 : Int32) * (u.1 11 (Int32.toNatClampNeg a2))))) (u.1 37 (Int32.toNatClampNeg (((2 : Int32) * (u.1 11 (Int32.toNatClampNeg a2))) + (1 : Int32)))) (0 : Int32)
  · refine xm_blk0 (pc' := 45) (lv' := [(0, .ref 7), (1, .int a1), (2, .int a2), (3, .int a3), (4, .ref 37), (5, .int (u.1 11 (Int32.toNatClampNeg a2))), (6, .int r12), (7, .int (u.1 37 (Int32.toNatClampNeg ((2 : Int32) * (u.1 11 (Int32.toNatClampNeg a2)))))), (8, .int (u.1 37 (Int32.toNatClampNeg (((2 : Int32) * (u.1 11 (Int32.toNatClampNeg a2))) + (1 : Int32)))))]) (st' := [.int (1 : Int32)]) (u' := (xU u)) [(.iconst 1, (0, 0, 0), 1, 0)] (by decide +kernel) rfl ?_
    refine xm_goto (pc := 45) (off := 4) (tgt := 49) (by decide +kernel) (by decide) ?_
    refine xm_wk [0, 1, 2, 3, 4, 6, 7, 8] (lv' := [(0, .ref 7), (1, .int a1), (2, .int a2), (3, .int a3), (4, .ref 37), (6, .int r12), (7, .int (u.1 37 (Int32.toNatClampNeg ((2 : Int32) * (u.1 11 (Int32.toNatClampNeg a2)))))), (8, .int (u.1 37 (Int32.toNatClampNeg (((2 : Int32) * (u.1 11 (Int32.toNatClampNeg a2))) + (1 : Int32)))))]) rfl ?_
    exact go_X0_isHeldAs_7_37_L49 u a1 a2 a3 r12 (u.1 37 (Int32.toNatClampNeg ((2 : Int32) * (u.1 11 (Int32.toNatClampNeg a2))))) (u.1 37 (Int32.toNatClampNeg (((2 : Int32) * (u.1 11 (Int32.toNatClampNeg a2))) + (1 : Int32)))) (1 : Int32)
theorem ev_X0_isHeldAs_7_37 (a1 : Int32) (a2 : Int32) (a3 : Int32) (u : xN) : ∀ r, f_X0_isHeldAs_7_37 a1 a2 a3 u = some r → xEm md_X0_isHeldAs_7_37 yX0_isHeldAs [.ref 7, .int a1, .int a2, .int a3, .ref 37] (xU u) (some (.int r), (xU u)) := xm_met (res := (rsI (xU u))) (as := [.ref 7, .int a1, .int a2, .int a3, .ref 37]) (go_X0_isHeldAs_7_37 a1 a2 a3 u) (by decide) rfl (Nat.le_of_ble_eq_true rfl)
/-! NeitherBare$Court.heldBy(I[I)I (7, None, 37) -/
abbrev md_X0_heldBy_7_37 : xMd := (cX0_heldBy, RX0, 5, some .int, 5)
def f_X0_heldBy_7_37_L39 (N : Nat) (u : xN) (rec5 : Int32 → Int32 → Int32 → Option Int32) (v1 : Int32) (v3 : Int32) (v4 : Int32) : Option Int32 := rec5 v1 v3 (v4 + (1 : Int32))
set_option maxRecDepth 20000 in
theorem go_X0_heldBy_7_37_L39 (N : Nat) (u : xN) (rec5 : Int32 → Int32 → Int32 → Option Int32) (h5 : ∀ (v1 : Int32) (v3 : Int32) (v4 : Int32), xGm md_X0_heldBy_7_37 (rsI (xU u)) (rec5 v1 v3 v4) 5 [(0, .ref 7), (1, .int v1), (2, .ref 37), (3, .int v3), (4, .int v4)] [] (xU u)) (v1 : Int32) (v3 : Int32) (v4 : Int32) : xGm md_X0_heldBy_7_37 (rsI (xU u)) (f_X0_heldBy_7_37_L39 N u rec5 v1 v3 v4) 39 [(0, .ref 7), (1, .int v1), (2, .ref 37), (3, .int v3), (4, .int v4)] [] (xU u) := by
  unfold f_X0_heldBy_7_37_L39
  refine xm_blk0 (pc' := 42) (lv' := [(0, .ref 7), (1, .int v1), (2, .ref 37), (3, .int v3), (4, .int (v4 + (1 : Int32)))]) (st' := []) (u' := (xU u)) [(.iinc 4 1, (0, 0, 0), 1, 0)] (by decide +kernel) rfl ?_
  refine xm_goto (pc := 42) (off := -37) (tgt := 5) (by decide +kernel) (by decide) ?_
  exact h5 v1 v3 (v4 + (1 : Int32))
def f_X0_heldBy_7_37_L5b (N : Nat) (u : xN) (rec5 : Int32 → Int32 → Int32 → Option Int32) (v1 : Int32) (v3 : Int32) (v4 : Int32) : Option Int32 := if (u.1 7 1) ≤ v4 then some v3 else gdl [inb v4 8] (Option.bind (f_X0_isHeldAs_7_37 (u.1 10 (Int32.toNatClampNeg v4)) v4 v1 u) (fun r26 => if r26 = (0 : Int32) then f_X0_heldBy_7_37_L39 N u rec5 v1 v3 v4 else f_X0_heldBy_7_37_L39 N u rec5 v1 (v3 ||| ((1 : Int32) <<< (v4 &&& 31))) v4))
set_option maxRecDepth 20000 in
theorem go_X0_heldBy_7_37_L5b (N : Nat) (u : xN) (rec5 : Int32 → Int32 → Int32 → Option Int32) (h5 : ∀ (v1 : Int32) (v3 : Int32) (v4 : Int32), xGm md_X0_heldBy_7_37 (rsI (xU u)) (rec5 v1 v3 v4) 5 [(0, .ref 7), (1, .int v1), (2, .ref 37), (3, .int v3), (4, .int v4)] [] (xU u)) (v1 : Int32) (v3 : Int32) (v4 : Int32) : xGm md_X0_heldBy_7_37 (rsI (xU u)) (f_X0_heldBy_7_37_L5b N u rec5 v1 v3 v4) 5 [(0, .ref 7), (1, .int v1), (2, .ref 37), (3, .int v3), (4, .int v4)] [] (xU u) := by
  unfold f_X0_heldBy_7_37_L5b
  refine xm_blk0 (pc' := 11) (lv' := [(0, .ref 7), (1, .int v1), (2, .ref 37), (3, .int v3), (4, .int v4)]) (st' := [.int (u.1 7 1), .int v4]) (u' := (xU u)) [(.iload 4, (0, 0, 0), 0, 0), (.aload_n 0, (0, 0, 0), 0, 0), (.getfield 31, (0, 1, 144), 0, 0)] (by decide +kernel) rfl ?_
  refine xm_icmp_ge (pc := 11) (off := 34) (tgt := 45) (by decide +kernel) (by decide) ?_ ?_
  · refine xm_blk0 (pc' := 46) (lv' := [(0, .ref 7), (1, .int v1), (2, .ref 37), (3, .int v3), (4, .int v4)]) (st' := [.int v3]) (u' := (xU u)) [(.iload_n 3, (0, 0, 0), 0, 0)] (by decide +kernel) rfl ?_
    exact xm_iret (pc := 46) (by decide +kernel) rfl rfl
  · refine xm_blk (bs := [inb v4 8]) (pc' := 26) (lv' := [(0, .ref 7), (1, .int v1), (2, .ref 37), (3, .int v3), (4, .int v4)]) (st' := [.ref 37, .int v1, .int v4, .int (u.1 10 (Int32.toNatClampNeg v4)), .ref 7]) (u' := (xU u)) [(.aload_n 0, (0, 0, 0), 0, 0), (.aload_n 0, (0, 0, 0), 0, 0), (.getfield 18, (0, 5, 150), 0, 0), (.iload 4, (0, 0, 0), 0, 0), (.iaload, (0, 0, 0), 0, 0), (.iload 4, (0, 0, 0), 0, 0), (.iload_n 1, (0, 0, 0), 0, 0), (.aload_n 2, (0, 0, 0), 0, 0)] (by decide +kernel) rfl ?_
    refine xm_Vi (pc := 26) (mz := md_X0_isHeldAs_7_37) (idx := 94) (p1 := 575) (a := 7) (as := [.int (u.1 10 (Int32.toNatClampNeg v4)), .int v4, .int v1, .ref 37]) (st := []) (ev_X0_isHeldAs_7_37 (u.1 10 (Int32.toNatClampNeg v4)) v4 v1 u) mw_X0_isHeldAs (by decide +kernel) (by decide +kernel) (by decide) rfl rfl (by decide) rfl (Nat.le_of_ble_eq_true rfl) (fun r26 => ?_)
    refine xm_if_eq (pc := 29) (off := 10) (tgt := 39) (by decide +kernel) (by decide) ?_ ?_
    · exact go_X0_heldBy_7_37_L39 N u rec5 h5 v1 v3 v4
    · refine xm_blk0 (pc' := 39) (lv' := [(0, .ref 7), (1, .int v1), (2, .ref 37), (3, .int (v3 ||| ((1 : Int32) <<< (v4 &&& 31)))), (4, .int v4)]) (st' := []) (u' := (xU u)) [(.iload_n 3, (0, 0, 0), 0, 0), (.iconst 1, (0, 0, 0), 1, 0), (.iload 4, (0, 0, 0), 0, 0), (.ishl, (0, 0, 0), 0, 0), (.ior, (0, 0, 0), 0, 0), (.istore_n 3, (0, 0, 0), 0, 0)] (by decide +kernel) rfl ?_
      exact go_X0_heldBy_7_37_L39 N u rec5 h5 v1 (v3 ||| ((1 : Int32) <<< (v4 &&& 31))) v4
def f_X0_heldBy_7_37_L5 (N : Nat) (u : xN) : Nat → Int32 → Int32 → Int32 → Option Int32
  | 0 => fun _ _ _ => none
  | n + 1 => fun v1 v3 v4 => f_X0_heldBy_7_37_L5b N u (f_X0_heldBy_7_37_L5 N u n) v1 v3 v4
theorem go_X0_heldBy_7_37_L5 (N : Nat) (u : xN) : ∀ (n : Nat) (v1 : Int32) (v3 : Int32) (v4 : Int32), xGm md_X0_heldBy_7_37 (rsI (xU u)) (f_X0_heldBy_7_37_L5 N u n v1 v3 v4) 5 [(0, .ref 7), (1, .int v1), (2, .ref 37), (3, .int v3), (4, .int v4)] [] (xU u) := by
  intro n
  induction n with
  | zero => intro v1 v3 v4; exact xm_none
  | succ n ih => intro v1 v3 v4; exact go_X0_heldBy_7_37_L5b N u _ ih v1 v3 v4
def f_X0_heldBy_7_37 (N : Nat) (a1 : Int32) (u : xN) : Option Int32 := f_X0_heldBy_7_37_L5 N u N a1 (0 : Int32) (0 : Int32)
set_option maxRecDepth 20000 in
theorem go_X0_heldBy_7_37 (N : Nat) (a1 : Int32) (u : xN) : xGm md_X0_heldBy_7_37 (rsI (xU u)) (f_X0_heldBy_7_37 N a1 u) 0 [(0, .ref 7), (1, .int a1), (2, .ref 37)] [] (xU u) := by
  unfold f_X0_heldBy_7_37
  refine xm_blk0 (pc' := 5) (lv' := [(0, .ref 7), (1, .int a1), (2, .ref 37), (3, .int (0 : Int32)), (4, .int (0 : Int32))]) (st' := []) (u' := (xU u)) [(.iconst 0, (0, 0, 0), 0, 0), (.istore_n 3, (0, 0, 0), 0, 0), (.iconst 0, (0, 0, 0), 0, 0), (.istore 4, (0, 0, 0), 0, 0)] (by decide +kernel) rfl ?_
  exact go_X0_heldBy_7_37_L5 N u N a1 (0 : Int32) (0 : Int32)
theorem ev_X0_heldBy_7_37 (N : Nat) (a1 : Int32) (u : xN) : ∀ r, f_X0_heldBy_7_37 N a1 u = some r → xEm md_X0_heldBy_7_37 yX0_heldBy [.ref 7, .int a1, .ref 37] (xU u) (some (.int r), (xU u)) := xm_met (res := (rsI (xU u))) (as := [.ref 7, .int a1, .ref 37]) (go_X0_heldBy_7_37 N a1 u) (by decide) rfl (Nat.le_of_ble_eq_true rfl)
theorem mw_X3_falls : xMv yX3_falls cX3_falls 9 (some .int) 3 := xMv_of (p1 := 712) (p2 := 710) (p3 := 92) (p4 := 711) (by decide +kernel)
/-! NeitherBare.falls(III)I (0, None, None, None) -/
abbrev md_X3_falls : xMd := (cX3_falls, RX3, 9, some .int, 7)
def f_X3_falls_L119 (N : Nat) (rec48 : Int32 → Int32 → Int32 → xN → Option (Int32 × xN)) (v4 : Int32) (v5 : Int32) (v6 : Int32) (u : xN) : Option (Int32 × xN) := rec48 v4 v5 (v6 + (1 : Int32)) u
set_option maxRecDepth 20000 in
theorem go_X3_falls_L119 (N : Nat) (rec48 : Int32 → Int32 → Int32 → xN → Option (Int32 × xN)) (h48 : ∀ (v4 : Int32) (v5 : Int32) (v6 : Int32) (u : xN), xGm md_X3_falls rsM (rec48 v4 v5 v6 u) 48 [(0, .ref 0), (4, .int v4), (5, .int v5), (6, .int v6)] [] (xU u)) (v4 : Int32) (v5 : Int32) (v6 : Int32) (u : xN) : xGm md_X3_falls rsM (f_X3_falls_L119 N rec48 v4 v5 v6 u) 119 [(0, .ref 0), (4, .int v4), (5, .int v5), (6, .int v6)] [] (xU u) := by
  unfold f_X3_falls_L119
  refine xm_blk0 (pc' := 122) (lv' := [(0, .ref 0), (4, .int v4), (5, .int v5), (6, .int (v6 + (1 : Int32)))]) (st' := []) (u' := (xU u)) [(.iinc 6 1, (0, 0, 0), 1, 0)] (by decide +kernel) rfl ?_
  refine xm_goto (pc := 122) (off := -74) (tgt := 48) (by decide +kernel) (by decide) ?_
  exact h48 v4 v5 (v6 + (1 : Int32)) u
def f_X3_falls_L106 (N : Nat) (rec48 : Int32 → Int32 → Int32 → xN → Option (Int32 × xN)) (v4 : Int32) (v5 : Int32) (v6 : Int32) (v7 : Int32) (v8 : Int32) (u : xN) : Option (Int32 × xN) := if v7 = (0 : Int32) then (if v8 = (0 : Int32) then f_X3_falls_L119 N rec48 v4 v5 v6 u else f_X3_falls_L119 N rec48 v4 (v5 + (1 : Int32)) v6 u) else f_X3_falls_L119 N rec48 v4 v5 v6 u
set_option maxRecDepth 20000 in
theorem go_X3_falls_L106 (N : Nat) (rec48 : Int32 → Int32 → Int32 → xN → Option (Int32 × xN)) (h48 : ∀ (v4 : Int32) (v5 : Int32) (v6 : Int32) (u : xN), xGm md_X3_falls rsM (rec48 v4 v5 v6 u) 48 [(0, .ref 0), (4, .int v4), (5, .int v5), (6, .int v6)] [] (xU u)) (v4 : Int32) (v5 : Int32) (v6 : Int32) (v7 : Int32) (v8 : Int32) (u : xN) : xGm md_X3_falls rsM (f_X3_falls_L106 N rec48 v4 v5 v6 v7 v8 u) 106 [(0, .ref 0), (4, .int v4), (5, .int v5), (6, .int v6), (7, .int v7), (8, .int v8)] [] (xU u) := by
  unfold f_X3_falls_L106
  refine xm_blk0 (pc' := 108) (lv' := [(0, .ref 0), (4, .int v4), (5, .int v5), (6, .int v6), (7, .int v7), (8, .int v8)]) (st' := [.int v7]) (u' := (xU u)) [(.iload 7, (0, 0, 0), 0, 0)] (by decide +kernel) rfl ?_
  refine xm_if_ne (pc := 108) (off := 11) (tgt := 119) (by decide +kernel) (by decide) ?_ ?_
  · refine xm_wk [0, 1, 2, 3] (lv' := [(0, .ref 0), (4, .int v4), (5, .int v5), (6, .int v6)]) rfl ?_
    exact go_X3_falls_L119 N rec48 h48 v4 v5 v6 u
  · refine xm_blk0 (pc' := 113) (lv' := [(0, .ref 0), (4, .int v4), (5, .int v5), (6, .int v6), (7, .int v7), (8, .int v8)]) (st' := [.int v8]) (u' := (xU u)) [(.iload 8, (0, 0, 0), 0, 0)] (by decide +kernel) rfl ?_
    refine xm_if_eq (pc := 113) (off := 6) (tgt := 119) (by decide +kernel) (by decide) ?_ ?_
    · refine xm_wk [0, 1, 2, 3] (lv' := [(0, .ref 0), (4, .int v4), (5, .int v5), (6, .int v6)]) rfl ?_
      exact go_X3_falls_L119 N rec48 h48 v4 v5 v6 u
    · refine xm_blk0 (pc' := 119) (lv' := [(0, .ref 0), (4, .int v4), (5, .int (v5 + (1 : Int32))), (6, .int v6), (7, .int v7), (8, .int v8)]) (st' := []) (u' := (xU u)) [(.iinc 5 1, (0, 0, 0), 1, 0)] (by decide +kernel) rfl ?_
      refine xm_wk [0, 1, 2, 3] (lv' := [(0, .ref 0), (4, .int v4), (5, .int (v5 + (1 : Int32))), (6, .int v6)]) rfl ?_
      exact go_X3_falls_L119 N rec48 h48 v4 (v5 + (1 : Int32)) v6 u
def f_X3_falls_L48b (N : Nat) (rec48 : Int32 → Int32 → Int32 → xN → Option (Int32 × xN)) (v4 : Int32) (v5 : Int32) (v6 : Int32) (u : xN) : Option (Int32 × xN) := Option.bind (f_X0_ways_7 u) (fun r54 => if r54 ≤ v6 then some (v4, mI u 0 10 v5) else Option.bind (f_X3_isGood N v6 u) (fun r63 => Option.bind (f_X0_heldBy_7_37 N v6 u) (fun r78 => Option.bind (f_X3_isMet r78 (u.1 19 1)) (fun r88 => if r63 = (0 : Int32) then f_X3_falls_L106 N rec48 v4 v5 v6 r63 r88 u else if r88 = (0 : Int32) then f_X3_falls_L106 N rec48 (v4 + (1 : Int32)) v5 v6 r63 r88 u else f_X3_falls_L106 N rec48 v4 v5 v6 r63 r88 u))))
set_option maxRecDepth 20000 in
theorem go_X3_falls_L48b (N : Nat) (rec48 : Int32 → Int32 → Int32 → xN → Option (Int32 × xN)) (h48 : ∀ (v4 : Int32) (v5 : Int32) (v6 : Int32) (u : xN), xGm md_X3_falls rsM (rec48 v4 v5 v6 u) 48 [(0, .ref 0), (4, .int v4), (5, .int v5), (6, .int v6)] [] (xU u)) (v4 : Int32) (v5 : Int32) (v6 : Int32) (u : xN) : xGm md_X3_falls rsM (f_X3_falls_L48b N rec48 v4 v5 v6 u) 48 [(0, .ref 0), (4, .int v4), (5, .int v5), (6, .int v6)] [] (xU u) := by
  unfold f_X3_falls_L48b
  refine xm_blk0 (pc' := 54) (lv' := [(0, .ref 0), (4, .int v4), (5, .int v5), (6, .int v6)]) (st' := [.ref 7, .int v6]) (u' := (xU u)) [(.iload 6, (0, 0, 0), 0, 0), (.aload_n 0, (0, 0, 0), 0, 0), (.getfield 24, (3, 2, 208), 0, 0)] (by decide +kernel) rfl ?_
  refine xm_Vi (pc := 54) (mz := md_X0_ways_7) (idx := 231) (p1 := 430) (a := 7) (as := []) (st := [.int v6]) (ev_X0_ways_7 u) mw_X0_ways (by decide +kernel) (by decide +kernel) (by decide) rfl rfl (by decide) rfl (Nat.le_of_ble_eq_true rfl) (fun r54 => ?_)
  refine xm_icmp_ge (pc := 57) (off := 68) (tgt := 125) (by decide +kernel) (by decide) ?_ ?_
  · refine xm_blk0 (pc' := 133) (lv' := [(0, .ref 0), (4, .int v4), (5, .int v5), (6, .int v6)]) (st' := [.int v4]) (u' := (xU (mI u 0 10 v5))) [(.aload_n 0, (0, 0, 0), 0, 0), (.iload 5, (0, 0, 0), 0, 0), (.putfield 71, (3, 10, 216), 0, 0), (.iload 4, (0, 0, 0), 0, 0)] (by decide +kernel) rfl ?_
    exact xm_iret (pc := 133) (by decide +kernel) rfl rfl
  · refine xm_blk0 (pc' := 63) (lv' := [(0, .ref 0), (4, .int v4), (5, .int v5), (6, .int v6)]) (st' := [.int v6, .ref 0]) (u' := (xU u)) [(.aload_n 0, (0, 0, 0), 0, 0), (.iload 6, (0, 0, 0), 0, 0)] (by decide +kernel) rfl ?_
    refine xm_Vi (pc := 63) (mz := md_X3_isGood) (idx := 238) (p1 := 608) (a := 0) (as := [.int v6]) (st := []) (ev_X3_isGood N v6 u) mw_X3_isGood (by decide +kernel) (by decide +kernel) (by decide) rfl rfl (by decide) rfl (Nat.le_of_ble_eq_true rfl) (fun r63 => ?_)
    refine xm_blk0 (pc' := 78) (lv' := [(0, .ref 0), (4, .int v4), (5, .int v5), (6, .int v6), (7, .int r63)]) (st' := [.ref 37, .int v6, .ref 7]) (u' := (xU u)) [(.istore 7, (0, 0, 0), 0, 0), (.aload_n 0, (0, 0, 0), 0, 0), (.getfield 24, (3, 2, 208), 0, 0), (.iload 6, (0, 0, 0), 0, 0), (.aload_n 0, (0, 0, 0), 0, 0), (.getfield 46, (3, 7, 213), 0, 0)] (by decide +kernel) rfl ?_
    refine xm_Vi (pc := 78) (mz := md_X0_heldBy_7_37) (idx := 220) (p1 := 571) (a := 7) (as := [.int v6, .ref 37]) (st := []) (ev_X0_heldBy_7_37 N v6 u) mw_X0_heldBy (by decide +kernel) (by decide +kernel) (by decide) rfl rfl (by decide) rfl (Nat.le_of_ble_eq_true rfl) (fun r78 => ?_)
    refine xm_blk0 (pc' := 88) (lv' := [(0, .ref 0), (4, .int v4), (5, .int v5), (6, .int v6), (7, .int r63)]) (st' := [.int (u.1 19 1), .int r78]) (u' := (xU u)) [(.aload_n 0, (0, 0, 0), 0, 0), (.getfield 34, (3, 4, 210), 0, 0), (.getfield 183, (2, 1, 181), 0, 0)] (by decide +kernel) rfl ?_
    refine xm_Si (pc := 88) (mz := md_X3_isMet) (idx := 224) (p1 := 576) (as := [.int r78, .int (u.1 19 1)]) (st := []) (ev_X3_isMet r78 (u.1 19 1) u) mw_X3_isMet (by decide +kernel) (by decide +kernel) (by decide) rfl (Nat.le_of_ble_eq_true rfl) (fun r88 => ?_)
    refine xm_blk0 (pc' := 95) (lv' := [(0, .ref 0), (4, .int v4), (5, .int v5), (6, .int v6), (7, .int r63), (8, .int r88)]) (st' := [.int r63]) (u' := (xU u)) [(.istore 8, (0, 0, 0), 0, 0), (.iload 7, (0, 0, 0), 0, 0)] (by decide +kernel) rfl ?_
    refine xm_if_eq (pc := 95) (off := 11) (tgt := 106) (by decide +kernel) (by decide) ?_ ?_
    · exact go_X3_falls_L106 N rec48 h48 v4 v5 v6 r63 r88 u
    · refine xm_blk0 (pc' := 100) (lv' := [(0, .ref 0), (4, .int v4), (5, .int v5), (6, .int v6), (7, .int r63), (8, .int r88)]) (st' := [.int r88]) (u' := (xU u)) [(.iload 8, (0, 0, 0), 0, 0)] (by decide +kernel) rfl ?_
      refine xm_if_ne (pc := 100) (off := 6) (tgt := 106) (by decide +kernel) (by decide) ?_ ?_
      · exact go_X3_falls_L106 N rec48 h48 v4 v5 v6 r63 r88 u
      · refine xm_blk0 (pc' := 106) (lv' := [(0, .ref 0), (4, .int (v4 + (1 : Int32))), (5, .int v5), (6, .int v6), (7, .int r63), (8, .int r88)]) (st' := []) (u' := (xU u)) [(.iinc 4 1, (0, 0, 0), 1, 0)] (by decide +kernel) rfl ?_
        exact go_X3_falls_L106 N rec48 h48 (v4 + (1 : Int32)) v5 v6 r63 r88 u
def f_X3_falls_L48 (N : Nat) : Nat → Int32 → Int32 → Int32 → xN → Option (Int32 × xN)
  | 0 => fun _ _ _ _ => none
  | n + 1 => fun v4 v5 v6 u => f_X3_falls_L48b N (f_X3_falls_L48 N n) v4 v5 v6 u
theorem go_X3_falls_L48 (N : Nat) : ∀ (n : Nat) (v4 : Int32) (v5 : Int32) (v6 : Int32) (u : xN), xGm md_X3_falls rsM (f_X3_falls_L48 N n v4 v5 v6 u) 48 [(0, .ref 0), (4, .int v4), (5, .int v5), (6, .int v6)] [] (xU u) := by
  intro n
  induction n with
  | zero => intro v4 v5 v6 u; exact xm_none
  | succ n ih => intro v4 v5 v6 u; exact go_X3_falls_L48b N _ ih v4 v5 v6 u
def f_X3_falls (N : Nat) (a1 : Int32) (a2 : Int32) (a3 : Int32) (u : xN) : Option (Int32 × xN) := Option.bind (f_X3_isBorder a1 a2 a3) (fun r3 => if r3 = (0 : Int32) then some ((-1 : Int32), u) else Option.bind (f_X3_staysBelow a1 a2 a3 u) (fun r15 => if r15 = (0 : Int32) then some ((-4 : Int32), u) else Option.bind (f_X3_copyBordersToTrial u) (fun r25 => gdl [inb (((2 : Int32) * a1) + a2) 8] (f_X3_falls_L48 N N (0 : Int32) (0 : Int32) (0 : Int32) (mI r25 37 (Int32.toNatClampNeg (((2 : Int32) * a1) + a2)) a3)))))
set_option maxRecDepth 20000 in
theorem go_X3_falls (N : Nat) (a1 : Int32) (a2 : Int32) (a3 : Int32) (u : xN) : xGm md_X3_falls rsM (f_X3_falls N a1 a2 a3 u) 0 [(0, .ref 0), (1, .int a1), (2, .int a2), (3, .int a3)] [] (xU u) := by
  unfold f_X3_falls
  refine xm_blk0 (pc' := 3) (lv' := [(0, .ref 0), (1, .int a1), (2, .int a2), (3, .int a3)]) (st' := [.int a3, .int a2, .int a1]) (u' := (xU u)) [(.iload_n 1, (0, 0, 0), 0, 0), (.iload_n 2, (0, 0, 0), 0, 0), (.iload_n 3, (0, 0, 0), 0, 0)] (by decide +kernel) rfl ?_
  refine xm_Si (pc := 3) (mz := md_X3_isBorder) (idx := 191) (p1 := 519) (as := [.int a1, .int a2, .int a3]) (st := []) (ev_X3_isBorder a1 a2 a3 u) mw_X3_isBorder (by decide +kernel) (by decide +kernel) (by decide) rfl (Nat.le_of_ble_eq_true rfl) (fun r3 => ?_)
  refine xm_if_ne (pc := 6) (off := 5) (tgt := 11) (by decide +kernel) (by decide) ?_ ?_
  · refine xm_blk0 (pc' := 15) (lv' := [(0, .ref 0), (1, .int a1), (2, .int a2), (3, .int a3)]) (st' := [.int a3, .int a2, .int a1, .ref 0]) (u' := (xU u)) [(.aload_n 0, (0, 0, 0), 0, 0), (.iload_n 1, (0, 0, 0), 0, 0), (.iload_n 2, (0, 0, 0), 0, 0), (.iload_n 3, (0, 0, 0), 0, 0)] (by decide +kernel) rfl ?_
    refine xm_Vi (pc := 15) (mz := md_X3_staysBelow) (idx := 194) (p1 := 522) (a := 0) (as := [.int a1, .int a2, .int a3]) (st := []) (ev_X3_staysBelow a1 a2 a3 u) mw_X3_staysBelow (by decide +kernel) (by decide +kernel) (by decide) rfl rfl (by decide) rfl (Nat.le_of_ble_eq_true rfl) (fun r15 => ?_)
    refine xm_if_ne (pc := 18) (off := 6) (tgt := 24) (by decide +kernel) (by decide) ?_ ?_
    · refine xm_blk0 (pc' := 25) (lv' := [(0, .ref 0), (1, .int a1), (2, .int a2), (3, .int a3)]) (st' := [.ref 0]) (u' := (xU u)) [(.aload_n 0, (0, 0, 0), 0, 0)] (by decide +kernel) rfl ?_
      refine xm_Vv (pc := 25) (mz := md_X3_copyBordersToTrial) (idx := 281) (p1 := 713) (a := 0) (as := []) (st := []) (ev_X3_copyBordersToTrial u) mw_X3_copyBordersToTrial (by decide +kernel) (by decide +kernel) (by decide) rfl rfl (by decide) rfl (Nat.le_of_ble_eq_true rfl) (fun r25 => ?_)
      refine xm_blk (bs := [inb (((2 : Int32) * a1) + a2) 8]) (pc' := 48) (lv' := [(0, .ref 0), (1, .int a1), (2, .int a2), (3, .int a3), (4, .int (0 : Int32)), (5, .int (0 : Int32)), (6, .int (0 : Int32))]) (st' := []) (u' := (xU (mI r25 37 (Int32.toNatClampNeg (((2 : Int32) * a1) + a2)) a3))) [(.aload_n 0, (0, 0, 0), 0, 0), (.getfield 46, (3, 7, 213), 0, 0), (.iconst 2, (0, 0, 0), 2, 0), (.iload_n 1, (0, 0, 0), 0, 0), (.imul, (0, 0, 0), 0, 0), (.iload_n 2, (0, 0, 0), 0, 0), (.iadd, (0, 0, 0), 0, 0), (.iload_n 3, (0, 0, 0), 0, 0), (.iastore, (0, 0, 0), 0, 0), (.iconst 0, (0, 0, 0), 0, 0), (.istore 4, (0, 0, 0), 0, 0), (.iconst 0, (0, 0, 0), 0, 0), (.istore 5, (0, 0, 0), 0, 0), (.iconst 0, (0, 0, 0), 0, 0), (.istore 6, (0, 0, 0), 0, 0)] (by decide +kernel) rfl ?_
      refine xm_wk [0, 4, 5, 6] (lv' := [(0, .ref 0), (4, .int (0 : Int32)), (5, .int (0 : Int32)), (6, .int (0 : Int32))]) rfl ?_
      exact go_X3_falls_L48 N N (0 : Int32) (0 : Int32) (0 : Int32) (mI r25 37 (Int32.toNatClampNeg (((2 : Int32) * a1) + a2)) a3)
    · refine xm_blk0 (pc' := 23) (lv' := [(0, .ref 0), (1, .int a1), (2, .int a2), (3, .int a3)]) (st' := [.int (-4 : Int32)]) (u' := (xU u)) [(.bipush (-4), (0, 0, 0), -4, 0)] (by decide +kernel) rfl ?_
      exact xm_iret (pc := 23) (by decide +kernel) rfl rfl
  · refine xm_blk0 (pc' := 10) (lv' := [(0, .ref 0), (1, .int a1), (2, .int a2), (3, .int a3)]) (st' := [.int (-1 : Int32)]) (u' := (xU u)) [(.iconst (-1), (0, 0, 0), -1, 0)] (by decide +kernel) rfl ?_
    exact xm_iret (pc := 10) (by decide +kernel) rfl rfl
theorem ev_X3_falls (N : Nat) (a1 : Int32) (a2 : Int32) (a3 : Int32) (u : xN) : ∀ r, f_X3_falls N a1 a2 a3 u = some r → xEm md_X3_falls yX3_falls [.ref 0, .int a1, .int a2, .int a3] (xU u) (some (.int r.1), xU r.2) := xm_met (res := rsM) (as := [.ref 0, .int a1, .int a2, .int a3]) (go_X3_falls N a1 a2 a3 u) (by decide) rfl (Nat.le_of_ble_eq_true rfl)
theorem mw_X3_kinds : xMv yX3_kinds cX3_kinds 5 (some .int) 2 := xMv_of (p1 := 721) (p2 := 719) (p3 := 92) (p4 := 720) (by decide +kernel)
/-! NeitherBare.kinds(II)I (0, None, None) -/
abbrev md_X3_kinds : xMd := (cX3_kinds, RX3, 5, some .int, 6)
def f_X3_kinds_L18 (N : Nat) (u : xN) : Option Int32 := some (-1 : Int32)
set_option maxRecDepth 20000 in
theorem go_X3_kinds_L18 (N : Nat) (u : xN) : xGm md_X3_kinds (rsI (xU u)) (f_X3_kinds_L18 N u) 18 [] [] (xU u) := by
  unfold f_X3_kinds_L18
  refine xm_blk0 (pc' := 19) (lv' := []) (st' := [.int (-1 : Int32)]) (u' := (xU u)) [(.iconst (-1), (0, 0, 0), -1, 0)] (by decide +kernel) rfl ?_
  exact xm_iret (pc := 19) (by decide +kernel) rfl rfl
def f_X3_kinds_L49 (N : Nat) (u : xN) (rec25 : Int32 → Int32 → Int32 → Int32 → Option Int32) (v1 : Int32) (v2 : Int32) (v3 : Int32) (v4 : Int32) : Option Int32 := rec25 v1 v2 v3 (v4 + (1 : Int32))
set_option maxRecDepth 20000 in
theorem go_X3_kinds_L49 (N : Nat) (u : xN) (rec25 : Int32 → Int32 → Int32 → Int32 → Option Int32) (h25 : ∀ (v1 : Int32) (v2 : Int32) (v3 : Int32) (v4 : Int32), xGm md_X3_kinds (rsI (xU u)) (rec25 v1 v2 v3 v4) 25 [(0, .ref 0), (1, .int v1), (2, .int v2), (3, .int v3), (4, .int v4)] [] (xU u)) (v1 : Int32) (v2 : Int32) (v3 : Int32) (v4 : Int32) : xGm md_X3_kinds (rsI (xU u)) (f_X3_kinds_L49 N u rec25 v1 v2 v3 v4) 49 [(0, .ref 0), (1, .int v1), (2, .int v2), (3, .int v3), (4, .int v4)] [] (xU u) := by
  unfold f_X3_kinds_L49
  refine xm_blk0 (pc' := 52) (lv' := [(0, .ref 0), (1, .int v1), (2, .int v2), (3, .int v3), (4, .int (v4 + (1 : Int32)))]) (st' := []) (u' := (xU u)) [(.iinc 4 1, (0, 0, 0), 1, 0)] (by decide +kernel) rfl ?_
  refine xm_goto (pc := 52) (off := -27) (tgt := 25) (by decide +kernel) (by decide) ?_
  exact h25 v1 v2 v3 (v4 + (1 : Int32))
def f_X3_kinds_L25b (N : Nat) (u : xN) (rec25 : Int32 → Int32 → Int32 → Int32 → Option Int32) (v1 : Int32) (v2 : Int32) (v3 : Int32) (v4 : Int32) : Option Int32 := if (5 : Int32) < v4 then some v3 else Option.bind (f_X3_waysHeld N v1 v4 u) (fun r35 => if r35 = v2 then f_X3_kinds_L49 N u rec25 v1 v2 (v3 ||| ((1 : Int32) <<< (v4 &&& 31))) v4 else f_X3_kinds_L49 N u rec25 v1 v2 v3 v4)
set_option maxRecDepth 20000 in
theorem go_X3_kinds_L25b (N : Nat) (u : xN) (rec25 : Int32 → Int32 → Int32 → Int32 → Option Int32) (h25 : ∀ (v1 : Int32) (v2 : Int32) (v3 : Int32) (v4 : Int32), xGm md_X3_kinds (rsI (xU u)) (rec25 v1 v2 v3 v4) 25 [(0, .ref 0), (1, .int v1), (2, .int v2), (3, .int v3), (4, .int v4)] [] (xU u)) (v1 : Int32) (v2 : Int32) (v3 : Int32) (v4 : Int32) : xGm md_X3_kinds (rsI (xU u)) (f_X3_kinds_L25b N u rec25 v1 v2 v3 v4) 25 [(0, .ref 0), (1, .int v1), (2, .int v2), (3, .int v3), (4, .int v4)] [] (xU u) := by
  unfold f_X3_kinds_L25b
  refine xm_blk0 (pc' := 28) (lv' := [(0, .ref 0), (1, .int v1), (2, .int v2), (3, .int v3), (4, .int v4)]) (st' := [.int (5 : Int32), .int v4]) (u' := (xU u)) [(.iload 4, (0, 0, 0), 0, 0), (.iconst 5, (0, 0, 0), 5, 0)] (by decide +kernel) rfl ?_
  refine xm_icmp_gt (pc := 28) (off := 27) (tgt := 55) (by decide +kernel) (by decide) ?_ ?_
  · refine xm_blk0 (pc' := 56) (lv' := [(0, .ref 0), (1, .int v1), (2, .int v2), (3, .int v3), (4, .int v4)]) (st' := [.int v3]) (u' := (xU u)) [(.iload_n 3, (0, 0, 0), 0, 0)] (by decide +kernel) rfl ?_
    exact xm_iret (pc := 56) (by decide +kernel) rfl rfl
  · refine xm_blk0 (pc' := 35) (lv' := [(0, .ref 0), (1, .int v1), (2, .int v2), (3, .int v3), (4, .int v4)]) (st' := [.int v4, .int v1, .ref 0]) (u' := (xU u)) [(.aload_n 0, (0, 0, 0), 0, 0), (.iload_n 1, (0, 0, 0), 0, 0), (.iload 4, (0, 0, 0), 0, 0)] (by decide +kernel) rfl ?_
    refine xm_Vi (pc := 35) (mz := md_X3_waysHeld) (idx := 284) (p1 := 426) (a := 0) (as := [.int v1, .int v4]) (st := []) (ev_X3_waysHeld N v1 v4 u) mw_X3_waysHeld (by decide +kernel) (by decide +kernel) (by decide) rfl rfl (by decide) rfl (Nat.le_of_ble_eq_true rfl) (fun r35 => ?_)
    refine xm_blk0 (pc' := 39) (lv' := [(0, .ref 0), (1, .int v1), (2, .int v2), (3, .int v3), (4, .int v4)]) (st' := [.int v2, .int r35]) (u' := (xU u)) [(.iload_n 2, (0, 0, 0), 0, 0)] (by decide +kernel) rfl ?_
    refine xm_icmp_ne (pc := 39) (off := 10) (tgt := 49) (by decide +kernel) (by decide) ?_ ?_
    · exact go_X3_kinds_L49 N u rec25 h25 v1 v2 v3 v4
    · refine xm_blk0 (pc' := 49) (lv' := [(0, .ref 0), (1, .int v1), (2, .int v2), (3, .int (v3 ||| ((1 : Int32) <<< (v4 &&& 31)))), (4, .int v4)]) (st' := []) (u' := (xU u)) [(.iload_n 3, (0, 0, 0), 0, 0), (.iconst 1, (0, 0, 0), 1, 0), (.iload 4, (0, 0, 0), 0, 0), (.ishl, (0, 0, 0), 0, 0), (.ior, (0, 0, 0), 0, 0), (.istore_n 3, (0, 0, 0), 0, 0)] (by decide +kernel) rfl ?_
      exact go_X3_kinds_L49 N u rec25 h25 v1 v2 (v3 ||| ((1 : Int32) <<< (v4 &&& 31))) v4
def f_X3_kinds_L25 (N : Nat) (u : xN) : Nat → Int32 → Int32 → Int32 → Int32 → Option Int32
  | 0 => fun _ _ _ _ => none
  | n + 1 => fun v1 v2 v3 v4 => f_X3_kinds_L25b N u (f_X3_kinds_L25 N u n) v1 v2 v3 v4
theorem go_X3_kinds_L25 (N : Nat) (u : xN) : ∀ (n : Nat) (v1 : Int32) (v2 : Int32) (v3 : Int32) (v4 : Int32), xGm md_X3_kinds (rsI (xU u)) (f_X3_kinds_L25 N u n v1 v2 v3 v4) 25 [(0, .ref 0), (1, .int v1), (2, .int v2), (3, .int v3), (4, .int v4)] [] (xU u) := by
  intro n
  induction n with
  | zero => intro v1 v2 v3 v4; exact xm_none
  | succ n ih => intro v1 v2 v3 v4; exact go_X3_kinds_L25b N u _ ih v1 v2 v3 v4
def f_X3_kinds (N : Nat) (a1 : Int32) (a2 : Int32) (u : xN) : Option Int32 := Option.bind (f_X3_isClause a1 u) (fun r2 => if r2 = (0 : Int32) then f_X3_kinds_L18 N u else if a2 < (0 : Int32) then f_X3_kinds_L18 N u else if a2 ≤ (64 : Int32) then f_X3_kinds_L25 N u N a1 a2 (0 : Int32) (0 : Int32) else f_X3_kinds_L18 N u)
set_option maxRecDepth 20000 in
theorem go_X3_kinds (N : Nat) (a1 : Int32) (a2 : Int32) (u : xN) : xGm md_X3_kinds (rsI (xU u)) (f_X3_kinds N a1 a2 u) 0 [(0, .ref 0), (1, .int a1), (2, .int a2)] [] (xU u) := by
  unfold f_X3_kinds
  refine xm_blk0 (pc' := 2) (lv' := [(0, .ref 0), (1, .int a1), (2, .int a2)]) (st' := [.int a1, .ref 0]) (u' := (xU u)) [(.aload_n 0, (0, 0, 0), 0, 0), (.iload_n 1, (0, 0, 0), 0, 0)] (by decide +kernel) rfl ?_
  refine xm_Vi (pc := 2) (mz := md_X3_isClause) (idx := 125) (p1 := 411) (a := 0) (as := [.int a1]) (st := []) (ev_X3_isClause a1 u) mw_X3_isClause (by decide +kernel) (by decide +kernel) (by decide) rfl rfl (by decide) rfl (Nat.le_of_ble_eq_true rfl) (fun r2 => ?_)
  refine xm_if_eq (pc := 5) (off := 13) (tgt := 18) (by decide +kernel) (by decide) ?_ ?_
  · refine xm_wk [] (lv' := []) rfl ?_
    exact go_X3_kinds_L18 N u
  · refine xm_blk0 (pc' := 9) (lv' := [(0, .ref 0), (1, .int a1), (2, .int a2)]) (st' := [.int a2]) (u' := (xU u)) [(.iload_n 2, (0, 0, 0), 0, 0)] (by decide +kernel) rfl ?_
    refine xm_if_lt (pc := 9) (off := 9) (tgt := 18) (by decide +kernel) (by decide) ?_ ?_
    · refine xm_wk [] (lv' := []) rfl ?_
      exact go_X3_kinds_L18 N u
    · refine xm_blk0 (pc' := 15) (lv' := [(0, .ref 0), (1, .int a1), (2, .int a2)]) (st' := [.int (64 : Int32), .int a2]) (u' := (xU u)) [(.iload_n 2, (0, 0, 0), 0, 0), (.bipush 64, (0, 0, 0), 64, 0)] (by decide +kernel) rfl ?_
      refine xm_icmp_le (pc := 15) (off := 5) (tgt := 20) (by decide +kernel) (by decide) ?_ ?_
      · refine xm_blk0 (pc' := 25) (lv' := [(0, .ref 0), (1, .int a1), (2, .int a2), (3, .int (0 : Int32)), (4, .int (0 : Int32))]) (st' := []) (u' := (xU u)) [(.iconst 0, (0, 0, 0), 0, 0), (.istore_n 3, (0, 0, 0), 0, 0), (.iconst 0, (0, 0, 0), 0, 0), (.istore 4, (0, 0, 0), 0, 0)] (by decide +kernel) rfl ?_
        exact go_X3_kinds_L25 N u N a1 a2 (0 : Int32) (0 : Int32)
      · refine xm_wk [] (lv' := []) rfl ?_
        exact go_X3_kinds_L18 N u
theorem ev_X3_kinds (N : Nat) (a1 : Int32) (a2 : Int32) (u : xN) : ∀ r, f_X3_kinds N a1 a2 u = some r → xEm md_X3_kinds yX3_kinds [.ref 0, .int a1, .int a2] (xU u) (some (.int r), (xU u)) := xm_met (res := (rsI (xU u))) (as := [.ref 0, .int a1, .int a2]) (go_X3_kinds N a1 a2 u) (by decide) rfl (Nat.le_of_ble_eq_true rfl)
