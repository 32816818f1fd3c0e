theorem mw_X4_thereOf : xMv yX4_thereOf cX4_thereOf 4 (some .int) 1 := xMv_of (p1 := 1332) (p2 := 1331) (p3 := 97) (p4 := 90) (by decide +kernel)
/-! NeitherBareModel.thereOf(I)I (39, None) -/
abbrev md_X4_thereOf : xMd := (cX4_thereOf, RX4, 4, some .int, 1)
def f_X4_thereOf_L89 (N : Nat) (u : xN) (rec4 : Int32 → Int32 → Int32 → Option Int32) (v1 : Int32) (v3 : Int32) (t0 : Int32) (t1 : Int32) : Option Int32 := rec4 v1 (t1 + t0) (v3 + (1 : Int32))
set_option maxRecDepth 20000 in
theorem go_X4_thereOf_L89 (N : Nat) (u : xN) (rec4 : Int32 → Int32 → Int32 → Option Int32) (h4 : ∀ (v1 : Int32) (v2 : Int32) (v3 : Int32), xGm md_X4_thereOf (rsI (xU u)) (rec4 v1 v2 v3) 4 [(0, .ref 39), (1, .int v1), (2, .int v2), (3, .int v3)] [] (xU u)) (v1 : Int32) (v3 : Int32) (t0 : Int32) (t1 : Int32) : xGm md_X4_thereOf (rsI (xU u)) (f_X4_thereOf_L89 N u rec4 v1 v3 t0 t1) 89 [(0, .ref 39), (1, .int v1), (3, .int v3)] [.int t0, .int t1] (xU u) := by
  unfold f_X4_thereOf_L89
  refine xm_blk0 (pc' := 94) (lv' := [(0, .ref 39), (1, .int v1), (2, .int (t1 + t0)), (3, .int (v3 + (1 : Int32)))]) (st' := []) (u' := (xU u)) [(.iadd, (0, 0, 0), 0, 0), (.istore_n 2, (0, 0, 0), 0, 0), (.iinc 3 1, (0, 0, 0), 1, 0)] (by decide +kernel) rfl ?_
  refine xm_goto (pc := 94) (off := -90) (tgt := 4) (by decide +kernel) (by decide) ?_
  exact h4 v1 (t1 + t0) (v3 + (1 : Int32))
def f_X4_thereOf_L58 (N : Nat) (u : xN) (rec4 : Int32 → Int32 → Int32 → Option Int32) (v1 : Int32) (v3 : Int32) (t0 : Int32) : Option Int32 := f_X4_thereOf_L89 N u rec4 v1 v3 (0 : Int32) t0
set_option maxRecDepth 20000 in
theorem go_X4_thereOf_L58 (N : Nat) (u : xN) (rec4 : Int32 → Int32 → Int32 → Option Int32) (h4 : ∀ (v1 : Int32) (v2 : Int32) (v3 : Int32), xGm md_X4_thereOf (rsI (xU u)) (rec4 v1 v2 v3) 4 [(0, .ref 39), (1, .int v1), (2, .int v2), (3, .int v3)] [] (xU u)) (v1 : Int32) (v3 : Int32) (t0 : Int32) : xGm md_X4_thereOf (rsI (xU u)) (f_X4_thereOf_L58 N u rec4 v1 v3 t0) 58 [(0, .ref 39), (1, .int v1), (3, .int v3)] [.int t0] (xU u) := by
  unfold f_X4_thereOf_L58
  refine xm_blk0 (pc' := 59) (lv' := [(0, .ref 39), (1, .int v1), (3, .int v3)]) (st' := [.int (0 : Int32), .int t0]) (u' := (xU u)) [(.iconst 0, (0, 0, 0), 0, 0)] (by decide +kernel) rfl ?_
  refine xm_goto (pc := 59) (off := 30) (tgt := 89) (by decide +kernel) (by decide) ?_
  exact go_X4_thereOf_L89 N u rec4 h4 v1 v3 (0 : Int32) t0
def f_X4_thereOf_L88 (N : Nat) (u : xN) (rec4 : Int32 → Int32 → Int32 → Option Int32) (v1 : Int32) (v3 : Int32) (t0 : Int32) : Option Int32 := f_X4_thereOf_L89 N u rec4 v1 v3 (0 : Int32) t0
set_option maxRecDepth 20000 in
theorem go_X4_thereOf_L88 (N : Nat) (u : xN) (rec4 : Int32 → Int32 → Int32 → Option Int32) (h4 : ∀ (v1 : Int32) (v2 : Int32) (v3 : Int32), xGm md_X4_thereOf (rsI (xU u)) (rec4 v1 v2 v3) 4 [(0, .ref 39), (1, .int v1), (2, .int v2), (3, .int v3)] [] (xU u)) (v1 : Int32) (v3 : Int32) (t0 : Int32) : xGm md_X4_thereOf (rsI (xU u)) (f_X4_thereOf_L88 N u rec4 v1 v3 t0) 88 [(0, .ref 39), (1, .int v1), (3, .int v3)] [.int t0] (xU u) := by
  unfold f_X4_thereOf_L88
  refine xm_blk0 (pc' := 89) (lv' := [(0, .ref 39), (1, .int v1), (3, .int v3)]) (st' := [.int (0 : Int32), .int t0]) (u' := (xU u)) [(.iconst 0, (0, 0, 0), 0, 0)] (by decide +kernel) rfl ?_
  exact go_X4_thereOf_L89 N u rec4 h4 v1 v3 (0 : Int32) t0
def f_X4_thereOf_L4b (N : Nat) (u : xN) (rec4 : Int32 → Int32 → Int32 → Option Int32) (v1 : Int32) (v2 : Int32) (v3 : Int32) : Option Int32 := if (6 : Int32) ≤ v3 then some v2 else if v1 = (6 : Int32) then (gdl [inb v3 6] (if (0 : Int32) ≤ (u.1 45 (Int32.toNatClampNeg v3)) then f_X4_thereOf_L89 N u rec4 v1 v3 (1 : Int32) v2 else f_X4_thereOf_L89 N u rec4 v1 v3 (0 : Int32) v2)) else if v1 = (7 : Int32) then (if (4 : Int32) ≤ v3 then f_X4_thereOf_L58 N u rec4 v1 v3 v2 else gdl [inb v3 4] (if (u.1 47 (Int32.toNatClampNeg v3)) < (0 : Int32) then f_X4_thereOf_L58 N u rec4 v1 v3 v2 else f_X4_thereOf_L89 N u rec4 v1 v3 (1 : Int32) v2)) else if (3 : Int32) ≤ v3 then f_X4_thereOf_L88 N u rec4 v1 v3 v2 else gdl [inb (((370 : Int32) * ((1 : Int32) + v3)) + (0 : Int32)) 1480] (if (u.1 40 (Int32.toNatClampNeg (((370 : Int32) * ((1 : Int32) + v3)) + (0 : Int32)))) < (0 : Int32) then f_X4_thereOf_L88 N u rec4 v1 v3 v2 else f_X4_thereOf_L89 N u rec4 v1 v3 (1 : Int32) v2)
set_option maxRecDepth 20000 in
theorem go_X4_thereOf_L4b (N : Nat) (u : xN) (rec4 : Int32 → Int32 → Int32 → Option Int32) (h4 : ∀ (v1 : Int32) (v2 : Int32) (v3 : Int32), xGm md_X4_thereOf (rsI (xU u)) (rec4 v1 v2 v3) 4 [(0, .ref 39), (1, .int v1), (2, .int v2), (3, .int v3)] [] (xU u)) (v1 : Int32) (v2 : Int32) (v3 : Int32) : xGm md_X4_thereOf (rsI (xU u)) (f_X4_thereOf_L4b N u rec4 v1 v2 v3) 4 [(0, .ref 39), (1, .int v1), (2, .int v2), (3, .int v3)] [] (xU u) := by
  unfold f_X4_thereOf_L4b
  refine xm_blk0 (pc' := 7) (lv' := [(0, .ref 39), (1, .int v1), (2, .int v2), (3, .int v3)]) (st' := [.int (6 : Int32), .int v3]) (u' := (xU u)) [(.iload_n 3, (0, 0, 0), 0, 0), (.bipush 6, (0, 0, 0), 6, 0)] (by decide +kernel) rfl ?_
  refine xm_icmp_ge (pc := 7) (off := 90) (tgt := 97) (by decide +kernel) (by decide) ?_ ?_
  · refine xm_blk0 (pc' := 98) (lv' := [(0, .ref 39), (1, .int v1), (2, .int v2), (3, .int v3)]) (st' := [.int v2]) (u' := (xU u)) [(.iload_n 2, (0, 0, 0), 0, 0)] (by decide +kernel) rfl ?_
    exact xm_iret (pc := 98) (by decide +kernel) rfl rfl
  · refine xm_blk0 (pc' := 14) (lv' := [(0, .ref 39), (1, .int v1), (2, .int v2), (3, .int v3)]) (st' := [.int (6 : Int32), .int v1, .int v2]) (u' := (xU u)) [(.iload_n 2, (0, 0, 0), 0, 0), (.iload_n 1, (0, 0, 0), 0, 0), (.bipush 6, (0, 0, 0), 6, 0)] (by decide +kernel) rfl ?_
    refine xm_icmp_ne (pc := 14) (off := 20) (tgt := 34) (by decide +kernel) (by decide) ?_ ?_
    · refine xm_blk0 (pc' := 37) (lv' := [(0, .ref 39), (1, .int v1), (2, .int v2), (3, .int v3)]) (st' := [.int (7 : Int32), .int v1, .int v2]) (u' := (xU u)) [(.iload_n 1, (0, 0, 0), 0, 0), (.bipush 7, (0, 0, 0), 7, 0)] (by decide +kernel) rfl ?_
      refine xm_icmp_ne (pc := 37) (off := 25) (tgt := 62) (by decide +kernel) (by decide) ?_ ?_
      · refine xm_blk0 (pc' := 64) (lv' := [(0, .ref 39), (1, .int v1), (2, .int v2), (3, .int v3)]) (st' := [.int (3 : Int32), .int v3, .int v2]) (u' := (xU u)) [(.iload_n 3, (0, 0, 0), 0, 0), (.iconst 3, (0, 0, 0), 3, 0)] (by decide +kernel) rfl ?_
        refine xm_icmp_ge (pc := 64) (off := 24) (tgt := 88) (by decide +kernel) (by decide) ?_ ?_
        · refine xm_wk [0, 1, 3] (lv' := [(0, .ref 39), (1, .int v1), (3, .int v3)]) rfl ?_
          exact go_X4_thereOf_L88 N u rec4 h4 v1 v3 v2
        · refine xm_blk (bs := [inb (((370 : Int32) * ((1 : Int32) + v3)) + (0 : Int32)) 1480]) (pc' := 81) (lv' := [(0, .ref 39), (1, .int v1), (2, .int v2), (3, .int v3)]) (st' := [.int (u.1 40 (Int32.toNatClampNeg (((370 : Int32) * ((1 : Int32) + v3)) + (0 : Int32)))), .int v2]) (u' := (xU u)) [(.aload_n 0, (0, 0, 0), 0, 0), (.getfield 7, (4, 0, 820), 0, 0), (.sipush 370, (0, 0, 0), 370, 0), (.iconst 1, (0, 0, 0), 1, 0), (.iload_n 3, (0, 0, 0), 0, 0), (.iadd, (0, 0, 0), 0, 0), (.imul, (0, 0, 0), 0, 0), (.iconst 0, (0, 0, 0), 0, 0), (.iadd, (0, 0, 0), 0, 0), (.iaload, (0, 0, 0), 0, 0)] (by decide +kernel) rfl ?_
          refine xm_if_lt (pc := 81) (off := 7) (tgt := 88) (by decide +kernel) (by decide) ?_ ?_
          · refine xm_wk [0, 1, 3] (lv' := [(0, .ref 39), (1, .int v1), (3, .int v3)]) rfl ?_
            exact go_X4_thereOf_L88 N u rec4 h4 v1 v3 v2
          · refine xm_blk0 (pc' := 85) (lv' := [(0, .ref 39), (1, .int v1), (2, .int v2), (3, .int v3)]) (st' := [.int (1 : Int32), .int v2]) (u' := (xU u)) [(.iconst 1, (0, 0, 0), 1, 0)] (by decide +kernel) rfl ?_
            refine xm_goto (pc := 85) (off := 4) (tgt := 89) (by decide +kernel) (by decide) ?_
            refine xm_wk [0, 1, 3] (lv' := [(0, .ref 39), (1, .int v1), (3, .int v3)]) rfl ?_
            exact go_X4_thereOf_L89 N u rec4 h4 v1 v3 (1 : Int32) v2
      · refine xm_blk0 (pc' := 42) (lv' := [(0, .ref 39), (1, .int v1), (2, .int v2), (3, .int v3)]) (st' := [.int (4 : Int32), .int v3, .int v2]) (u' := (xU u)) [(.iload_n 3, (0, 0, 0), 0, 0), (.iconst 4, (0, 0, 0), 4, 0)] (by decide +kernel) rfl ?_
        refine xm_icmp_ge (pc := 42) (off := 16) (tgt := 58) (by decide +kernel) (by decide) ?_ ?_
        · refine xm_wk [0, 1, 3] (lv' := [(0, .ref 39), (1, .int v1), (3, .int v3)]) rfl ?_
          exact go_X4_thereOf_L58 N u rec4 h4 v1 v3 v2
        · refine xm_blk (bs := [inb v3 4]) (pc' := 51) (lv' := [(0, .ref 39), (1, .int v1), (2, .int v2), (3, .int v3)]) (st' := [.int (u.1 47 (Int32.toNatClampNeg v3)), .int v2]) (u' := (xU u)) [(.aload_n 0, (0, 0, 0), 0, 0), (.getfield 31, (4, 9, 829), 0, 0), (.iload_n 3, (0, 0, 0), 0, 0), (.iaload, (0, 0, 0), 0, 0)] (by decide +kernel) rfl ?_
          refine xm_if_lt (pc := 51) (off := 7) (tgt := 58) (by decide +kernel) (by decide) ?_ ?_
          · refine xm_wk [0, 1, 3] (lv' := [(0, .ref 39), (1, .int v1), (3, .int v3)]) rfl ?_
            exact go_X4_thereOf_L58 N u rec4 h4 v1 v3 v2
          · refine xm_blk0 (pc' := 55) (lv' := [(0, .ref 39), (1, .int v1), (2, .int v2), (3, .int v3)]) (st' := [.int (1 : Int32), .int v2]) (u' := (xU u)) [(.iconst 1, (0, 0, 0), 1, 0)] (by decide +kernel) rfl ?_
            refine xm_goto (pc := 55) (off := 34) (tgt := 89) (by decide +kernel) (by decide) ?_
            refine xm_wk [0, 1, 3] (lv' := [(0, .ref 39), (1, .int v1), (3, .int v3)]) rfl ?_
            exact go_X4_thereOf_L89 N u rec4 h4 v1 v3 (1 : Int32) v2
    · refine xm_blk (bs := [inb v3 6]) (pc' := 23) (lv' := [(0, .ref 39), (1, .int v1), (2, .int v2), (3, .int v3)]) (st' := [.int (u.1 45 (Int32.toNatClampNeg v3)), .int v2]) (u' := (xU u)) [(.aload_n 0, (0, 0, 0), 0, 0), (.getfield 25, (4, 7, 827), 0, 0), (.iload_n 3, (0, 0, 0), 0, 0), (.iaload, (0, 0, 0), 0, 0)] (by decide +kernel) rfl ?_
      refine xm_if_ge (pc := 23) (off := 7) (tgt := 30) (by decide +kernel) (by decide) ?_ ?_
      · refine xm_blk0 (pc' := 31) (lv' := [(0, .ref 39), (1, .int v1), (2, .int v2), (3, .int v3)]) (st' := [.int (1 : Int32), .int v2]) (u' := (xU u)) [(.iconst 1, (0, 0, 0), 1, 0)] (by decide +kernel) rfl ?_
        refine xm_goto (pc := 31) (off := 58) (tgt := 89) (by decide +kernel) (by decide) ?_
        refine xm_wk [0, 1, 3] (lv' := [(0, .ref 39), (1, .int v1), (3, .int v3)]) rfl ?_
        exact go_X4_thereOf_L89 N u rec4 h4 v1 v3 (1 : Int32) v2
      · refine xm_blk0 (pc' := 27) (lv' := [(0, .ref 39), (1, .int v1), (2, .int v2), (3, .int v3)]) (st' := [.int (0 : Int32), .int v2]) (u' := (xU u)) [(.iconst 0, (0, 0, 0), 0, 0)] (by decide +kernel) rfl ?_
        refine xm_goto (pc := 27) (off := 62) (tgt := 89) (by decide +kernel) (by decide) ?_
        refine xm_wk [0, 1, 3] (lv' := [(0, .ref 39), (1, .int v1), (3, .int v3)]) rfl ?_
        exact go_X4_thereOf_L89 N u rec4 h4 v1 v3 (0 : Int32) v2
def f_X4_thereOf_L4 (N : Nat) (u : xN) : Nat → Int32 → Int32 → Int32 → Option Int32
  | 0 => fun _ _ _ => none
  | n + 1 => fun v1 v2 v3 => f_X4_thereOf_L4b N u (f_X4_thereOf_L4 N u n) v1 v2 v3
theorem go_X4_thereOf_L4 (N : Nat) (u : xN) : ∀ (n : Nat) (v1 : Int32) (v2 : Int32) (v3 : Int32), xGm md_X4_thereOf (rsI (xU u)) (f_X4_thereOf_L4 N u n v1 v2 v3) 4 [(0, .ref 39), (1, .int v1), (2, .int v2), (3, .int v3)] [] (xU u) := by
  intro n
  induction n with
  | zero => intro v1 v2 v3; exact xm_none
  | succ n ih => intro v1 v2 v3; exact go_X4_thereOf_L4b N u _ ih v1 v2 v3
def f_X4_thereOf (N : Nat) (a1 : Int32) (u : xN) : Option Int32 := f_X4_thereOf_L4 N u N a1 (0 : Int32) (0 : Int32)
set_option maxRecDepth 20000 in
theorem go_X4_thereOf (N : Nat) (a1 : Int32) (u : xN) : xGm md_X4_thereOf (rsI (xU u)) (f_X4_thereOf N a1 u) 0 [(0, .ref 39), (1, .int a1)] [] (xU u) := by
  unfold f_X4_thereOf
  refine xm_blk0 (pc' := 4) (lv' := [(0, .ref 39), (1, .int a1), (2, .int (0 : Int32)), (3, .int (0 : Int32))]) (st' := []) (u' := (xU u)) [(.iconst 0, (0, 0, 0), 0, 0), (.istore_n 2, (0, 0, 0), 0, 0), (.iconst 0, (0, 0, 0), 0, 0), (.istore_n 3, (0, 0, 0), 0, 0)] (by decide +kernel) rfl ?_
  exact go_X4_thereOf_L4 N u N a1 (0 : Int32) (0 : Int32)
theorem ev_X4_thereOf (N : Nat) (a1 : Int32) (u : xN) : ∀ r, f_X4_thereOf N a1 u = some r → xEm md_X4_thereOf yX4_thereOf [.ref 39, .int a1] (xU u) (some (.int r), (xU u)) := xm_met (res := (rsI (xU u))) (as := [.ref 39, .int a1]) (go_X4_thereOf N a1 u) (by decide) rfl (Nat.le_of_ble_eq_true rfl)
theorem mw_X4_kindMany : xMv yX4_kindMany cX4_kindMany 4 (some .int) 1 := xMv_of (p1 := 1328) (p2 := 1327) (p3 := 97) (p4 := 89) (by decide +kernel)
/-! NeitherBareModel.kindMany(I)I (39, None) -/
abbrev md_X4_kindMany : xMd := (cX4_kindMany, RX4, 4, some .int, 2)
def f_X4_kindMany_L27 (N : Nat) (u : xN) (rec4 : Int32 → Int32 → Int32 → Option Int32) (v1 : Int32) (v3 : Int32) (t0 : Int32) (t1 : Int32) : Option Int32 := rec4 v1 (t1 + t0) (v3 + (1 : Int32))
set_option maxRecDepth 20000 in
theorem go_X4_kindMany_L27 (N : Nat) (u : xN) (rec4 : Int32 → Int32 → Int32 → Option Int32) (h4 : ∀ (v1 : Int32) (v2 : Int32) (v3 : Int32), xGm md_X4_kindMany (rsI (xU u)) (rec4 v1 v2 v3) 4 [(0, .ref 39), (1, .int v1), (2, .int v2), (3, .int v3)] [] (xU u)) (v1 : Int32) (v3 : Int32) (t0 : Int32) (t1 : Int32) : xGm md_X4_kindMany (rsI (xU u)) (f_X4_kindMany_L27 N u rec4 v1 v3 t0 t1) 27 [(0, .ref 39), (1, .int v1), (3, .int v3)] [.int t0, .int t1] (xU u) := by
  unfold f_X4_kindMany_L27
  refine xm_blk0 (pc' := 32) (lv' := [(0, .ref 39), (1, .int v1), (2, .int (t1 + t0)), (3, .int (v3 + (1 : Int32)))]) (st' := []) (u' := (xU u)) [(.iadd, (0, 0, 0), 0, 0), (.istore_n 2, (0, 0, 0), 0, 0), (.iinc 3 1, (0, 0, 0), 1, 0)] (by decide +kernel) rfl ?_
  refine xm_goto (pc := 32) (off := -28) (tgt := 4) (by decide +kernel) (by decide) ?_
  exact h4 v1 (t1 + t0) (v3 + (1 : Int32))
def f_X4_kindMany_L4b (N : Nat) (u : xN) (rec4 : Int32 → Int32 → Int32 → Option Int32) (v1 : Int32) (v2 : Int32) (v3 : Int32) : Option Int32 := if (u.1 39 3) ≤ v3 then some v2 else Option.bind (f_X4_isOf v3 v1 u) (fun r16 => if r16 = (0 : Int32) then f_X4_kindMany_L27 N u rec4 v1 v3 (0 : Int32) v2 else f_X4_kindMany_L27 N u rec4 v1 v3 (1 : Int32) v2)
set_option maxRecDepth 20000 in
theorem go_X4_kindMany_L4b (N : Nat) (u : xN) (rec4 : Int32 → Int32 → Int32 → Option Int32) (h4 : ∀ (v1 : Int32) (v2 : Int32) (v3 : Int32), xGm md_X4_kindMany (rsI (xU u)) (rec4 v1 v2 v3) 4 [(0, .ref 39), (1, .int v1), (2, .int v2), (3, .int v3)] [] (xU u)) (v1 : Int32) (v2 : Int32) (v3 : Int32) : xGm md_X4_kindMany (rsI (xU u)) (f_X4_kindMany_L4b N u rec4 v1 v2 v3) 4 [(0, .ref 39), (1, .int v1), (2, .int v2), (3, .int v3)] [] (xU u) := by
  unfold f_X4_kindMany_L4b
  refine xm_blk0 (pc' := 9) (lv' := [(0, .ref 39), (1, .int v1), (2, .int v2), (3, .int v3)]) (st' := [.int (u.1 39 3), .int v3]) (u' := (xU u)) [(.iload_n 3, (0, 0, 0), 0, 0), (.aload_n 0, (0, 0, 0), 0, 0), (.getfield 60, (4, 3, 823), 0, 0)] (by decide +kernel) rfl ?_
  refine xm_icmp_ge (pc := 9) (off := 26) (tgt := 35) (by decide +kernel) (by decide) ?_ ?_
  · refine xm_blk0 (pc' := 36) (lv' := [(0, .ref 39), (1, .int v1), (2, .int v2), (3, .int v3)]) (st' := [.int v2]) (u' := (xU u)) [(.iload_n 2, (0, 0, 0), 0, 0)] (by decide +kernel) rfl ?_
    exact xm_iret (pc := 36) (by decide +kernel) rfl rfl
  · refine xm_blk0 (pc' := 16) (lv' := [(0, .ref 39), (1, .int v1), (2, .int v2), (3, .int v3)]) (st' := [.int v1, .int v3, .ref 39, .int v2]) (u' := (xU u)) [(.iload_n 2, (0, 0, 0), 0, 0), (.aload_n 0, (0, 0, 0), 0, 0), (.iload_n 3, (0, 0, 0), 0, 0), (.iload_n 1, (0, 0, 0), 0, 0)] (by decide +kernel) rfl ?_
    refine xm_Vi (pc := 16) (mz := md_X4_isOf) (idx := 200) (p1 := 1063) (a := 39) (as := [.int v3, .int v1]) (st := [.int v2]) (ev_X4_isOf v3 v1 u) mw_X4_isOf (by decide +kernel) (by decide +kernel) (by decide) rfl rfl (by decide) rfl (Nat.le_of_ble_eq_true rfl) (fun r16 => ?_)
    refine xm_if_eq (pc := 19) (off := 7) (tgt := 26) (by decide +kernel) (by decide) ?_ ?_
    · refine xm_blk0 (pc' := 27) (lv' := [(0, .ref 39), (1, .int v1), (2, .int v2), (3, .int v3)]) (st' := [.int (0 : Int32), .int v2]) (u' := (xU u)) [(.iconst 0, (0, 0, 0), 0, 0)] (by decide +kernel) rfl ?_
      refine xm_wk [0, 1, 3] (lv' := [(0, .ref 39), (1, .int v1), (3, .int v3)]) rfl ?_
      exact go_X4_kindMany_L27 N u rec4 h4 v1 v3 (0 : Int32) v2
    · refine xm_blk0 (pc' := 23) (lv' := [(0, .ref 39), (1, .int v1), (2, .int v2), (3, .int v3)]) (st' := [.int (1 : Int32), .int v2]) (u' := (xU u)) [(.iconst 1, (0, 0, 0), 1, 0)] (by decide +kernel) rfl ?_
      refine xm_goto (pc := 23) (off := 4) (tgt := 27) (by decide +kernel) (by decide) ?_
      refine xm_wk [0, 1, 3] (lv' := [(0, .ref 39), (1, .int v1), (3, .int v3)]) rfl ?_
      exact go_X4_kindMany_L27 N u rec4 h4 v1 v3 (1 : Int32) v2
def f_X4_kindMany_L4 (N : Nat) (u : xN) : Nat → Int32 → Int32 → Int32 → Option Int32
  | 0 => fun _ _ _ => none
  | n + 1 => fun v1 v2 v3 => f_X4_kindMany_L4b N u (f_X4_kindMany_L4 N u n) v1 v2 v3
theorem go_X4_kindMany_L4 (N : Nat) (u : xN) : ∀ (n : Nat) (v1 : Int32) (v2 : Int32) (v3 : Int32), xGm md_X4_kindMany (rsI (xU u)) (f_X4_kindMany_L4 N u n v1 v2 v3) 4 [(0, .ref 39), (1, .int v1), (2, .int v2), (3, .int v3)] [] (xU u) := by
  intro n
  induction n with
  | zero => intro v1 v2 v3; exact xm_none
  | succ n ih => intro v1 v2 v3; exact go_X4_kindMany_L4b N u _ ih v1 v2 v3
def f_X4_kindMany (N : Nat) (a1 : Int32) (u : xN) : Option Int32 := f_X4_kindMany_L4 N u N a1 (0 : Int32) (0 : Int32)
set_option maxRecDepth 20000 in
theorem go_X4_kindMany (N : Nat) (a1 : Int32) (u : xN) : xGm md_X4_kindMany (rsI (xU u)) (f_X4_kindMany N a1 u) 0 [(0, .ref 39), (1, .int a1)] [] (xU u) := by
  unfold f_X4_kindMany
  refine xm_blk0 (pc' := 4) (lv' := [(0, .ref 39), (1, .int a1), (2, .int (0 : Int32)), (3, .int (0 : Int32))]) (st' := []) (u' := (xU u)) [(.iconst 0, (0, 0, 0), 0, 0), (.istore_n 2, (0, 0, 0), 0, 0), (.iconst 0, (0, 0, 0), 0, 0), (.istore_n 3, (0, 0, 0), 0, 0)] (by decide +kernel) rfl ?_
  exact go_X4_kindMany_L4 N u N a1 (0 : Int32) (0 : Int32)
theorem ev_X4_kindMany (N : Nat) (a1 : Int32) (u : xN) : ∀ r, f_X4_kindMany N a1 u = some r → xEm md_X4_kindMany yX4_kindMany [.ref 39, .int a1] (xU u) (some (.int r), (xU u)) := xm_met (res := (rsI (xU u))) (as := [.ref 39, .int a1]) (go_X4_kindMany N a1 u) (by decide) rfl (Nat.le_of_ble_eq_true rfl)
theorem mw_X4_countOf : xMv yX4_countOf cX4_countOf 2 (some .int) 1 := xMv_of (p1 := 1324) (p2 := 1323) (p3 := 97) (p4 := 88) (by decide +kernel)
/-! NeitherBareModel.countOf(I)I (39, None) -/
abbrev md_X4_countOf : xMd := (cX4_countOf, RX4, 2, some .int, 3)
def f_X4_countOf (N : Nat) (a1 : Int32) (u : xN) : Option Int32 := if Int32.toInt a1 < 0 ∨ 5 < Int32.toInt a1 then (Option.bind (f_X4_thereOf N a1 u) (fun r81 => some r81)) else if a1 = (0 : Int32) then (some (u.1 39 1)) else if a1 = (1 : Int32) then (some (u.1 39 3)) else if a1 = (2 : Int32) then (gdl [inb (1 : Int32) 1480] (Option.bind (f_X4_bits N (u.1 40 (Int32.toNatClampNeg (1 : Int32)))) (fun r56 => some r56))) else if a1 = (3 : Int32) then (gdl [inb (0 : Int32) 1480] (some (u.1 40 (Int32.toNatClampNeg (0 : Int32))))) else if a1 = (4 : Int32) then (Option.bind (f_X4_kindMany N (1 : Int32) u) (fun r69 => some r69)) else if a1 = (5 : Int32) then (Option.bind (f_X4_kindMany N (2 : Int32) u) (fun r75 => some r75)) else none
set_option maxRecDepth 20000 in
theorem go_X4_countOf (N : Nat) (a1 : Int32) (u : xN) : xGm md_X4_countOf (rsI (xU u)) (f_X4_countOf N a1 u) 0 [(0, .ref 39), (1, .int a1)] [] (xU u) := by
  unfold f_X4_countOf
  refine xm_blk0 (pc' := 1) (lv' := [(0, .ref 39), (1, .int a1)]) (st' := [.int a1]) (u' := (xU u)) [(.iload_n 1, (0, 0, 0), 0, 0)] (by decide +kernel) rfl ?_
  refine xm_tout (pc := 1) (tgt := 79) (dflt := 78) (lo := 0) (hi := 5) (offs := #[39, 44, 49, 59, 66, 72]) (len := 39) (by decide +kernel) (by decide) ?_ ?_
  · refine xm_blk0 (pc' := 81) (lv' := [(0, .ref 39), (1, .int a1)]) (st' := [.int a1, .ref 39]) (u' := (xU u)) [(.aload_n 0, (0, 0, 0), 0, 0), (.iload_n 1, (0, 0, 0), 0, 0)] (by decide +kernel) rfl ?_
    refine xm_Vi (pc := 81) (mz := md_X4_thereOf) (idx := 303) (p1 := 1329) (a := 39) (as := [.int a1]) (st := []) (ev_X4_thereOf N a1 u) mw_X4_thereOf (by decide +kernel) (by decide +kernel) (by decide) rfl rfl (by decide) rfl (Nat.le_of_ble_eq_true rfl) (fun r81 => ?_)
    exact xm_iret (pc := 84) (by decide +kernel) rfl rfl
  · refine xm_tin (pc := 1) (tgt := 40) (off := 39) (dflt := 78) (lo := 0) (hi := 5) (offs := #[39, 44, 49, 59, 66, 72]) (len := 39) (0 : Int32) (by decide +kernel) (by decide) (by decide) (by decide) (by decide) ?_ ?_
    · refine xm_blk0 (pc' := 44) (lv' := [(0, .ref 39), (1, .int a1)]) (st' := [.int (u.1 39 1)]) (u' := (xU u)) [(.aload_n 0, (0, 0, 0), 0, 0), (.getfield 147, (4, 1, 821), 0, 0)] (by decide +kernel) rfl ?_
      exact xm_iret (pc := 44) (by decide +kernel) rfl rfl
    refine xm_tin (pc := 1) (tgt := 45) (off := 44) (dflt := 78) (lo := 0) (hi := 5) (offs := #[39, 44, 49, 59, 66, 72]) (len := 39) (1 : Int32) (by decide +kernel) (by decide) (by decide) (by decide) (by decide) ?_ ?_
    · refine xm_blk0 (pc' := 49) (lv' := [(0, .ref 39), (1, .int a1)]) (st' := [.int (u.1 39 3)]) (u' := (xU u)) [(.aload_n 0, (0, 0, 0), 0, 0), (.getfield 60, (4, 3, 823), 0, 0)] (by decide +kernel) rfl ?_
      exact xm_iret (pc := 49) (by decide +kernel) rfl rfl
    refine xm_tin (pc := 1) (tgt := 50) (off := 49) (dflt := 78) (lo := 0) (hi := 5) (offs := #[39, 44, 49, 59, 66, 72]) (len := 39) (2 : Int32) (by decide +kernel) (by decide) (by decide) (by decide) (by decide) ?_ ?_
    · refine xm_blk (bs := [inb (1 : Int32) 1480]) (pc' := 56) (lv' := [(0, .ref 39), (1, .int a1)]) (st' := [.int (u.1 40 (Int32.toNatClampNeg (1 : Int32)))]) (u' := (xU u)) [(.aload_n 0, (0, 0, 0), 0, 0), (.getfield 7, (4, 0, 820), 0, 0), (.iconst 1, (0, 0, 0), 1, 0), (.iaload, (0, 0, 0), 0, 0)] (by decide +kernel) rfl ?_
      refine xm_Si (pc := 56) (mz := md_X4_bits) (idx := 215) (p1 := 1090) (as := [.int (u.1 40 (Int32.toNatClampNeg (1 : Int32)))]) (st := []) (ev_X4_bits N (u.1 40 (Int32.toNatClampNeg (1 : Int32))) u) mw_X4_bits (by decide +kernel) (by decide +kernel) (by decide) rfl (Nat.le_of_ble_eq_true rfl) (fun r56 => ?_)
      exact xm_iret (pc := 59) (by decide +kernel) rfl rfl
    refine xm_tin (pc := 1) (tgt := 60) (off := 59) (dflt := 78) (lo := 0) (hi := 5) (offs := #[39, 44, 49, 59, 66, 72]) (len := 39) (3 : Int32) (by decide +kernel) (by decide) (by decide) (by decide) (by decide) ?_ ?_
    · refine xm_blk (bs := [inb (0 : Int32) 1480]) (pc' := 66) (lv' := [(0, .ref 39), (1, .int a1)]) (st' := [.int (u.1 40 (Int32.toNatClampNeg (0 : Int32)))]) (u' := (xU u)) [(.aload_n 0, (0, 0, 0), 0, 0), (.getfield 7, (4, 0, 820), 0, 0), (.iconst 0, (0, 0, 0), 0, 0), (.iaload, (0, 0, 0), 0, 0)] (by decide +kernel) rfl ?_
      exact xm_iret (pc := 66) (by decide +kernel) rfl rfl
    refine xm_tin (pc := 1) (tgt := 67) (off := 66) (dflt := 78) (lo := 0) (hi := 5) (offs := #[39, 44, 49, 59, 66, 72]) (len := 39) (4 : Int32) (by decide +kernel) (by decide) (by decide) (by decide) (by decide) ?_ ?_
    · refine xm_blk0 (pc' := 69) (lv' := [(0, .ref 39), (1, .int a1)]) (st' := [.int (1 : Int32), .ref 39]) (u' := (xU u)) [(.aload_n 0, (0, 0, 0), 0, 0), (.iconst 1, (0, 0, 0), 1, 0)] (by decide +kernel) rfl ?_
      refine xm_Vi (pc := 69) (mz := md_X4_kindMany) (idx := 300) (p1 := 1325) (a := 39) (as := [.int (1 : Int32)]) (st := []) (ev_X4_kindMany N (1 : Int32) u) mw_X4_kindMany (by decide +kernel) (by decide +kernel) (by decide) rfl rfl (by decide) rfl (Nat.le_of_ble_eq_true rfl) (fun r69 => ?_)
      exact xm_iret (pc := 72) (by decide +kernel) rfl rfl
    refine xm_tin (pc := 1) (tgt := 73) (off := 72) (dflt := 78) (lo := 0) (hi := 5) (offs := #[39, 44, 49, 59, 66, 72]) (len := 39) (5 : Int32) (by decide +kernel) (by decide) (by decide) (by decide) (by decide) ?_ ?_
    · refine xm_blk0 (pc' := 75) (lv' := [(0, .ref 39), (1, .int a1)]) (st' := [.int (2 : Int32), .ref 39]) (u' := (xU u)) [(.aload_n 0, (0, 0, 0), 0, 0), (.iconst 2, (0, 0, 0), 2, 0)] (by decide +kernel) rfl ?_
      refine xm_Vi (pc := 75) (mz := md_X4_kindMany) (idx := 300) (p1 := 1325) (a := 39) (as := [.int (2 : Int32)]) (st := []) (ev_X4_kindMany N (2 : Int32) u) mw_X4_kindMany (by decide +kernel) (by decide +kernel) (by decide) rfl rfl (by decide) rfl (Nat.le_of_ble_eq_true rfl) (fun r75 => ?_)
      exact xm_iret (pc := 78) (by decide +kernel) rfl rfl
    exact xm_none
theorem ev_X4_countOf (N : Nat) (a1 : Int32) (u : xN) : ∀ r, f_X4_countOf N a1 u = some r → xEm md_X4_countOf yX4_countOf [.ref 39, .int a1] (xU u) (some (.int r), (xU u)) := xm_met (res := (rsI (xU u))) (as := [.ref 39, .int a1]) (go_X4_countOf N a1 u) (by decide) rfl (Nat.le_of_ble_eq_true rfl)
theorem mw_X4_count : xMv yX4_count cX4_count 2 (some .int) 1 := xMv_of (p1 := 1319) (p2 := 1317) (p3 := 97) (p4 := 1318) (by decide +kernel)
/-! NeitherBareModel.count(I)I (39, None) -/
abbrev md_X4_count : xMd := (cX4_count, RX4, 2, some .int, 4)
def f_X4_count_L21 (N : Nat) (u : xN) (t0 : Int32) : Option Int32 := some t0
set_option maxRecDepth 20000 in
theorem go_X4_count_L21 (N : Nat) (u : xN) (t0 : Int32) : xGm md_X4_count (rsI (xU u)) (f_X4_count_L21 N u t0) 21 [] [.int t0] (xU u) := by
  unfold f_X4_count_L21
  exact xm_iret (pc := 21) (by decide +kernel) rfl rfl
def f_X4_count (N : Nat) (a1 : Int32) (u : xN) : Option Int32 := Option.bind (f_X4_in (Int32.toInt64 a1) (0 : Int64) (8 : Int64)) (fun r6 => if r6 = (0 : Int32) then f_X4_count_L21 N u (-1 : Int32) else Option.bind (f_X4_countOf N a1 u) (fun r14 => f_X4_count_L21 N u r14))
set_option maxRecDepth 20000 in
theorem go_X4_count (N : Nat) (a1 : Int32) (u : xN) : xGm md_X4_count (rsI (xU u)) (f_X4_count N a1 u) 0 [(0, .ref 39), (1, .int a1)] [] (xU u) := by
  unfold f_X4_count
  refine xm_blk0 (pc' := 6) (lv' := [(0, .ref 39), (1, .int a1)]) (st' := [.long (8 : Int64), .long (0 : Int64), .long (Int32.toInt64 a1)]) (u' := (xU u)) [(.iload_n 1, (0, 0, 0), 0, 0), (.i2l, (0, 0, 0), 0, 0), (.lconst 0, (0, 0, 0), 0, 0), (.ldc2_w 306, (0, 0, 1320), 0, 8)] (by decide +kernel) rfl ?_
  refine xm_Si (pc := 6) (mz := md_X4_in) (idx := 72) (p1 := 905) (as := [.long (Int32.toInt64 a1), .long (0 : Int64), .long (8 : Int64)]) (st := []) (ev_X4_in (Int32.toInt64 a1) (0 : Int64) (8 : Int64) u) mw_X4_in (by decide +kernel) (by decide +kernel) (by decide) rfl (Nat.le_of_ble_eq_true rfl) (fun r6 => ?_)
  refine xm_if_eq (pc := 9) (off := 11) (tgt := 20) (by decide +kernel) (by decide) ?_ ?_
  · refine xm_blk0 (pc' := 21) (lv' := [(0, .ref 39), (1, .int a1)]) (st' := [.int (-1 : Int32)]) (u' := (xU u)) [(.iconst (-1), (0, 0, 0), -1, 0)] (by decide +kernel) rfl ?_
    refine xm_wk [] (lv' := []) rfl ?_
    exact go_X4_count_L21 N u (-1 : Int32)
  · refine xm_blk0 (pc' := 14) (lv' := [(0, .ref 39), (1, .int a1)]) (st' := [.int a1, .ref 39]) (u' := (xU u)) [(.aload_n 0, (0, 0, 0), 0, 0), (.iload_n 1, (0, 0, 0), 0, 0)] (by decide +kernel) rfl ?_
    refine xm_Vi (pc := 14) (mz := md_X4_countOf) (idx := 308) (p1 := 1321) (a := 39) (as := [.int a1]) (st := []) (ev_X4_countOf N a1 u) mw_X4_countOf (by decide +kernel) (by decide +kernel) (by decide) rfl rfl (by decide) rfl (Nat.le_of_ble_eq_true rfl) (fun r14 => ?_)
    refine xm_goto (pc := 17) (off := 4) (tgt := 21) (by decide +kernel) (by decide) ?_
    refine xm_wk [] (lv' := []) rfl ?_
    exact go_X4_count_L21 N u r14
theorem ev_X4_count (N : Nat) (a1 : Int32) (u : xN) : ∀ r, f_X4_count N a1 u = some r → xEm md_X4_count yX4_count [.ref 39, .int a1] (xU u) (some (.int r), (xU u)) := xm_met (res := (rsI (xU u))) (as := [.ref 39, .int a1]) (go_X4_count N a1 u) (by decide) rfl (Nat.le_of_ble_eq_true rfl)
theorem mw_X4_finding : xMv yX4_finding cX4_finding 1 (some .int) 0 := xMv_of (p1 := 1336) (p2 := 1334) (p3 := 97) (p4 := 1335) (by decide +kernel)
/-! NeitherBareModel.finding()I (39,) -/
abbrev md_X4_finding : xMd := (cX4_finding, RX4, 1, some .int, 1)
def f_X4_finding (u : xN) : Option Int32 := some (u.1 39 14)
set_option maxRecDepth 20000 in
theorem go_X4_finding (u : xN) : xGm md_X4_finding (rsI (xU u)) (f_X4_finding u) 0 [(0, .ref 39)] [] (xU u) := by
  unfold f_X4_finding
  refine xm_blk0 (pc' := 4) (lv' := [(0, .ref 39)]) (st' := [.int (u.1 39 14)]) (u' := (xU u)) [(.aload_n 0, (0, 0, 0), 0, 0), (.getfield 64, (4, 14, 834), 0, 0)] (by decide +kernel) rfl ?_
  exact xm_iret (pc := 4) (by decide +kernel) rfl rfl
theorem ev_X4_finding (u : xN) : ∀ r, f_X4_finding u = some r → xEm md_X4_finding yX4_finding [.ref 39] (xU u) (some (.int r), (xU u)) := xm_met (res := (rsI (xU u))) (as := [.ref 39]) (go_X4_finding u) (by decide) rfl (Nat.le_of_ble_eq_true rfl)
theorem mw_X4_findings : xMv yX4_findings cX4_findings 2 (some .int) 1 := xMv_of (p1 := 1340) (p2 := 1338) (p3 := 97) (p4 := 1339) (by decide +kernel)
/-! NeitherBareModel.findings(I)I (39, None) -/
abbrev md_X4_findings : xMd := (cX4_findings, RX4, 2, some .int, 2)
def f_X4_findings_L22 (u : xN) (t0 : Int32) : Option Int32 := some t0
set_option maxRecDepth 20000 in
theorem go_X4_findings_L22 (u : xN) (t0 : Int32) : xGm md_X4_findings (rsI (xU u)) (f_X4_findings_L22 u t0) 22 [] [.int t0] (xU u) := by
  unfold f_X4_findings_L22
  exact xm_iret (pc := 22) (by decide +kernel) rfl rfl
def f_X4_findings (a1 : Int32) (u : xN) : Option Int32 := Option.bind (f_X4_in (Int32.toInt64 a1) (1 : Int64) (5 : Int64)) (fun r6 => if r6 = (0 : Int32) then f_X4_findings_L22 u (-1 : Int32) else gdl [inb a1 6] (f_X4_findings_L22 u (u.1 49 (Int32.toNatClampNeg a1))))
set_option maxRecDepth 20000 in
theorem go_X4_findings (a1 : Int32) (u : xN) : xGm md_X4_findings (rsI (xU u)) (f_X4_findings a1 u) 0 [(0, .ref 39), (1, .int a1)] [] (xU u) := by
  unfold f_X4_findings
  refine xm_blk0 (pc' := 6) (lv' := [(0, .ref 39), (1, .int a1)]) (st' := [.long (5 : Int64), .long (1 : Int64), .long (Int32.toInt64 a1)]) (u' := (xU u)) [(.iload_n 1, (0, 0, 0), 0, 0), (.i2l, (0, 0, 0), 0, 0), (.lconst 1, (0, 0, 0), 0, 1), (.ldc2_w 70, (0, 0, 904), 0, 5)] (by decide +kernel) rfl ?_
  refine xm_Si (pc := 6) (mz := md_X4_in) (idx := 72) (p1 := 905) (as := [.long (Int32.toInt64 a1), .long (1 : Int64), .long (5 : Int64)]) (st := []) (ev_X4_in (Int32.toInt64 a1) (1 : Int64) (5 : Int64) u) mw_X4_in (by decide +kernel) (by decide +kernel) (by decide) rfl (Nat.le_of_ble_eq_true rfl) (fun r6 => ?_)
  refine xm_if_eq (pc := 9) (off := 12) (tgt := 21) (by decide +kernel) (by decide) ?_ ?_
  · refine xm_blk0 (pc' := 22) (lv' := [(0, .ref 39), (1, .int a1)]) (st' := [.int (-1 : Int32)]) (u' := (xU u)) [(.iconst (-1), (0, 0, 0), -1, 0)] (by decide +kernel) rfl ?_
    refine xm_wk [] (lv' := []) rfl ?_
    exact go_X4_findings_L22 u (-1 : Int32)
  · refine xm_blk (bs := [inb a1 6]) (pc' := 18) (lv' := [(0, .ref 39), (1, .int a1)]) (st' := [.int (u.1 49 (Int32.toNatClampNeg a1))]) (u' := (xU u)) [(.aload_n 0, (0, 0, 0), 0, 0), (.getfield 41, (4, 15, 835), 0, 0), (.iload_n 1, (0, 0, 0), 0, 0), (.iaload, (0, 0, 0), 0, 0)] (by decide +kernel) rfl ?_
    refine xm_goto (pc := 18) (off := 4) (tgt := 22) (by decide +kernel) (by decide) ?_
    refine xm_wk [] (lv' := []) rfl ?_
    exact go_X4_findings_L22 u (u.1 49 (Int32.toNatClampNeg a1))
theorem ev_X4_findings (a1 : Int32) (u : xN) : ∀ r, f_X4_findings a1 u = some r → xEm md_X4_findings yX4_findings [.ref 39, .int a1] (xU u) (some (.int r), (xU u)) := xm_met (res := (rsI (xU u))) (as := [.ref 39, .int a1]) (go_X4_findings a1 u) (by decide) rfl (Nat.le_of_ble_eq_true rfl)
theorem mw_X4_digest : xMv yX4_digest cX4_digest 5 (some .long) 0 := xMv_of (p1 := 1344) (p2 := 1342) (p3 := 97) (p4 := 1343) (by decide +kernel)
/-! NeitherBareModel.digest()J (39,) -/
abbrev md_X4_digest : xMd := (cX4_digest, RX4, 5, some .long, 7)
def f_X4_digest_L187b (N : Nat) (u : xN) (rec164 : Int64 → Int32 → Option Int64) (rec187 : Int64 → Int32 → Int32 → Option Int64) (v1 : Int64) (v3 : Int32) (v4 : Int32) : Option Int64 := gdl [inb v3 6] (if (u.1 45 (Int32.toNatClampNeg v3)) ≤ v4 then rec164 v1 (v3 + (1 : Int32)) else gdl [inb (((40 : Int32) * v3) + v4) 240] (rec187 (((31 : Int64) * v1) + (Int32.toInt64 (u.1 46 (Int32.toNatClampNeg (((40 : Int32) * v3) + v4))))) v3 (v4 + (1 : Int32))))
set_option maxRecDepth 20000 in
theorem go_X4_digest_L187b (N : Nat) (u : xN) (rec164 : Int64 → Int32 → Option Int64) (h164 : ∀ (v1 : Int64) (v3 : Int32), xGm md_X4_digest (rsL (xU u)) (rec164 v1 v3) 164 [(0, .ref 39), (1, .long v1), (3, .int v3)] [] (xU u)) (rec187 : Int64 → Int32 → Int32 → Option Int64) (h187 : ∀ (v1 : Int64) (v3 : Int32) (v4 : Int32), xGm md_X4_digest (rsL (xU u)) (rec187 v1 v3 v4) 187 [(0, .ref 39), (1, .long v1), (3, .int v3), (4, .int v4)] [] (xU u)) (v1 : Int64) (v3 : Int32) (v4 : Int32) : xGm md_X4_digest (rsL (xU u)) (f_X4_digest_L187b N u rec164 rec187 v1 v3 v4) 187 [(0, .ref 39), (1, .long v1), (3, .int v3), (4, .int v4)] [] (xU u) := by
  unfold f_X4_digest_L187b
  refine xm_blk (bs := [inb v3 6]) (pc' := 195) (lv' := [(0, .ref 39), (1, .long v1), (3, .int v3), (4, .int v4)]) (st' := [.int (u.1 45 (Int32.toNatClampNeg v3)), .int v4]) (u' := (xU u)) [(.iload 4, (0, 0, 0), 0, 0), (.aload_n 0, (0, 0, 0), 0, 0), (.getfield 25, (4, 7, 827), 0, 0), (.iload_n 3, (0, 0, 0), 0, 0), (.iaload, (0, 0, 0), 0, 0)] (by decide +kernel) rfl ?_
  refine xm_icmp_ge (pc := 195) (off := 29) (tgt := 224) (by decide +kernel) (by decide) ?_ ?_
  · refine xm_blk0 (pc' := 227) (lv' := [(0, .ref 39), (1, .long v1), (3, .int (v3 + (1 : Int32))), (4, .int v4)]) (st' := []) (u' := (xU u)) [(.iinc 3 1, (0, 0, 0), 1, 0)] (by decide +kernel) rfl ?_
    refine xm_goto (pc := 227) (off := -63) (tgt := 164) (by decide +kernel) (by decide) ?_
    refine xm_wk [0, 1, 2] (lv' := [(0, .ref 39), (1, .long v1), (3, .int (v3 + (1 : Int32)))]) rfl ?_
    exact h164 v1 (v3 + (1 : Int32))
  · refine xm_blk (bs := [inb (((40 : Int32) * v3) + v4) 240]) (pc' := 221) (lv' := [(0, .ref 39), (1, .long (((31 : Int64) * v1) + (Int32.toInt64 (u.1 46 (Int32.toNatClampNeg (((40 : Int32) * v3) + v4)))))), (3, .int v3), (4, .int (v4 + (1 : Int32)))]) (st' := []) (u' := (xU u)) [(.ldc2_w 313, (0, 0, 1346), 0, 31), (.lload_n 1, (0, 0, 0), 0, 0), (.lmul, (0, 0, 0), 0, 0), (.aload_n 0, (0, 0, 0), 0, 0), (.getfield 28, (4, 8, 828), 0, 0), (.bipush 40, (0, 0, 0), 40, 0), (.iload_n 3, (0, 0, 0), 0, 0), (.imul, (0, 0, 0), 0, 0), (.iload 4, (0, 0, 0), 0, 0), (.iadd, (0, 0, 0), 0, 0), (.iaload, (0, 0, 0), 0, 0), (.i2l, (0, 0, 0), 0, 0), (.ladd, (0, 0, 0), 0, 0), (.lstore_n 1, (0, 0, 0), 0, 0), (.iinc 4 1, (0, 0, 0), 1, 0)] (by decide +kernel) rfl ?_
    refine xm_goto (pc := 221) (off := -34) (tgt := 187) (by decide +kernel) (by decide) ?_
    exact h187 (((31 : Int64) * v1) + (Int32.toInt64 (u.1 46 (Int32.toNatClampNeg (((40 : Int32) * v3) + v4))))) v3 (v4 + (1 : Int32))
def f_X4_digest_L187 (N : Nat) (u : xN) (rec164 : Int64 → Int32 → Option Int64) : Nat → Int64 → Int32 → Int32 → Option Int64
  | 0 => fun _ _ _ => none
  | n + 1 => fun v1 v3 v4 => f_X4_digest_L187b N u rec164 (f_X4_digest_L187 N u rec164 n) v1 v3 v4
theorem go_X4_digest_L187 (N : Nat) (u : xN) (rec164 : Int64 → Int32 → Option Int64) (h164 : ∀ (v1 : Int64) (v3 : Int32), xGm md_X4_digest (rsL (xU u)) (rec164 v1 v3) 164 [(0, .ref 39), (1, .long v1), (3, .int v3)] [] (xU u)) : ∀ (n : Nat) (v1 : Int64) (v3 : Int32) (v4 : Int32), xGm md_X4_digest (rsL (xU u)) (f_X4_digest_L187 N u rec164 n v1 v3 v4) 187 [(0, .ref 39), (1, .long v1), (3, .int v3), (4, .int v4)] [] (xU u) := by
  intro n
  induction n with
  | zero => intro v1 v3 v4; exact xm_none
  | succ n ih => intro v1 v3 v4; exact go_X4_digest_L187b N u rec164 h164 _ ih v1 v3 v4
def f_X4_digest_L254b (N : Nat) (u : xN) (rec232 : Int64 → Int32 → Option Int64) (rec254 : Int64 → Int32 → Int32 → Option Int64) (v1 : Int64) (v3 : Int32) (v4 : Int32) : Option Int64 := gdl [inb v3 4] (if (u.1 47 (Int32.toNatClampNeg v3)) ≤ v4 then rec232 v1 (v3 + (1 : Int32)) else gdl [inb (((80 : Int32) * v3) + v4) 320] (rec254 (((31 : Int64) * v1) + (Int32.toInt64 (u.1 48 (Int32.toNatClampNeg (((80 : Int32) * v3) + v4))))) v3 (v4 + (1 : Int32))))
set_option maxRecDepth 20000 in
theorem go_X4_digest_L254b (N : Nat) (u : xN) (rec232 : Int64 → Int32 → Option Int64) (h232 : ∀ (v1 : Int64) (v3 : Int32), xGm md_X4_digest (rsL (xU u)) (rec232 v1 v3) 232 [(0, .ref 39), (1, .long v1), (3, .int v3)] [] (xU u)) (rec254 : Int64 → Int32 → Int32 → Option Int64) (h254 : ∀ (v1 : Int64) (v3 : Int32) (v4 : Int32), xGm md_X4_digest (rsL (xU u)) (rec254 v1 v3 v4) 254 [(0, .ref 39), (1, .long v1), (3, .int v3), (4, .int v4)] [] (xU u)) (v1 : Int64) (v3 : Int32) (v4 : Int32) : xGm md_X4_digest (rsL (xU u)) (f_X4_digest_L254b N u rec232 rec254 v1 v3 v4) 254 [(0, .ref 39), (1, .long v1), (3, .int v3), (4, .int v4)] [] (xU u) := by
  unfold f_X4_digest_L254b
  refine xm_blk (bs := [inb v3 4]) (pc' := 262) (lv' := [(0, .ref 39), (1, .long v1), (3, .int v3), (4, .int v4)]) (st' := [.int (u.1 47 (Int32.toNatClampNeg v3)), .int v4]) (u' := (xU u)) [(.iload 4, (0, 0, 0), 0, 0), (.aload_n 0, (0, 0, 0), 0, 0), (.getfield 31, (4, 9, 829), 0, 0), (.iload_n 3, (0, 0, 0), 0, 0), (.iaload, (0, 0, 0), 0, 0)] (by decide +kernel) rfl ?_
  refine xm_icmp_ge (pc := 262) (off := 29) (tgt := 291) (by decide +kernel) (by decide) ?_ ?_
  · refine xm_blk0 (pc' := 294) (lv' := [(0, .ref 39), (1, .long v1), (3, .int (v3 + (1 : Int32))), (4, .int v4)]) (st' := []) (u' := (xU u)) [(.iinc 3 1, (0, 0, 0), 1, 0)] (by decide +kernel) rfl ?_
    refine xm_goto (pc := 294) (off := -62) (tgt := 232) (by decide +kernel) (by decide) ?_
    refine xm_wk [0, 1, 2] (lv' := [(0, .ref 39), (1, .long v1), (3, .int (v3 + (1 : Int32)))]) rfl ?_
    exact h232 v1 (v3 + (1 : Int32))
  · refine xm_blk (bs := [inb (((80 : Int32) * v3) + v4) 320]) (pc' := 288) (lv' := [(0, .ref 39), (1, .long (((31 : Int64) * v1) + (Int32.toInt64 (u.1 48 (Int32.toNatClampNeg (((80 : Int32) * v3) + v4)))))), (3, .int v3), (4, .int (v4 + (1 : Int32)))]) (st' := []) (u' := (xU u)) [(.ldc2_w 313, (0, 0, 1346), 0, 31), (.lload_n 1, (0, 0, 0), 0, 0), (.lmul, (0, 0, 0), 0, 0), (.aload_n 0, (0, 0, 0), 0, 0), (.getfield 34, (4, 10, 830), 0, 0), (.bipush 80, (0, 0, 0), 80, 0), (.iload_n 3, (0, 0, 0), 0, 0), (.imul, (0, 0, 0), 0, 0), (.iload 4, (0, 0, 0), 0, 0), (.iadd, (0, 0, 0), 0, 0), (.iaload, (0, 0, 0), 0, 0), (.i2l, (0, 0, 0), 0, 0), (.ladd, (0, 0, 0), 0, 0), (.lstore_n 1, (0, 0, 0), 0, 0), (.iinc 4 1, (0, 0, 0), 1, 0)] (by decide +kernel) rfl ?_
    refine xm_goto (pc := 288) (off := -34) (tgt := 254) (by decide +kernel) (by decide) ?_
    exact h254 (((31 : Int64) * v1) + (Int32.toInt64 (u.1 48 (Int32.toNatClampNeg (((80 : Int32) * v3) + v4))))) v3 (v4 + (1 : Int32))
def f_X4_digest_L254 (N : Nat) (u : xN) (rec232 : Int64 → Int32 → Option Int64) : Nat → Int64 → Int32 → Int32 → Option Int64
  | 0 => fun _ _ _ => none
  | n + 1 => fun v1 v3 v4 => f_X4_digest_L254b N u rec232 (f_X4_digest_L254 N u rec232 n) v1 v3 v4
theorem go_X4_digest_L254 (N : Nat) (u : xN) (rec232 : Int64 → Int32 → Option Int64) (h232 : ∀ (v1 : Int64) (v3 : Int32), xGm md_X4_digest (rsL (xU u)) (rec232 v1 v3) 232 [(0, .ref 39), (1, .long v1), (3, .int v3)] [] (xU u)) : ∀ (n : Nat) (v1 : Int64) (v3 : Int32) (v4 : Int32), xGm md_X4_digest (rsL (xU u)) (f_X4_digest_L254 N u rec232 n v1 v3 v4) 254 [(0, .ref 39), (1, .long v1), (3, .int v3), (4, .int v4)] [] (xU u) := by
  intro n
  induction n with
  | zero => intro v1 v3 v4; exact xm_none
  | succ n ih => intro v1 v3 v4; exact go_X4_digest_L254b N u rec232 h232 _ ih v1 v3 v4
def f_X4_digest_L232b (N : Nat) (u : xN) (rec232 : Int64 → Int32 → Option Int64) (v1 : Int64) (v3 : Int32) : Option Int64 := if (4 : Int32) ≤ v3 then some v1 else gdl [inb v3 4] (f_X4_digest_L254 N u rec232 N (((31 : Int64) * v1) + (Int32.toInt64 (u.1 47 (Int32.toNatClampNeg v3)))) v3 (0 : Int32))
set_option maxRecDepth 20000 in
theorem go_X4_digest_L232b (N : Nat) (u : xN) (rec232 : Int64 → Int32 → Option Int64) (h232 : ∀ (v1 : Int64) (v3 : Int32), xGm md_X4_digest (rsL (xU u)) (rec232 v1 v3) 232 [(0, .ref 39), (1, .long v1), (3, .int v3)] [] (xU u)) (v1 : Int64) (v3 : Int32) : xGm md_X4_digest (rsL (xU u)) (f_X4_digest_L232b N u rec232 v1 v3) 232 [(0, .ref 39), (1, .long v1), (3, .int v3)] [] (xU u) := by
  unfold f_X4_digest_L232b
  refine xm_blk0 (pc' := 234) (lv' := [(0, .ref 39), (1, .long v1), (3, .int v3)]) (st' := [.int (4 : Int32), .int v3]) (u' := (xU u)) [(.iload_n 3, (0, 0, 0), 0, 0), (.iconst 4, (0, 0, 0), 4, 0)] (by decide +kernel) rfl ?_
  refine xm_icmp_ge (pc := 234) (off := 63) (tgt := 297) (by decide +kernel) (by decide) ?_ ?_
  · refine xm_blk0 (pc' := 298) (lv' := [(0, .ref 39), (1, .long v1), (3, .int v3)]) (st' := [.long v1]) (u' := (xU u)) [(.lload_n 1, (0, 0, 0), 0, 0)] (by decide +kernel) rfl ?_
    exact xm_lret (pc := 298) (by decide +kernel) rfl rfl
  · refine xm_blk (bs := [inb v3 4]) (pc' := 254) (lv' := [(0, .ref 39), (1, .long (((31 : Int64) * v1) + (Int32.toInt64 (u.1 47 (Int32.toNatClampNeg v3))))), (3, .int v3), (4, .int (0 : Int32))]) (st' := []) (u' := (xU u)) [(.ldc2_w 313, (0, 0, 1346), 0, 31), (.lload_n 1, (0, 0, 0), 0, 0), (.lmul, (0, 0, 0), 0, 0), (.aload_n 0, (0, 0, 0), 0, 0), (.getfield 31, (4, 9, 829), 0, 0), (.iload_n 3, (0, 0, 0), 0, 0), (.iaload, (0, 0, 0), 0, 0), (.i2l, (0, 0, 0), 0, 0), (.ladd, (0, 0, 0), 0, 0), (.lstore_n 1, (0, 0, 0), 0, 0), (.iconst 0, (0, 0, 0), 0, 0), (.istore 4, (0, 0, 0), 0, 0)] (by decide +kernel) rfl ?_
    exact go_X4_digest_L254 N u rec232 h232 N (((31 : Int64) * v1) + (Int32.toInt64 (u.1 47 (Int32.toNatClampNeg v3)))) v3 (0 : Int32)
def f_X4_digest_L232 (N : Nat) (u : xN) : Nat → Int64 → Int32 → Option Int64
  | 0 => fun _ _ => none
  | n + 1 => fun v1 v3 => f_X4_digest_L232b N u (f_X4_digest_L232 N u n) v1 v3
theorem go_X4_digest_L232 (N : Nat) (u : xN) : ∀ (n : Nat) (v1 : Int64) (v3 : Int32), xGm md_X4_digest (rsL (xU u)) (f_X4_digest_L232 N u n v1 v3) 232 [(0, .ref 39), (1, .long v1), (3, .int v3)] [] (xU u) := by
  intro n
  induction n with
  | zero => intro v1 v3; exact xm_none
  | succ n ih => intro v1 v3; exact go_X4_digest_L232b N u _ ih v1 v3
def f_X4_digest_L164b (N : Nat) (u : xN) (rec164 : Int64 → Int32 → Option Int64) (v1 : Int64) (v3 : Int32) : Option Int64 := if (6 : Int32) ≤ v3 then f_X4_digest_L232 N u N v1 (0 : Int32) else gdl [inb v3 6] (f_X4_digest_L187 N u rec164 N (((31 : Int64) * v1) + (Int32.toInt64 (u.1 45 (Int32.toNatClampNeg v3)))) v3 (0 : Int32))
set_option maxRecDepth 20000 in
theorem go_X4_digest_L164b (N : Nat) (u : xN) (rec164 : Int64 → Int32 → Option Int64) (h164 : ∀ (v1 : Int64) (v3 : Int32), xGm md_X4_digest (rsL (xU u)) (rec164 v1 v3) 164 [(0, .ref 39), (1, .long v1), (3, .int v3)] [] (xU u)) (v1 : Int64) (v3 : Int32) : xGm md_X4_digest (rsL (xU u)) (f_X4_digest_L164b N u rec164 v1 v3) 164 [(0, .ref 39), (1, .long v1), (3, .int v3)] [] (xU u) := by
  unfold f_X4_digest_L164b
  refine xm_blk0 (pc' := 167) (lv' := [(0, .ref 39), (1, .long v1), (3, .int v3)]) (st' := [.int (6 : Int32), .int v3]) (u' := (xU u)) [(.iload_n 3, (0, 0, 0), 0, 0), (.bipush 6, (0, 0, 0), 6, 0)] (by decide +kernel) rfl ?_
  refine xm_icmp_ge (pc := 167) (off := 63) (tgt := 230) (by decide +kernel) (by decide) ?_ ?_
  · refine xm_blk0 (pc' := 232) (lv' := [(0, .ref 39), (1, .long v1), (3, .int (0 : Int32))]) (st' := []) (u' := (xU u)) [(.iconst 0, (0, 0, 0), 0, 0), (.istore_n 3, (0, 0, 0), 0, 0)] (by decide +kernel) rfl ?_
    exact go_X4_digest_L232 N u N v1 (0 : Int32)
  · refine xm_blk (bs := [inb v3 6]) (pc' := 187) (lv' := [(0, .ref 39), (1, .long (((31 : Int64) * v1) + (Int32.toInt64 (u.1 45 (Int32.toNatClampNeg v3))))), (3, .int v3), (4, .int (0 : Int32))]) (st' := []) (u' := (xU u)) [(.ldc2_w 313, (0, 0, 1346), 0, 31), (.lload_n 1, (0, 0, 0), 0, 0), (.lmul, (0, 0, 0), 0, 0), (.aload_n 0, (0, 0, 0), 0, 0), (.getfield 25, (4, 7, 827), 0, 0), (.iload_n 3, (0, 0, 0), 0, 0), (.iaload, (0, 0, 0), 0, 0), (.i2l, (0, 0, 0), 0, 0), (.ladd, (0, 0, 0), 0, 0), (.lstore_n 1, (0, 0, 0), 0, 0), (.iconst 0, (0, 0, 0), 0, 0), (.istore 4, (0, 0, 0), 0, 0)] (by decide +kernel) rfl ?_
    exact go_X4_digest_L187 N u rec164 h164 N (((31 : Int64) * v1) + (Int32.toInt64 (u.1 45 (Int32.toNatClampNeg v3)))) v3 (0 : Int32)
def f_X4_digest_L164 (N : Nat) (u : xN) : Nat → Int64 → Int32 → Option Int64
  | 0 => fun _ _ => none
  | n + 1 => fun v1 v3 => f_X4_digest_L164b N u (f_X4_digest_L164 N u n) v1 v3
theorem go_X4_digest_L164 (N : Nat) (u : xN) : ∀ (n : Nat) (v1 : Int64) (v3 : Int32), xGm md_X4_digest (rsL (xU u)) (f_X4_digest_L164 N u n v1 v3) 164 [(0, .ref 39), (1, .long v1), (3, .int v3)] [] (xU u) := by
  intro n
  induction n with
  | zero => intro v1 v3; exact xm_none
  | succ n ih => intro v1 v3; exact go_X4_digest_L164b N u _ ih v1 v3
def f_X4_digest_L131b (N : Nat) (u : xN) (rec131 : Int64 → Int32 → Option Int64) (v1 : Int64) (v3 : Int32) : Option Int64 := if (4 : Int32) ≤ v3 then f_X4_digest_L164 N u N v1 (0 : Int32) else gdl [inb (((370 : Int32) * v3) + (0 : Int32)) 1480] (rec131 (((31 : Int64) * v1) + (Int32.toInt64 (u.1 40 (Int32.toNatClampNeg (((370 : Int32) * v3) + (0 : Int32)))))) (v3 + (1 : Int32)))
set_option maxRecDepth 20000 in
theorem go_X4_digest_L131b (N : Nat) (u : xN) (rec131 : Int64 → Int32 → Option Int64) (h131 : ∀ (v1 : Int64) (v3 : Int32), xGm md_X4_digest (rsL (xU u)) (rec131 v1 v3) 131 [(0, .ref 39), (1, .long v1), (3, .int v3)] [] (xU u)) (v1 : Int64) (v3 : Int32) : xGm md_X4_digest (rsL (xU u)) (f_X4_digest_L131b N u rec131 v1 v3) 131 [(0, .ref 39), (1, .long v1), (3, .int v3)] [] (xU u) := by
  unfold f_X4_digest_L131b
  refine xm_blk0 (pc' := 133) (lv' := [(0, .ref 39), (1, .long v1), (3, .int v3)]) (st' := [.int (4 : Int32), .int v3]) (u' := (xU u)) [(.iload_n 3, (0, 0, 0), 0, 0), (.iconst 4, (0, 0, 0), 4, 0)] (by decide +kernel) rfl ?_
  refine xm_icmp_ge (pc := 133) (off := 29) (tgt := 162) (by decide +kernel) (by decide) ?_ ?_
  · refine xm_blk0 (pc' := 164) (lv' := [(0, .ref 39), (1, .long v1), (3, .int (0 : Int32))]) (st' := []) (u' := (xU u)) [(.iconst 0, (0, 0, 0), 0, 0), (.istore_n 3, (0, 0, 0), 0, 0)] (by decide +kernel) rfl ?_
    exact go_X4_digest_L164 N u N v1 (0 : Int32)
  · refine xm_blk (bs := [inb (((370 : Int32) * v3) + (0 : Int32)) 1480]) (pc' := 159) (lv' := [(0, .ref 39), (1, .long (((31 : Int64) * v1) + (Int32.toInt64 (u.1 40 (Int32.toNatClampNeg (((370 : Int32) * v3) + (0 : Int32))))))), (3, .int (v3 + (1 : Int32)))]) (st' := []) (u' := (xU u)) [(.ldc2_w 313, (0, 0, 1346), 0, 31), (.lload_n 1, (0, 0, 0), 0, 0), (.lmul, (0, 0, 0), 0, 0), (.aload_n 0, (0, 0, 0), 0, 0), (.getfield 7, (4, 0, 820), 0, 0), (.sipush 370, (0, 0, 0), 370, 0), (.iload_n 3, (0, 0, 0), 0, 0), (.imul, (0, 0, 0), 0, 0), (.iconst 0, (0, 0, 0), 0, 0), (.iadd, (0, 0, 0), 0, 0), (.iaload, (0, 0, 0), 0, 0), (.i2l, (0, 0, 0), 0, 0), (.ladd, (0, 0, 0), 0, 0), (.lstore_n 1, (0, 0, 0), 0, 0), (.iinc 3 1, (0, 0, 0), 1, 0)] (by decide +kernel) rfl ?_
    refine xm_goto (pc := 159) (off := -28) (tgt := 131) (by decide +kernel) (by decide) ?_
    exact h131 (((31 : Int64) * v1) + (Int32.toInt64 (u.1 40 (Int32.toNatClampNeg (((370 : Int32) * v3) + (0 : Int32)))))) (v3 + (1 : Int32))
def f_X4_digest_L131 (N : Nat) (u : xN) : Nat → Int64 → Int32 → Option Int64
  | 0 => fun _ _ => none
  | n + 1 => fun v1 v3 => f_X4_digest_L131b N u (f_X4_digest_L131 N u n) v1 v3
theorem go_X4_digest_L131 (N : Nat) (u : xN) : ∀ (n : Nat) (v1 : Int64) (v3 : Int32), xGm md_X4_digest (rsL (xU u)) (f_X4_digest_L131 N u n v1 v3) 131 [(0, .ref 39), (1, .long v1), (3, .int v3)] [] (xU u) := by
  intro n
  induction n with
  | zero => intro v1 v3; exact xm_none
  | succ n ih => intro v1 v3; exact go_X4_digest_L131b N u _ ih v1 v3
def f_X4_digest_L95b (N : Nat) (u : xN) (rec95 : Int64 → Int32 → Option Int64) (v1 : Int64) (v3 : Int32) : Option Int64 := if ((5 : Int32) * (u.1 39 3)) ≤ v3 then f_X4_digest_L131 N u N v1 (1 : Int32) else gdl [nzi (5 : Int32), nzi (5 : Int32)] (Option.bind (f_X4_toldOf N (v3 / (5 : Int32)) (v3 - v3 / (5 : Int32) * (5 : Int32)) u) (fun r117 => rec95 (((31 : Int64) * v1) + (Int32.toInt64 r117)) (v3 + (1 : Int32))))
set_option maxRecDepth 20000 in
theorem go_X4_digest_L95b (N : Nat) (u : xN) (rec95 : Int64 → Int32 → Option Int64) (h95 : ∀ (v1 : Int64) (v3 : Int32), xGm md_X4_digest (rsL (xU u)) (rec95 v1 v3) 95 [(0, .ref 39), (1, .long v1), (3, .int v3)] [] (xU u)) (v1 : Int64) (v3 : Int32) : xGm md_X4_digest (rsL (xU u)) (f_X4_digest_L95b N u rec95 v1 v3) 95 [(0, .ref 39), (1, .long v1), (3, .int v3)] [] (xU u) := by
  unfold f_X4_digest_L95b
  refine xm_blk0 (pc' := 102) (lv' := [(0, .ref 39), (1, .long v1), (3, .int v3)]) (st' := [.int ((5 : Int32) * (u.1 39 3)), .int v3]) (u' := (xU u)) [(.iload_n 3, (0, 0, 0), 0, 0), (.iconst 5, (0, 0, 0), 5, 0), (.aload_n 0, (0, 0, 0), 0, 0), (.getfield 60, (4, 3, 823), 0, 0), (.imul, (0, 0, 0), 0, 0)] (by decide +kernel) rfl ?_
  refine xm_icmp_ge (pc := 102) (off := 27) (tgt := 129) (by decide +kernel) (by decide) ?_ ?_
  · refine xm_blk0 (pc' := 131) (lv' := [(0, .ref 39), (1, .long v1), (3, .int (1 : Int32))]) (st' := []) (u' := (xU u)) [(.iconst 1, (0, 0, 0), 1, 0), (.istore_n 3, (0, 0, 0), 0, 0)] (by decide +kernel) rfl ?_
    exact go_X4_digest_L131 N u N v1 (1 : Int32)
  · refine xm_blk (bs := [nzi (5 : Int32), nzi (5 : Int32)]) (pc' := 117) (lv' := [(0, .ref 39), (1, .long v1), (3, .int v3)]) (st' := [.int (v3 - v3 / (5 : Int32) * (5 : Int32)), .int (v3 / (5 : Int32)), .ref 39, .long ((31 : Int64) * v1)]) (u' := (xU u)) [(.ldc2_w 313, (0, 0, 1346), 0, 31), (.lload_n 1, (0, 0, 0), 0, 0), (.lmul, (0, 0, 0), 0, 0), (.aload_n 0, (0, 0, 0), 0, 0), (.iload_n 3, (0, 0, 0), 0, 0), (.iconst 5, (0, 0, 0), 5, 0), (.idiv, (0, 0, 0), 0, 0), (.iload_n 3, (0, 0, 0), 0, 0), (.iconst 5, (0, 0, 0), 5, 0), (.irem, (0, 0, 0), 0, 0)] (by decide +kernel) rfl ?_
    refine xm_Vi (pc := 117) (mz := md_X4_toldOf) (idx := 197) (p1 := 1012) (a := 39) (as := [.int (v3 / (5 : Int32)), .int (v3 - v3 / (5 : Int32) * (5 : Int32))]) (st := [.long ((31 : Int64) * v1)]) (ev_X4_toldOf N (v3 / (5 : Int32)) (v3 - v3 / (5 : Int32) * (5 : Int32)) u) mw_X4_toldOf (by decide +kernel) (by decide +kernel) (by decide) rfl rfl (by decide) rfl (Nat.le_of_ble_eq_true rfl) (fun r117 => ?_)
    refine xm_blk0 (pc' := 126) (lv' := [(0, .ref 39), (1, .long (((31 : Int64) * v1) + (Int32.toInt64 r117))), (3, .int (v3 + (1 : Int32)))]) (st' := []) (u' := (xU u)) [(.i2l, (0, 0, 0), 0, 0), (.ladd, (0, 0, 0), 0, 0), (.lstore_n 1, (0, 0, 0), 0, 0), (.iinc 3 1, (0, 0, 0), 1, 0)] (by decide +kernel) rfl ?_
    refine xm_goto (pc := 126) (off := -31) (tgt := 95) (by decide +kernel) (by decide) ?_
    exact h95 (((31 : Int64) * v1) + (Int32.toInt64 r117)) (v3 + (1 : Int32))
def f_X4_digest_L95 (N : Nat) (u : xN) : Nat → Int64 → Int32 → Option Int64
  | 0 => fun _ _ => none
  | n + 1 => fun v1 v3 => f_X4_digest_L95b N u (f_X4_digest_L95 N u n) v1 v3
theorem go_X4_digest_L95 (N : Nat) (u : xN) : ∀ (n : Nat) (v1 : Int64) (v3 : Int32), xGm md_X4_digest (rsL (xU u)) (f_X4_digest_L95 N u n v1 v3) 95 [(0, .ref 39), (1, .long v1), (3, .int v3)] [] (xU u) := by
  intro n
  induction n with
  | zero => intro v1 v3; exact xm_none
  | succ n ih => intro v1 v3; exact go_X4_digest_L95b N u _ ih v1 v3
def f_X4_digest_L63b (N : Nat) (u : xN) (rec63 : Int64 → Int32 → Option Int64) (v1 : Int64) (v3 : Int32) : Option Int64 := if ((5 : Int32) * (u.1 39 1)) ≤ v3 then f_X4_digest_L95 N u N v1 (0 : Int32) else gdl [inb v3 30] (rec63 (((31 : Int64) * v1) + (Int32.toInt64 (u.1 41 (Int32.toNatClampNeg v3)))) (v3 + (1 : Int32)))
set_option maxRecDepth 20000 in
theorem go_X4_digest_L63b (N : Nat) (u : xN) (rec63 : Int64 → Int32 → Option Int64) (h63 : ∀ (v1 : Int64) (v3 : Int32), xGm md_X4_digest (rsL (xU u)) (rec63 v1 v3) 63 [(0, .ref 39), (1, .long v1), (3, .int v3)] [] (xU u)) (v1 : Int64) (v3 : Int32) : xGm md_X4_digest (rsL (xU u)) (f_X4_digest_L63b N u rec63 v1 v3) 63 [(0, .ref 39), (1, .long v1), (3, .int v3)] [] (xU u) := by
  unfold f_X4_digest_L63b
  refine xm_blk0 (pc' := 70) (lv' := [(0, .ref 39), (1, .long v1), (3, .int v3)]) (st' := [.int ((5 : Int32) * (u.1 39 1)), .int v3]) (u' := (xU u)) [(.iload_n 3, (0, 0, 0), 0, 0), (.iconst 5, (0, 0, 0), 5, 0), (.aload_n 0, (0, 0, 0), 0, 0), (.getfield 147, (4, 1, 821), 0, 0), (.imul, (0, 0, 0), 0, 0)] (by decide +kernel) rfl ?_
  refine xm_icmp_ge (pc := 70) (off := 23) (tgt := 93) (by decide +kernel) (by decide) ?_ ?_
  · refine xm_blk0 (pc' := 95) (lv' := [(0, .ref 39), (1, .long v1), (3, .int (0 : Int32))]) (st' := []) (u' := (xU u)) [(.iconst 0, (0, 0, 0), 0, 0), (.istore_n 3, (0, 0, 0), 0, 0)] (by decide +kernel) rfl ?_
    exact go_X4_digest_L95 N u N v1 (0 : Int32)
  · refine xm_blk (bs := [inb v3 30]) (pc' := 90) (lv' := [(0, .ref 39), (1, .long (((31 : Int64) * v1) + (Int32.toInt64 (u.1 41 (Int32.toNatClampNeg v3))))), (3, .int (v3 + (1 : Int32)))]) (st' := []) (u' := (xU u)) [(.ldc2_w 313, (0, 0, 1346), 0, 31), (.lload_n 1, (0, 0, 0), 0, 0), (.lmul, (0, 0, 0), 0, 0), (.aload_n 0, (0, 0, 0), 0, 0), (.getfield 13, (4, 2, 822), 0, 0), (.iload_n 3, (0, 0, 0), 0, 0), (.iaload, (0, 0, 0), 0, 0), (.i2l, (0, 0, 0), 0, 0), (.ladd, (0, 0, 0), 0, 0), (.lstore_n 1, (0, 0, 0), 0, 0), (.iinc 3 1, (0, 0, 0), 1, 0)] (by decide +kernel) rfl ?_
    refine xm_goto (pc := 90) (off := -27) (tgt := 63) (by decide +kernel) (by decide) ?_
    exact h63 (((31 : Int64) * v1) + (Int32.toInt64 (u.1 41 (Int32.toNatClampNeg v3)))) (v3 + (1 : Int32))
def f_X4_digest_L63 (N : Nat) (u : xN) : Nat → Int64 → Int32 → Option Int64
  | 0 => fun _ _ => none
  | n + 1 => fun v1 v3 => f_X4_digest_L63b N u (f_X4_digest_L63 N u n) v1 v3
theorem go_X4_digest_L63 (N : Nat) (u : xN) : ∀ (n : Nat) (v1 : Int64) (v3 : Int32), xGm md_X4_digest (rsL (xU u)) (f_X4_digest_L63 N u n v1 v3) 63 [(0, .ref 39), (1, .long v1), (3, .int v3)] [] (xU u) := by
  intro n
  induction n with
  | zero => intro v1 v3; exact xm_none
  | succ n ih => intro v1 v3; exact go_X4_digest_L63b N u _ ih v1 v3
def f_X4_digest_L33b (N : Nat) (u : xN) (rec33 : Int64 → Int32 → Option Int64) (v1 : Int64) (v3 : Int32) : Option Int64 := if (8 : Int32) ≤ v3 then f_X4_digest_L63 N u N v1 (0 : Int32) else gdl [inb ((2 : Int32) + v3) 1480] (rec33 (((31 : Int64) * v1) + (Int32.toInt64 (u.1 40 (Int32.toNatClampNeg ((2 : Int32) + v3))))) (v3 + (1 : Int32)))
set_option maxRecDepth 20000 in
theorem go_X4_digest_L33b (N : Nat) (u : xN) (rec33 : Int64 → Int32 → Option Int64) (h33 : ∀ (v1 : Int64) (v3 : Int32), xGm md_X4_digest (rsL (xU u)) (rec33 v1 v3) 33 [(0, .ref 39), (1, .long v1), (3, .int v3)] [] (xU u)) (v1 : Int64) (v3 : Int32) : xGm md_X4_digest (rsL (xU u)) (f_X4_digest_L33b N u rec33 v1 v3) 33 [(0, .ref 39), (1, .long v1), (3, .int v3)] [] (xU u) := by
  unfold f_X4_digest_L33b
  refine xm_blk0 (pc' := 36) (lv' := [(0, .ref 39), (1, .long v1), (3, .int v3)]) (st' := [.int (8 : Int32), .int v3]) (u' := (xU u)) [(.iload_n 3, (0, 0, 0), 0, 0), (.bipush 8, (0, 0, 0), 8, 0)] (by decide +kernel) rfl ?_
  refine xm_icmp_ge (pc := 36) (off := 25) (tgt := 61) (by decide +kernel) (by decide) ?_ ?_
  · refine xm_blk0 (pc' := 63) (lv' := [(0, .ref 39), (1, .long v1), (3, .int (0 : Int32))]) (st' := []) (u' := (xU u)) [(.iconst 0, (0, 0, 0), 0, 0), (.istore_n 3, (0, 0, 0), 0, 0)] (by decide +kernel) rfl ?_
    exact go_X4_digest_L63 N u N v1 (0 : Int32)
  · refine xm_blk (bs := [inb ((2 : Int32) + v3) 1480]) (pc' := 58) (lv' := [(0, .ref 39), (1, .long (((31 : Int64) * v1) + (Int32.toInt64 (u.1 40 (Int32.toNatClampNeg ((2 : Int32) + v3)))))), (3, .int (v3 + (1 : Int32)))]) (st' := []) (u' := (xU u)) [(.ldc2_w 313, (0, 0, 1346), 0, 31), (.lload_n 1, (0, 0, 0), 0, 0), (.lmul, (0, 0, 0), 0, 0), (.aload_n 0, (0, 0, 0), 0, 0), (.getfield 7, (4, 0, 820), 0, 0), (.iconst 2, (0, 0, 0), 2, 0), (.iload_n 3, (0, 0, 0), 0, 0), (.iadd, (0, 0, 0), 0, 0), (.iaload, (0, 0, 0), 0, 0), (.i2l, (0, 0, 0), 0, 0), (.ladd, (0, 0, 0), 0, 0), (.lstore_n 1, (0, 0, 0), 0, 0), (.iinc 3 1, (0, 0, 0), 1, 0)] (by decide +kernel) rfl ?_
    refine xm_goto (pc := 58) (off := -25) (tgt := 33) (by decide +kernel) (by decide) ?_
    exact h33 (((31 : Int64) * v1) + (Int32.toInt64 (u.1 40 (Int32.toNatClampNeg ((2 : Int32) + v3))))) (v3 + (1 : Int32))
def f_X4_digest_L33 (N : Nat) (u : xN) : Nat → Int64 → Int32 → Option Int64
  | 0 => fun _ _ => none
  | n + 1 => fun v1 v3 => f_X4_digest_L33b N u (f_X4_digest_L33 N u n) v1 v3
theorem go_X4_digest_L33 (N : Nat) (u : xN) : ∀ (n : Nat) (v1 : Int64) (v3 : Int32), xGm md_X4_digest (rsL (xU u)) (f_X4_digest_L33 N u n v1 v3) 33 [(0, .ref 39), (1, .long v1), (3, .int v3)] [] (xU u) := by
  intro n
  induction n with
  | zero => intro v1 v3; exact xm_none
  | succ n ih => intro v1 v3; exact go_X4_digest_L33b N u _ ih v1 v3
def f_X4_digest_L6b (N : Nat) (u : xN) (rec6 : Int64 → Int32 → Option Int64) (v1 : Int64) (v3 : Int32) : Option Int64 := if (9 : Int32) ≤ v3 then f_X4_digest_L33 N u N v1 (0 : Int32) else Option.bind (f_X4_countOf N v3 u) (fun r19 => rec6 (((31 : Int64) * v1) + (Int32.toInt64 r19)) (v3 + (1 : Int32)))
set_option maxRecDepth 20000 in
theorem go_X4_digest_L6b (N : Nat) (u : xN) (rec6 : Int64 → Int32 → Option Int64) (h6 : ∀ (v1 : Int64) (v3 : Int32), xGm md_X4_digest (rsL (xU u)) (rec6 v1 v3) 6 [(0, .ref 39), (1, .long v1), (3, .int v3)] [] (xU u)) (v1 : Int64) (v3 : Int32) : xGm md_X4_digest (rsL (xU u)) (f_X4_digest_L6b N u rec6 v1 v3) 6 [(0, .ref 39), (1, .long v1), (3, .int v3)] [] (xU u) := by
  unfold f_X4_digest_L6b
  refine xm_blk0 (pc' := 9) (lv' := [(0, .ref 39), (1, .long v1), (3, .int v3)]) (st' := [.int (9 : Int32), .int v3]) (u' := (xU u)) [(.iload_n 3, (0, 0, 0), 0, 0), (.bipush 9, (0, 0, 0), 9, 0)] (by decide +kernel) rfl ?_
  refine xm_icmp_ge (pc := 9) (off := 22) (tgt := 31) (by decide +kernel) (by decide) ?_ ?_
  · refine xm_blk0 (pc' := 33) (lv' := [(0, .ref 39), (1, .long v1), (3, .int (0 : Int32))]) (st' := []) (u' := (xU u)) [(.iconst 0, (0, 0, 0), 0, 0), (.istore_n 3, (0, 0, 0), 0, 0)] (by decide +kernel) rfl ?_
    exact go_X4_digest_L33 N u N v1 (0 : Int32)
  · refine xm_blk0 (pc' := 19) (lv' := [(0, .ref 39), (1, .long v1), (3, .int v3)]) (st' := [.int v3, .ref 39, .long ((31 : Int64) * v1)]) (u' := (xU u)) [(.ldc2_w 313, (0, 0, 1346), 0, 31), (.lload_n 1, (0, 0, 0), 0, 0), (.lmul, (0, 0, 0), 0, 0), (.aload_n 0, (0, 0, 0), 0, 0), (.iload_n 3, (0, 0, 0), 0, 0)] (by decide +kernel) rfl ?_
    refine xm_Vi (pc := 19) (mz := md_X4_countOf) (idx := 308) (p1 := 1321) (a := 39) (as := [.int v3]) (st := [.long ((31 : Int64) * v1)]) (ev_X4_countOf N v3 u) mw_X4_countOf (by decide +kernel) (by decide +kernel) (by decide) rfl rfl (by decide) rfl (Nat.le_of_ble_eq_true rfl) (fun r19 => ?_)
    refine xm_blk0 (pc' := 28) (lv' := [(0, .ref 39), (1, .long (((31 : Int64) * v1) + (Int32.toInt64 r19))), (3, .int (v3 + (1 : Int32)))]) (st' := []) (u' := (xU u)) [(.i2l, (0, 0, 0), 0, 0), (.ladd, (0, 0, 0), 0, 0), (.lstore_n 1, (0, 0, 0), 0, 0), (.iinc 3 1, (0, 0, 0), 1, 0)] (by decide +kernel) rfl ?_
    refine xm_goto (pc := 28) (off := -22) (tgt := 6) (by decide +kernel) (by decide) ?_
    exact h6 (((31 : Int64) * v1) + (Int32.toInt64 r19)) (v3 + (1 : Int32))
def f_X4_digest_L6 (N : Nat) (u : xN) : Nat → Int64 → Int32 → Option Int64
  | 0 => fun _ _ => none
  | n + 1 => fun v1 v3 => f_X4_digest_L6b N u (f_X4_digest_L6 N u n) v1 v3
theorem go_X4_digest_L6 (N : Nat) (u : xN) : ∀ (n : Nat) (v1 : Int64) (v3 : Int32), xGm md_X4_digest (rsL (xU u)) (f_X4_digest_L6 N u n v1 v3) 6 [(0, .ref 39), (1, .long v1), (3, .int v3)] [] (xU u) := by
  intro n
  induction n with
  | zero => intro v1 v3; exact xm_none
  | succ n ih => intro v1 v3; exact go_X4_digest_L6b N u _ ih v1 v3
def f_X4_digest (N : Nat) (u : xN) : Option Int64 := f_X4_digest_L6 N u N (17 : Int64) (0 : Int32)
set_option maxRecDepth 20000 in
theorem go_X4_digest (N : Nat) (u : xN) : xGm md_X4_digest (rsL (xU u)) (f_X4_digest N u) 0 [(0, .ref 39)] [] (xU u) := by
  unfold f_X4_digest
  refine xm_blk0 (pc' := 6) (lv' := [(0, .ref 39), (1, .long (17 : Int64)), (3, .int (0 : Int32))]) (st' := []) (u' := (xU u)) [(.ldc2_w 311, (0, 0, 1345), 0, 17), (.lstore_n 1, (0, 0, 0), 0, 0), (.iconst 0, (0, 0, 0), 0, 0), (.istore_n 3, (0, 0, 0), 0, 0)] (by decide +kernel) rfl ?_
  exact go_X4_digest_L6 N u N (17 : Int64) (0 : Int32)
theorem ev_X4_digest (N : Nat) (u : xN) : ∀ r, f_X4_digest N u = some r → xEm md_X4_digest yX4_digest [.ref 39] (xU u) (some (.long r), (xU u)) := xm_met (res := (rsL (xU u))) (as := [.ref 39]) (go_X4_digest N u) (by decide) rfl (Nat.le_of_ble_eq_true rfl)
