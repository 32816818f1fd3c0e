theorem mw_X3_clause : xMv yX3_clause cX3_clause 3 (some .int) 2 := xMv_of (p1 := 410) (p2 := 408) (p3 := 92) (p4 := 409) (by decide +kernel)
/-! NeitherBare.clause(II)I (0, None, None) -/
abbrev md_X3_clause : xMd := (cX3_clause, RX3, 3, some .int, 7)
def f_X3_clause_L17 (N : Nat) (u : xN) : Option (Int32 × xN) := some ((-1 : Int32), u)
set_option maxRecDepth 20000 in
theorem go_X3_clause_L17 (N : Nat) (u : xN) : xGm md_X3_clause rsM (f_X3_clause_L17 N u) 17 [] [] (xU u) := by
  unfold f_X3_clause_L17
  refine xm_blk0 (pc' := 18) (lv' := []) (st' := [.int (-1 : Int32)]) (u' := (xU u)) [(.iconst (-1), (0, 0, 0), -1, 0)] (by decide +kernel) rfl ?_
  exact xm_iret (pc := 18) (by decide +kernel) rfl rfl
def f_X3_clause (N : Nat) (a1 : Int32) (a2 : Int32) (u : xN) : Option (Int32 × xN) := Option.bind (f_X3_isClause a1 u) (fun r2 => if r2 = (0 : Int32) then f_X3_clause_L17 N u else if a2 < (0 : Int32) then f_X3_clause_L17 N u else if a2 ≤ (4 : Int32) then Option.bind (f_X3_clauseNumber N a1 a2 u) (fun r23 => some ((1 : Int32), mI u 0 10 r23)) else f_X3_clause_L17 N u)
set_option maxRecDepth 20000 in
theorem go_X3_clause (N : Nat) (a1 : Int32) (a2 : Int32) (u : xN) : xGm md_X3_clause rsM (f_X3_clause N a1 a2 u) 0 [(0, .ref 0), (1, .int a1), (2, .int a2)] [] (xU u) := by
  unfold f_X3_clause
  refine xm_blk0 (pc' := 2) (lv' := [(0, .ref 0), (1, .int a1), (2, .int a2)]) (st' := [.int a1, .ref 0]) (u' := (xU u)) [(.aload_n 0, (0, 0, 0), 0, 0), (.iload_n 1, (0, 0, 0), 0, 0)] (by decide +kernel) rfl ?_
  refine xm_Vi (pc := 2) (mz := md_X3_isClause) (idx := 125) (p1 := 411) (a := 0) (as := [.int a1]) (st := []) (ev_X3_isClause a1 u) mw_X3_isClause (by decide +kernel) (by decide +kernel) (by decide) rfl rfl (by decide) rfl (Nat.le_of_ble_eq_true rfl) (fun r2 => ?_)
  refine xm_if_eq (pc := 5) (off := 12) (tgt := 17) (by decide +kernel) (by decide) ?_ ?_
  · refine xm_wk [] (lv' := []) rfl ?_
    exact go_X3_clause_L17 N u
  · refine xm_blk0 (pc' := 9) (lv' := [(0, .ref 0), (1, .int a1), (2, .int a2)]) (st' := [.int a2]) (u' := (xU u)) [(.iload_n 2, (0, 0, 0), 0, 0)] (by decide +kernel) rfl ?_
    refine xm_if_lt (pc := 9) (off := 8) (tgt := 17) (by decide +kernel) (by decide) ?_ ?_
    · refine xm_wk [] (lv' := []) rfl ?_
      exact go_X3_clause_L17 N u
    · refine xm_blk0 (pc' := 14) (lv' := [(0, .ref 0), (1, .int a1), (2, .int a2)]) (st' := [.int (4 : Int32), .int a2]) (u' := (xU u)) [(.iload_n 2, (0, 0, 0), 0, 0), (.iconst 4, (0, 0, 0), 4, 0)] (by decide +kernel) rfl ?_
      refine xm_icmp_le (pc := 14) (off := 5) (tgt := 19) (by decide +kernel) (by decide) ?_ ?_
      · refine xm_blk0 (pc' := 23) (lv' := [(0, .ref 0), (1, .int a1), (2, .int a2)]) (st' := [.int a2, .int a1, .ref 0, .ref 0]) (u' := (xU u)) [(.aload_n 0, (0, 0, 0), 0, 0), (.aload_n 0, (0, 0, 0), 0, 0), (.iload_n 1, (0, 0, 0), 0, 0), (.iload_n 2, (0, 0, 0), 0, 0)] (by decide +kernel) rfl ?_
        refine xm_Vi (pc := 23) (mz := md_X3_clauseNumber) (idx := 128) (p1 := 415) (a := 0) (as := [.int a1, .int a2]) (st := [.ref 0]) (ev_X3_clauseNumber N a1 a2 u) mw_X3_clauseNumber (by decide +kernel) (by decide +kernel) (by decide) rfl rfl (by decide) rfl (Nat.le_of_ble_eq_true rfl) (fun r23 => ?_)
        refine xm_blk0 (pc' := 30) (lv' := [(0, .ref 0), (1, .int a1), (2, .int a2)]) (st' := [.int (1 : Int32)]) (u' := (xU (mI u 0 10 r23))) [(.putfield 71, (3, 10, 216), 0, 0), (.iconst 1, (0, 0, 0), 1, 0)] (by decide +kernel) rfl ?_
        exact xm_iret (pc := 30) (by decide +kernel) rfl rfl
      · refine xm_wk [] (lv' := []) rfl ?_
        exact go_X3_clause_L17 N u
theorem ev_X3_clause (N : Nat) (a1 : Int32) (a2 : Int32) (u : xN) : ∀ r, f_X3_clause N a1 a2 u = some r → xEm md_X3_clause yX3_clause [.ref 0, .int a1, .int a2] (xU u) (some (.int r.1), xU r.2) := xm_met (res := rsM) (as := [.ref 0, .int a1, .int a2]) (go_X3_clause N a1 a2 u) (by decide) rfl (Nat.le_of_ble_eq_true rfl)
theorem mw_X2_lowerOf : xMv yX2_lowerOf cX2_lowerOf 2 (some .int) 1 := xMv_of (p1 := 467) (p2 := 465) (p3 := 96) (p4 := 466) (by decide +kernel)
/-! NeitherBare$Standing.lowerOf(I)I (19, None) -/
abbrev md_X2_lowerOf_19 : xMd := (cX2_lowerOf, RX2, 2, some .int, 1)
def f_X2_lowerOf_19 (a1 : Int32) (u : xN) : Option Int32 := gdl [inb ((2 : Int32) * a1) 8] (some (u.1 20 (Int32.toNatClampNeg ((2 : Int32) * a1))))
set_option maxRecDepth 20000 in
theorem go_X2_lowerOf_19 (a1 : Int32) (u : xN) : xGm md_X2_lowerOf_19 (rsI (xU u)) (f_X2_lowerOf_19 a1 u) 0 [(0, .ref 19), (1, .int a1)] [] (xU u) := by
  unfold f_X2_lowerOf_19
  refine xm_blk (bs := [inb ((2 : Int32) * a1) 8]) (pc' := 8) (lv' := [(0, .ref 19), (1, .int a1)]) (st' := [.int (u.1 20 (Int32.toNatClampNeg ((2 : Int32) * a1)))]) (u' := (xU u)) [(.aload_n 0, (0, 0, 0), 0, 0), (.getfield 9, (2, 3, 184), 0, 0), (.iconst 2, (0, 0, 0), 2, 0), (.iload_n 1, (0, 0, 0), 0, 0), (.imul, (0, 0, 0), 0, 0), (.iaload, (0, 0, 0), 0, 0)] (by decide +kernel) rfl ?_
  exact xm_iret (pc := 8) (by decide +kernel) rfl rfl
theorem ev_X2_lowerOf_19 (a1 : Int32) (u : xN) : ∀ r, f_X2_lowerOf_19 a1 u = some r → xEm md_X2_lowerOf_19 yX2_lowerOf [.ref 19, .int a1] (xU u) (some (.int r), (xU u)) := xm_met (res := (rsI (xU u))) (as := [.ref 19, .int a1]) (go_X2_lowerOf_19 a1 u) (by decide) rfl (Nat.le_of_ble_eq_true rfl)
theorem mw_X3_littleWays : xMv yX3_littleWays cX3_littleWays 4 (some .int) 1 := xMv_of (p1 := 483) (p2 := 482) (p3 := 92) (p4 := 17) (by decide +kernel)
/-! NeitherBare.littleWays(I)I (0, None) -/
abbrev md_X3_littleWays : xMd := (cX3_littleWays, RX3, 4, some .int, 3)
def f_X3_littleWays_L38 (N : Nat) (u : xN) (rec4 : Int32 → Int32 → Int32 → Option Int32) (v1 : Int32) (v2 : Int32) (v3 : Int32) : Option Int32 := rec4 v1 v2 (v3 + (1 : Int32))
set_option maxRecDepth 20000 in
theorem go_X3_littleWays_L38 (N : Nat) (u : xN) (rec4 : Int32 → Int32 → Int32 → Option Int32) (h4 : ∀ (v1 : Int32) (v2 : Int32) (v3 : Int32), xGm md_X3_littleWays (rsI (xU u)) (rec4 v1 v2 v3) 4 [(0, .ref 0), (1, .int v1), (2, .int v2), (3, .int v3)] [] (xU u)) (v1 : Int32) (v2 : Int32) (v3 : Int32) : xGm md_X3_littleWays (rsI (xU u)) (f_X3_littleWays_L38 N u rec4 v1 v2 v3) 38 [(0, .ref 0), (1, .int v1), (2, .int v2), (3, .int v3)] [] (xU u) := by
  unfold f_X3_littleWays_L38
  refine xm_blk0 (pc' := 41) (lv' := [(0, .ref 0), (1, .int v1), (2, .int v2), (3, .int (v3 + (1 : Int32)))]) (st' := []) (u' := (xU u)) [(.iinc 3 1, (0, 0, 0), 1, 0)] (by decide +kernel) rfl ?_
  refine xm_goto (pc := 41) (off := -37) (tgt := 4) (by decide +kernel) (by decide) ?_
  exact h4 v1 v2 (v3 + (1 : Int32))
def f_X3_littleWays_L4b (N : Nat) (u : xN) (rec4 : Int32 → Int32 → Int32 → Option Int32) (v1 : Int32) (v2 : Int32) (v3 : Int32) : Option Int32 := Option.bind (f_X0_ways_7 u) (fun r9 => if r9 ≤ v3 then some v2 else Option.bind (f_X0_valueOf_7 v3 v1 u) (fun r21 => Option.bind (f_X2_lowerOf_19 v1 u) (fun r29 => if r29 < r21 then f_X3_littleWays_L38 N u rec4 v1 v2 v3 else f_X3_littleWays_L38 N u rec4 v1 (v2 + (1 : Int32)) v3)))
set_option maxRecDepth 20000 in
theorem go_X3_littleWays_L4b (N : Nat) (u : xN) (rec4 : Int32 → Int32 → Int32 → Option Int32) (h4 : ∀ (v1 : Int32) (v2 : Int32) (v3 : Int32), xGm md_X3_littleWays (rsI (xU u)) (rec4 v1 v2 v3) 4 [(0, .ref 0), (1, .int v1), (2, .int v2), (3, .int v3)] [] (xU u)) (v1 : Int32) (v2 : Int32) (v3 : Int32) : xGm md_X3_littleWays (rsI (xU u)) (f_X3_littleWays_L4b N u rec4 v1 v2 v3) 4 [(0, .ref 0), (1, .int v1), (2, .int v2), (3, .int v3)] [] (xU u) := by
  unfold f_X3_littleWays_L4b
  refine xm_blk0 (pc' := 9) (lv' := [(0, .ref 0), (1, .int v1), (2, .int v2), (3, .int v3)]) (st' := [.ref 7, .int v3]) (u' := (xU u)) [(.iload_n 3, (0, 0, 0), 0, 0), (.aload_n 0, (0, 0, 0), 0, 0), (.getfield 24, (3, 2, 208), 0, 0)] (by decide +kernel) rfl ?_
  refine xm_Vi (pc := 9) (mz := md_X0_ways_7) (idx := 231) (p1 := 430) (a := 7) (as := []) (st := [.int v3]) (ev_X0_ways_7 u) mw_X0_ways (by decide +kernel) (by decide +kernel) (by decide) rfl rfl (by decide) rfl (Nat.le_of_ble_eq_true rfl) (fun r9 => ?_)
  refine xm_icmp_ge (pc := 12) (off := 32) (tgt := 44) (by decide +kernel) (by decide) ?_ ?_
  · refine xm_blk0 (pc' := 45) (lv' := [(0, .ref 0), (1, .int v1), (2, .int v2), (3, .int v3)]) (st' := [.int v2]) (u' := (xU u)) [(.iload_n 2, (0, 0, 0), 0, 0)] (by decide +kernel) rfl ?_
    exact xm_iret (pc := 45) (by decide +kernel) rfl rfl
  · refine xm_blk0 (pc' := 21) (lv' := [(0, .ref 0), (1, .int v1), (2, .int v2), (3, .int v3)]) (st' := [.int v1, .int v3, .ref 7]) (u' := (xU u)) [(.aload_n 0, (0, 0, 0), 0, 0), (.getfield 24, (3, 2, 208), 0, 0), (.iload_n 3, (0, 0, 0), 0, 0), (.iload_n 1, (0, 0, 0), 0, 0)] (by decide +kernel) rfl ?_
    refine xm_Vi (pc := 21) (mz := md_X0_valueOf_7) (idx := 214) (p1 := 475) (a := 7) (as := [.int v3, .int v1]) (st := []) (ev_X0_valueOf_7 v3 v1 u) mw_X0_valueOf (by decide +kernel) (by decide +kernel) (by decide) rfl rfl (by decide) rfl (Nat.le_of_ble_eq_true rfl) (fun r21 => ?_)
    refine xm_blk0 (pc' := 29) (lv' := [(0, .ref 0), (1, .int v1), (2, .int v2), (3, .int v3)]) (st' := [.int v1, .ref 19, .int r21]) (u' := (xU u)) [(.aload_n 0, (0, 0, 0), 0, 0), (.getfield 34, (3, 4, 210), 0, 0), (.iload_n 1, (0, 0, 0), 0, 0)] (by decide +kernel) rfl ?_
    refine xm_Vi (pc := 29) (mz := md_X2_lowerOf_19) (idx := 147) (p1 := 464) (a := 19) (as := [.int v1]) (st := [.int r21]) (ev_X2_lowerOf_19 v1 u) mw_X2_lowerOf (by decide +kernel) (by decide +kernel) (by decide) rfl rfl (by decide) rfl (Nat.le_of_ble_eq_true rfl) (fun r29 => ?_)
    refine xm_icmp_gt (pc := 32) (off := 6) (tgt := 38) (by decide +kernel) (by decide) ?_ ?_
    · exact go_X3_littleWays_L38 N u rec4 h4 v1 v2 v3
    · refine xm_blk0 (pc' := 38) (lv' := [(0, .ref 0), (1, .int v1), (2, .int (v2 + (1 : Int32))), (3, .int v3)]) (st' := []) (u' := (xU u)) [(.iinc 2 1, (0, 0, 0), 1, 0)] (by decide +kernel) rfl ?_
      exact go_X3_littleWays_L38 N u rec4 h4 v1 (v2 + (1 : Int32)) v3
def f_X3_littleWays_L4 (N : Nat) (u : xN) : Nat → Int32 → Int32 → Int32 → Option Int32
  | 0 => fun _ _ _ => none
  | n + 1 => fun v1 v2 v3 => f_X3_littleWays_L4b N u (f_X3_littleWays_L4 N u n) v1 v2 v3
theorem go_X3_littleWays_L4 (N : Nat) (u : xN) : ∀ (n : Nat) (v1 : Int32) (v2 : Int32) (v3 : Int32), xGm md_X3_littleWays (rsI (xU u)) (f_X3_littleWays_L4 N u n v1 v2 v3) 4 [(0, .ref 0), (1, .int v1), (2, .int v2), (3, .int v3)] [] (xU u) := by
  intro n
  induction n with
  | zero => intro v1 v2 v3; exact xm_none
  | succ n ih => intro v1 v2 v3; exact go_X3_littleWays_L4b N u _ ih v1 v2 v3
def f_X3_littleWays (N : Nat) (a1 : Int32) (u : xN) : Option Int32 := f_X3_littleWays_L4 N u N a1 (0 : Int32) (0 : Int32)
set_option maxRecDepth 20000 in
theorem go_X3_littleWays (N : Nat) (a1 : Int32) (u : xN) : xGm md_X3_littleWays (rsI (xU u)) (f_X3_littleWays N a1 u) 0 [(0, .ref 0), (1, .int a1)] [] (xU u) := by
  unfold f_X3_littleWays
  refine xm_blk0 (pc' := 4) (lv' := [(0, .ref 0), (1, .int a1), (2, .int (0 : Int32)), (3, .int (0 : Int32))]) (st' := []) (u' := (xU u)) [(.iconst 0, (0, 0, 0), 0, 0), (.istore_n 2, (0, 0, 0), 0, 0), (.iconst 0, (0, 0, 0), 0, 0), (.istore_n 3, (0, 0, 0), 0, 0)] (by decide +kernel) rfl ?_
  exact go_X3_littleWays_L4 N u N a1 (0 : Int32) (0 : Int32)
theorem ev_X3_littleWays (N : Nat) (a1 : Int32) (u : xN) : ∀ r, f_X3_littleWays N a1 u = some r → xEm md_X3_littleWays yX3_littleWays [.ref 0, .int a1] (xU u) (some (.int r), (xU u)) := xm_met (res := (rsI (xU u))) (as := [.ref 0, .int a1]) (go_X3_littleWays N a1 u) (by decide) rfl (Nat.le_of_ble_eq_true rfl)
theorem mw_X2_upperOf : xMv yX2_upperOf cX2_upperOf 2 (some .int) 1 := xMv_of (p1 := 463) (p2 := 461) (p3 := 96) (p4 := 462) (by decide +kernel)
/-! NeitherBare$Standing.upperOf(I)I (19, None) -/
abbrev md_X2_upperOf_19 : xMd := (cX2_upperOf, RX2, 2, some .int, 1)
def f_X2_upperOf_19 (a1 : Int32) (u : xN) : Option Int32 := gdl [inb (((2 : Int32) * a1) + (1 : Int32)) 8] (some (u.1 20 (Int32.toNatClampNeg (((2 : Int32) * a1) + (1 : Int32)))))
set_option maxRecDepth 20000 in
theorem go_X2_upperOf_19 (a1 : Int32) (u : xN) : xGm md_X2_upperOf_19 (rsI (xU u)) (f_X2_upperOf_19 a1 u) 0 [(0, .ref 19), (1, .int a1)] [] (xU u) := by
  unfold f_X2_upperOf_19
  refine xm_blk (bs := [inb (((2 : Int32) * a1) + (1 : Int32)) 8]) (pc' := 10) (lv' := [(0, .ref 19), (1, .int a1)]) (st' := [.int (u.1 20 (Int32.toNatClampNeg (((2 : Int32) * a1) + (1 : Int32))))]) (u' := (xU u)) [(.aload_n 0, (0, 0, 0), 0, 0), (.getfield 9, (2, 3, 184), 0, 0), (.iconst 2, (0, 0, 0), 2, 0), (.iload_n 1, (0, 0, 0), 0, 0), (.imul, (0, 0, 0), 0, 0), (.iconst 1, (0, 0, 0), 1, 0), (.iadd, (0, 0, 0), 0, 0), (.iaload, (0, 0, 0), 0, 0)] (by decide +kernel) rfl ?_
  exact xm_iret (pc := 10) (by decide +kernel) rfl rfl
theorem ev_X2_upperOf_19 (a1 : Int32) (u : xN) : ∀ r, f_X2_upperOf_19 a1 u = some r → xEm md_X2_upperOf_19 yX2_upperOf [.ref 19, .int a1] (xU u) (some (.int r), (xU u)) := xm_met (res := (rsI (xU u))) (as := [.ref 19, .int a1]) (go_X2_upperOf_19 a1 u) (by decide) rfl (Nat.le_of_ble_eq_true rfl)
theorem mw_X3_makersOf : xMv yX3_makersOf cX3_makersOf 4 (some .int) 1 := xMv_of (p1 := 474) (p2 := 473) (p3 := 92) (p4 := 15) (by decide +kernel)
/-! NeitherBare.makersOf(I)I (0, None) -/
abbrev md_X3_makersOf : xMd := (cX3_makersOf, RX3, 4, some .int, 3)
def f_X3_makersOf_L40 (N : Nat) (u : xN) (rec4 : Int32 → Int32 → Int32 → Option Int32) (v1 : Int32) (v2 : Int32) (v3 : Int32) : Option Int32 := rec4 v1 v2 (v3 + (1 : Int32))
set_option maxRecDepth 20000 in
theorem go_X3_makersOf_L40 (N : Nat) (u : xN) (rec4 : Int32 → Int32 → Int32 → Option Int32) (h4 : ∀ (v1 : Int32) (v2 : Int32) (v3 : Int32), xGm md_X3_makersOf (rsI (xU u)) (rec4 v1 v2 v3) 4 [(0, .ref 0), (1, .int v1), (2, .int v2), (3, .int v3)] [] (xU u)) (v1 : Int32) (v2 : Int32) (v3 : Int32) : xGm md_X3_makersOf (rsI (xU u)) (f_X3_makersOf_L40 N u rec4 v1 v2 v3) 40 [(0, .ref 0), (1, .int v1), (2, .int v2), (3, .int v3)] [] (xU u) := by
  unfold f_X3_makersOf_L40
  refine xm_blk0 (pc' := 43) (lv' := [(0, .ref 0), (1, .int v1), (2, .int v2), (3, .int (v3 + (1 : Int32)))]) (st' := []) (u' := (xU u)) [(.iinc 3 1, (0, 0, 0), 1, 0)] (by decide +kernel) rfl ?_
  refine xm_goto (pc := 43) (off := -39) (tgt := 4) (by decide +kernel) (by decide) ?_
  exact h4 v1 v2 (v3 + (1 : Int32))
def f_X3_makersOf_L4b (N : Nat) (u : xN) (rec4 : Int32 → Int32 → Int32 → Option Int32) (v1 : Int32) (v2 : Int32) (v3 : Int32) : Option Int32 := if (u.1 7 0) ≤ v3 then some v2 else Option.bind (f_X0_valueOf_7 ((1 : Int32) <<< (v3 &&& 31)) v1 u) (fun r23 => Option.bind (f_X2_upperOf_19 v1 u) (fun r31 => if r23 < r31 then f_X3_makersOf_L40 N u rec4 v1 v2 v3 else f_X3_makersOf_L40 N u rec4 v1 (v2 + (1 : Int32)) v3))
set_option maxRecDepth 20000 in
theorem go_X3_makersOf_L4b (N : Nat) (u : xN) (rec4 : Int32 → Int32 → Int32 → Option Int32) (h4 : ∀ (v1 : Int32) (v2 : Int32) (v3 : Int32), xGm md_X3_makersOf (rsI (xU u)) (rec4 v1 v2 v3) 4 [(0, .ref 0), (1, .int v1), (2, .int v2), (3, .int v3)] [] (xU u)) (v1 : Int32) (v2 : Int32) (v3 : Int32) : xGm md_X3_makersOf (rsI (xU u)) (f_X3_makersOf_L4b N u rec4 v1 v2 v3) 4 [(0, .ref 0), (1, .int v1), (2, .int v2), (3, .int v3)] [] (xU u) := by
  unfold f_X3_makersOf_L4b
  refine xm_blk0 (pc' := 12) (lv' := [(0, .ref 0), (1, .int v1), (2, .int v2), (3, .int v3)]) (st' := [.int (u.1 7 0), .int v3]) (u' := (xU u)) [(.iload_n 3, (0, 0, 0), 0, 0), (.aload_n 0, (0, 0, 0), 0, 0), (.getfield 24, (3, 2, 208), 0, 0), (.getfield 119, (0, 0, 143), 0, 0)] (by decide +kernel) rfl ?_
  refine xm_icmp_ge (pc := 12) (off := 34) (tgt := 46) (by decide +kernel) (by decide) ?_ ?_
  · refine xm_blk0 (pc' := 47) (lv' := [(0, .ref 0), (1, .int v1), (2, .int v2), (3, .int v3)]) (st' := [.int v2]) (u' := (xU u)) [(.iload_n 2, (0, 0, 0), 0, 0)] (by decide +kernel) rfl ?_
    exact xm_iret (pc := 47) (by decide +kernel) rfl rfl
  · refine xm_blk0 (pc' := 23) (lv' := [(0, .ref 0), (1, .int v1), (2, .int v2), (3, .int v3)]) (st' := [.int v1, .int ((1 : Int32) <<< (v3 &&& 31)), .ref 7]) (u' := (xU u)) [(.aload_n 0, (0, 0, 0), 0, 0), (.getfield 24, (3, 2, 208), 0, 0), (.iconst 1, (0, 0, 0), 1, 0), (.iload_n 3, (0, 0, 0), 0, 0), (.ishl, (0, 0, 0), 0, 0), (.iload_n 1, (0, 0, 0), 0, 0)] (by decide +kernel) rfl ?_
    refine xm_Vi (pc := 23) (mz := md_X0_valueOf_7) (idx := 214) (p1 := 475) (a := 7) (as := [.int ((1 : Int32) <<< (v3 &&& 31)), .int v1]) (st := []) (ev_X0_valueOf_7 ((1 : Int32) <<< (v3 &&& 31)) v1 u) mw_X0_valueOf (by decide +kernel) (by decide +kernel) (by decide) rfl rfl (by decide) rfl (Nat.le_of_ble_eq_true rfl) (fun r23 => ?_)
    refine xm_blk0 (pc' := 31) (lv' := [(0, .ref 0), (1, .int v1), (2, .int v2), (3, .int v3)]) (st' := [.int v1, .ref 19, .int r23]) (u' := (xU u)) [(.aload_n 0, (0, 0, 0), 0, 0), (.getfield 34, (3, 4, 210), 0, 0), (.iload_n 1, (0, 0, 0), 0, 0)] (by decide +kernel) rfl ?_
    refine xm_Vi (pc := 31) (mz := md_X2_upperOf_19) (idx := 144) (p1 := 460) (a := 19) (as := [.int v1]) (st := [.int r23]) (ev_X2_upperOf_19 v1 u) mw_X2_upperOf (by decide +kernel) (by decide +kernel) (by decide) rfl rfl (by decide) rfl (Nat.le_of_ble_eq_true rfl) (fun r31 => ?_)
    refine xm_icmp_lt (pc := 34) (off := 6) (tgt := 40) (by decide +kernel) (by decide) ?_ ?_
    · exact go_X3_makersOf_L40 N u rec4 h4 v1 v2 v3
    · refine xm_blk0 (pc' := 40) (lv' := [(0, .ref 0), (1, .int v1), (2, .int (v2 + (1 : Int32))), (3, .int v3)]) (st' := []) (u' := (xU u)) [(.iinc 2 1, (0, 0, 0), 1, 0)] (by decide +kernel) rfl ?_
      exact go_X3_makersOf_L40 N u rec4 h4 v1 (v2 + (1 : Int32)) v3
def f_X3_makersOf_L4 (N : Nat) (u : xN) : Nat → Int32 → Int32 → Int32 → Option Int32
  | 0 => fun _ _ _ => none
  | n + 1 => fun v1 v2 v3 => f_X3_makersOf_L4b N u (f_X3_makersOf_L4 N u n) v1 v2 v3
theorem go_X3_makersOf_L4 (N : Nat) (u : xN) : ∀ (n : Nat) (v1 : Int32) (v2 : Int32) (v3 : Int32), xGm md_X3_makersOf (rsI (xU u)) (f_X3_makersOf_L4 N u n v1 v2 v3) 4 [(0, .ref 0), (1, .int v1), (2, .int v2), (3, .int v3)] [] (xU u) := by
  intro n
  induction n with
  | zero => intro v1 v2 v3; exact xm_none
  | succ n ih => intro v1 v2 v3; exact go_X3_makersOf_L4b N u _ ih v1 v2 v3
def f_X3_makersOf (N : Nat) (a1 : Int32) (u : xN) : Option Int32 := f_X3_makersOf_L4 N u N a1 (0 : Int32) (0 : Int32)
set_option maxRecDepth 20000 in
theorem go_X3_makersOf (N : Nat) (a1 : Int32) (u : xN) : xGm md_X3_makersOf (rsI (xU u)) (f_X3_makersOf N a1 u) 0 [(0, .ref 0), (1, .int a1)] [] (xU u) := by
  unfold f_X3_makersOf
  refine xm_blk0 (pc' := 4) (lv' := [(0, .ref 0), (1, .int a1), (2, .int (0 : Int32)), (3, .int (0 : Int32))]) (st' := []) (u' := (xU u)) [(.iconst 0, (0, 0, 0), 0, 0), (.istore_n 2, (0, 0, 0), 0, 0), (.iconst 0, (0, 0, 0), 0, 0), (.istore_n 3, (0, 0, 0), 0, 0)] (by decide +kernel) rfl ?_
  exact go_X3_makersOf_L4 N u N a1 (0 : Int32) (0 : Int32)
theorem ev_X3_makersOf (N : Nat) (a1 : Int32) (u : xN) : ∀ r, f_X3_makersOf N a1 u = some r → xEm md_X3_makersOf yX3_makersOf [.ref 0, .int a1] (xU u) (some (.int r), (xU u)) := xm_met (res := (rsI (xU u))) (as := [.ref 0, .int a1]) (go_X3_makersOf N a1 u) (by decide) rfl (Nat.le_of_ble_eq_true rfl)
theorem mw_X3_halfOf : xMv yX3_halfOf cX3_halfOf 3 (some .int) 1 := xMv_of (p1 := 479) (p2 := 478) (p3 := 92) (p4 := 16) (by decide +kernel)
/-! NeitherBare.halfOf(I)I (0, None) -/
abbrev md_X3_halfOf : xMd := (cX3_halfOf, RX3, 3, some .int, 2)
def f_X3_halfOf_L38 (u : xN) (t0 : Int32) : Option Int32 := some t0
set_option maxRecDepth 20000 in
theorem go_X3_halfOf_L38 (u : xN) (t0 : Int32) : xGm md_X3_halfOf (rsI (xU u)) (f_X3_halfOf_L38 u t0) 38 [] [.int t0] (xU u) := by
  unfold f_X3_halfOf_L38
  exact xm_iret (pc := 38) (by decide +kernel) rfl rfl
def f_X3_halfOf (a1 : Int32) (u : xN) : Option Int32 := Option.bind (f_X2_lowerOf_19 a1 u) (fun r5 => Option.bind (f_X2_upperOf_19 a1 u) (fun r13 => gdl [nzi (2 : Int32)] (Option.bind (f_X2_lowerOf_19 a1 u) (fun r26 => if ((r5 + r13) / (2 : Int32)) ≤ r26 then f_X3_halfOf_L38 u (-9 : Int32) else f_X3_halfOf_L38 u ((r5 + r13) / (2 : Int32))))))
set_option maxRecDepth 20000 in
theorem go_X3_halfOf (a1 : Int32) (u : xN) : xGm md_X3_halfOf (rsI (xU u)) (f_X3_halfOf a1 u) 0 [(0, .ref 0), (1, .int a1)] [] (xU u) := by
  unfold f_X3_halfOf
  refine xm_blk0 (pc' := 5) (lv' := [(0, .ref 0), (1, .int a1)]) (st' := [.int a1, .ref 19]) (u' := (xU u)) [(.aload_n 0, (0, 0, 0), 0, 0), (.getfield 34, (3, 4, 210), 0, 0), (.iload_n 1, (0, 0, 0), 0, 0)] (by decide +kernel) rfl ?_
  refine xm_Vi (pc := 5) (mz := md_X2_lowerOf_19) (idx := 147) (p1 := 464) (a := 19) (as := [.int a1]) (st := []) (ev_X2_lowerOf_19 a1 u) mw_X2_lowerOf (by decide +kernel) (by decide +kernel) (by decide) rfl rfl (by decide) rfl (Nat.le_of_ble_eq_true rfl) (fun r5 => ?_)
  refine xm_blk0 (pc' := 13) (lv' := [(0, .ref 0), (1, .int a1)]) (st' := [.int a1, .ref 19, .int r5]) (u' := (xU u)) [(.aload_n 0, (0, 0, 0), 0, 0), (.getfield 34, (3, 4, 210), 0, 0), (.iload_n 1, (0, 0, 0), 0, 0)] (by decide +kernel) rfl ?_
  refine xm_Vi (pc := 13) (mz := md_X2_upperOf_19) (idx := 144) (p1 := 460) (a := 19) (as := [.int a1]) (st := [.int r5]) (ev_X2_upperOf_19 a1 u) mw_X2_upperOf (by decide +kernel) (by decide +kernel) (by decide) rfl rfl (by decide) rfl (Nat.le_of_ble_eq_true rfl) (fun r13 => ?_)
  refine xm_blk (bs := [nzi (2 : Int32)]) (pc' := 26) (lv' := [(0, .ref 0), (1, .int a1), (2, .int ((r5 + r13) / (2 : Int32)))]) (st' := [.int a1, .ref 19, .int ((r5 + r13) / (2 : Int32))]) (u' := (xU u)) [(.iadd, (0, 0, 0), 0, 0), (.iconst 2, (0, 0, 0), 2, 0), (.idiv, (0, 0, 0), 0, 0), (.istore_n 2, (0, 0, 0), 0, 0), (.iload_n 2, (0, 0, 0), 0, 0), (.aload_n 0, (0, 0, 0), 0, 0), (.getfield 34, (3, 4, 210), 0, 0), (.iload_n 1, (0, 0, 0), 0, 0)] (by decide +kernel) rfl ?_
  refine xm_Vi (pc := 26) (mz := md_X2_lowerOf_19) (idx := 147) (p1 := 464) (a := 19) (as := [.int a1]) (st := [.int ((r5 + r13) / (2 : Int32))]) (ev_X2_lowerOf_19 a1 u) mw_X2_lowerOf (by decide +kernel) (by decide +kernel) (by decide) rfl rfl (by decide) rfl (Nat.le_of_ble_eq_true rfl) (fun r26 => ?_)
  refine xm_icmp_le (pc := 29) (off := 7) (tgt := 36) (by decide +kernel) (by decide) ?_ ?_
  · refine xm_blk0 (pc' := 38) (lv' := [(0, .ref 0), (1, .int a1), (2, .int ((r5 + r13) / (2 : Int32)))]) (st' := [.int (-9 : Int32)]) (u' := (xU u)) [(.bipush (-9), (0, 0, 0), -9, 0)] (by decide +kernel) rfl ?_
    refine xm_wk [] (lv' := []) rfl ?_
    exact go_X3_halfOf_L38 u (-9 : Int32)
  · refine xm_blk0 (pc' := 33) (lv' := [(0, .ref 0), (1, .int a1), (2, .int ((r5 + r13) / (2 : Int32)))]) (st' := [.int ((r5 + r13) / (2 : Int32))]) (u' := (xU u)) [(.iload_n 2, (0, 0, 0), 0, 0)] (by decide +kernel) rfl ?_
    refine xm_goto (pc := 33) (off := 5) (tgt := 38) (by decide +kernel) (by decide) ?_
    refine xm_wk [] (lv' := []) rfl ?_
    exact go_X3_halfOf_L38 u ((r5 + r13) / (2 : Int32))
theorem ev_X3_halfOf (a1 : Int32) (u : xN) : ∀ r, f_X3_halfOf a1 u = some r → xEm md_X3_halfOf yX3_halfOf [.ref 0, .int a1] (xU u) (some (.int r), (xU u)) := xm_met (res := (rsI (xU u))) (as := [.ref 0, .int a1]) (go_X3_halfOf a1 u) (by decide) rfl (Nat.le_of_ble_eq_true rfl)
theorem mw_X3_mark : xMv yX3_mark cX3_mark 5 (some .int) 2 := xMv_of (p1 := 457) (p2 := 455) (p3 := 92) (p4 := 456) (by decide +kernel)
/-! NeitherBare.mark(II)I (0, None, None) -/
abbrev md_X3_mark : xMd := (cX3_mark, RX3, 5, some .int, 4)
def f_X3_mark_L18 (N : Nat) (u : xN) : Option (Int32 × xN) := some ((-1 : Int32), u)
set_option maxRecDepth 20000 in
theorem go_X3_mark_L18 (N : Nat) (u : xN) : xGm md_X3_mark rsM (f_X3_mark_L18 N u) 18 [] [] (xU u) := by
  unfold f_X3_mark_L18
  refine xm_blk0 (pc' := 19) (lv' := []) (st' := [.int (-1 : Int32)]) (u' := (xU u)) [(.iconst (-1), (0, 0, 0), -1, 0)] (by decide +kernel) rfl ?_
  exact xm_iret (pc := 19) (by decide +kernel) rfl rfl
def f_X3_mark (N : Nat) (a1 : Int32) (a2 : Int32) (u : xN) : Option (Int32 × xN) := Option.bind (f_X3_isClause a1 u) (fun r2 => if r2 = (0 : Int32) then f_X3_mark_L18 N u else if a2 < (1 : Int32) then f_X3_mark_L18 N u else if a2 ≤ (5 : Int32) then (gdl [inb a1 8] (Option.bind (f_X3_isOfKind (u.1 10 (Int32.toNatClampNeg a1)) a2 u) (fun r30 => if r30 = (0 : Int32) then Option.bind (f_X3_refuse (3 : Int32) u) (fun r38 => some (r38.1, r38.2)) else gdl [inb a1 8] (Option.bind (f_X0_secondOf_7 a1 u) (fun r57 => if Int32.toInt a2 < 1 ∨ 4 < Int32.toInt a2 then (Option.bind (f_X3_littleWays N r57 u) (fun r148 => some (r148, u))) else if a2 = (1 : Int32) then (Option.bind (f_X2_upperOf_19 (u.1 11 (Int32.toNatClampNeg a1)) u) (fun r97 => Option.bind (f_X2_lowerOf_19 (u.1 11 (Int32.toNatClampNeg a1)) u) (fun r105 => some (((r97 - r105) - (1 : Int32)), u)))) else if a2 = (2 : Int32) then (Option.bind (f_X2_upperOf_19 (u.1 11 (Int32.toNatClampNeg a1)) u) (fun r117 => Option.bind (f_X2_upperOf_19 r57 u) (fun r126 => some ((if r117 < r126 then r126 else r117), u)))) else if a2 = (3 : Int32) then (Option.bind (f_X3_makersOf N (u.1 11 (Int32.toNatClampNeg a1)) u) (fun r135 => some (r135, u))) else if a2 = (4 : Int32) then (Option.bind (f_X3_halfOf (u.1 11 (Int32.toNatClampNeg a1)) u) (fun r141 => some (r141, u))) else none))))) else f_X3_mark_L18 N u)
set_option maxRecDepth 20000 in
theorem go_X3_mark (N : Nat) (a1 : Int32) (a2 : Int32) (u : xN) : xGm md_X3_mark rsM (f_X3_mark N a1 a2 u) 0 [(0, .ref 0), (1, .int a1), (2, .int a2)] [] (xU u) := by
  unfold f_X3_mark
  refine xm_blk0 (pc' := 2) (lv' := [(0, .ref 0), (1, .int a1), (2, .int a2)]) (st' := [.int a1, .ref 0]) (u' := (xU u)) [(.aload_n 0, (0, 0, 0), 0, 0), (.iload_n 1, (0, 0, 0), 0, 0)] (by decide +kernel) rfl ?_
  refine xm_Vi (pc := 2) (mz := md_X3_isClause) (idx := 125) (p1 := 411) (a := 0) (as := [.int a1]) (st := []) (ev_X3_isClause a1 u) mw_X3_isClause (by decide +kernel) (by decide +kernel) (by decide) rfl rfl (by decide) rfl (Nat.le_of_ble_eq_true rfl) (fun r2 => ?_)
  refine xm_if_eq (pc := 5) (off := 13) (tgt := 18) (by decide +kernel) (by decide) ?_ ?_
  · refine xm_wk [] (lv' := []) rfl ?_
    exact go_X3_mark_L18 N u
  · refine xm_blk0 (pc' := 10) (lv' := [(0, .ref 0), (1, .int a1), (2, .int a2)]) (st' := [.int (1 : Int32), .int a2]) (u' := (xU u)) [(.iload_n 2, (0, 0, 0), 0, 0), (.iconst 1, (0, 0, 0), 1, 0)] (by decide +kernel) rfl ?_
    refine xm_icmp_lt (pc := 10) (off := 8) (tgt := 18) (by decide +kernel) (by decide) ?_ ?_
    · refine xm_wk [] (lv' := []) rfl ?_
      exact go_X3_mark_L18 N u
    · refine xm_blk0 (pc' := 15) (lv' := [(0, .ref 0), (1, .int a1), (2, .int a2)]) (st' := [.int (5 : Int32), .int a2]) (u' := (xU u)) [(.iload_n 2, (0, 0, 0), 0, 0), (.iconst 5, (0, 0, 0), 5, 0)] (by decide +kernel) rfl ?_
      refine xm_icmp_le (pc := 15) (off := 5) (tgt := 20) (by decide +kernel) (by decide) ?_ ?_
      · refine xm_blk (bs := [inb a1 8]) (pc' := 30) (lv' := [(0, .ref 0), (1, .int a1), (2, .int a2)]) (st' := [.int a2, .int (u.1 10 (Int32.toNatClampNeg a1))]) (u' := (xU u)) [(.aload_n 0, (0, 0, 0), 0, 0), (.getfield 24, (3, 2, 208), 0, 0), (.getfield 131, (0, 5, 151), 0, 0), (.iload_n 1, (0, 0, 0), 0, 0), (.iaload, (0, 0, 0), 0, 0), (.iload_n 2, (0, 0, 0), 0, 0)] (by decide +kernel) rfl ?_
        refine xm_Si (pc := 30) (mz := md_X3_isOfKind) (idx := 134) (p1 := 458) (as := [.int (u.1 10 (Int32.toNatClampNeg a1)), .int a2]) (st := []) (ev_X3_isOfKind (u.1 10 (Int32.toNatClampNeg a1)) a2 u) mw_X3_isOfKind (by decide +kernel) (by decide +kernel) (by decide) rfl (Nat.le_of_ble_eq_true rfl) (fun r30 => ?_)
        refine xm_if_ne (pc := 33) (off := 9) (tgt := 42) (by decide +kernel) (by decide) ?_ ?_
        · refine xm_blk (bs := [inb a1 8]) (pc' := 57) (lv' := [(0, .ref 0), (1, .int a1), (2, .int a2), (3, .int (u.1 11 (Int32.toNatClampNeg a1)))]) (st' := [.int a1, .ref 7]) (u' := (xU u)) [(.aload_n 0, (0, 0, 0), 0, 0), (.getfield 24, (3, 2, 208), 0, 0), (.getfield 138, (0, 6, 153), 0, 0), (.iload_n 1, (0, 0, 0), 0, 0), (.iaload, (0, 0, 0), 0, 0), (.istore_n 3, (0, 0, 0), 0, 0), (.aload_n 0, (0, 0, 0), 0, 0), (.getfield 24, (3, 2, 208), 0, 0), (.iload_n 1, (0, 0, 0), 0, 0)] (by decide +kernel) rfl ?_
          refine xm_Vi (pc := 57) (mz := md_X0_secondOf_7) (idx := 141) (p1 := 459) (a := 7) (as := [.int a1]) (st := []) (ev_X0_secondOf_7 a1 u) mw_X0_secondOf (by decide +kernel) (by decide +kernel) (by decide) rfl rfl (by decide) rfl (Nat.le_of_ble_eq_true rfl) (fun r57 => ?_)
          refine xm_blk0 (pc' := 63) (lv' := [(0, .ref 0), (1, .int a1), (2, .int a2), (3, .int (u.1 11 (Int32.toNatClampNeg a1))), (4, .int r57)]) (st' := [.int a2]) (u' := (xU u)) [(.istore 4, (0, 0, 0), 0, 0), (.iload_n 2, (0, 0, 0), 0, 0)] (by decide +kernel) rfl ?_
          refine xm_tout (pc := 63) (tgt := 145) (dflt := 82) (lo := 1) (hi := 4) (offs := #[29, 49, 70, 76]) (len := 29) (by decide +kernel) (by decide) ?_ ?_
          · refine xm_blk0 (pc' := 148) (lv' := [(0, .ref 0), (1, .int a1), (2, .int a2), (3, .int (u.1 11 (Int32.toNatClampNeg a1))), (4, .int r57)]) (st' := [.int r57, .ref 0]) (u' := (xU u)) [(.aload_n 0, (0, 0, 0), 0, 0), (.iload 4, (0, 0, 0), 0, 0)] (by decide +kernel) rfl ?_
            refine xm_Vi (pc := 148) (mz := md_X3_littleWays) (idx := 161) (p1 := 480) (a := 0) (as := [.int r57]) (st := []) (ev_X3_littleWays N r57 u) mw_X3_littleWays (by decide +kernel) (by decide +kernel) (by decide) rfl rfl (by decide) rfl (Nat.le_of_ble_eq_true rfl) (fun r148 => ?_)
            exact xm_iret (pc := 151) (by decide +kernel) rfl rfl
          · refine xm_tin (pc := 63) (tgt := 92) (off := 29) (dflt := 82) (lo := 1) (hi := 4) (offs := #[29, 49, 70, 76]) (len := 29) (1 : Int32) (by decide +kernel) (by decide) (by decide) (by decide) (by decide) ?_ ?_
            · refine xm_blk0 (pc' := 97) (lv' := [(0, .ref 0), (1, .int a1), (2, .int a2), (3, .int (u.1 11 (Int32.toNatClampNeg a1))), (4, .int r57)]) (st' := [.int (u.1 11 (Int32.toNatClampNeg a1)), .ref 19]) (u' := (xU u)) [(.aload_n 0, (0, 0, 0), 0, 0), (.getfield 34, (3, 4, 210), 0, 0), (.iload_n 3, (0, 0, 0), 0, 0)] (by decide +kernel) rfl ?_
              refine xm_Vi (pc := 97) (mz := md_X2_upperOf_19) (idx := 144) (p1 := 460) (a := 19) (as := [.int (u.1 11 (Int32.toNatClampNeg a1))]) (st := []) (ev_X2_upperOf_19 (u.1 11 (Int32.toNatClampNeg a1)) u) mw_X2_upperOf (by decide +kernel) (by decide +kernel) (by decide) rfl rfl (by decide) rfl (Nat.le_of_ble_eq_true rfl) (fun r97 => ?_)
              refine xm_blk0 (pc' := 105) (lv' := [(0, .ref 0), (1, .int a1), (2, .int a2), (3, .int (u.1 11 (Int32.toNatClampNeg a1))), (4, .int r57)]) (st' := [.int (u.1 11 (Int32.toNatClampNeg a1)), .ref 19, .int r97]) (u' := (xU u)) [(.aload_n 0, (0, 0, 0), 0, 0), (.getfield 34, (3, 4, 210), 0, 0), (.iload_n 3, (0, 0, 0), 0, 0)] (by decide +kernel) rfl ?_
              refine xm_Vi (pc := 105) (mz := md_X2_lowerOf_19) (idx := 147) (p1 := 464) (a := 19) (as := [.int (u.1 11 (Int32.toNatClampNeg a1))]) (st := [.int r97]) (ev_X2_lowerOf_19 (u.1 11 (Int32.toNatClampNeg a1)) u) mw_X2_lowerOf (by decide +kernel) (by decide +kernel) (by decide) rfl rfl (by decide) rfl (Nat.le_of_ble_eq_true rfl) (fun r105 => ?_)
              refine xm_blk0 (pc' := 111) (lv' := [(0, .ref 0), (1, .int a1), (2, .int a2), (3, .int (u.1 11 (Int32.toNatClampNeg a1))), (4, .int r57)]) (st' := [.int ((r97 - r105) - (1 : Int32))]) (u' := (xU u)) [(.isub, (0, 0, 0), 0, 0), (.iconst 1, (0, 0, 0), 1, 0), (.isub, (0, 0, 0), 0, 0)] (by decide +kernel) rfl ?_
              exact xm_iret (pc := 111) (by decide +kernel) rfl rfl
            refine xm_tin (pc := 63) (tgt := 112) (off := 49) (dflt := 82) (lo := 1) (hi := 4) (offs := #[29, 49, 70, 76]) (len := 29) (2 : Int32) (by decide +kernel) (by decide) (by decide) (by decide) (by decide) ?_ ?_
            · refine xm_blk0 (pc' := 117) (lv' := [(0, .ref 0), (1, .int a1), (2, .int a2), (3, .int (u.1 11 (Int32.toNatClampNeg a1))), (4, .int r57)]) (st' := [.int (u.1 11 (Int32.toNatClampNeg a1)), .ref 19]) (u' := (xU u)) [(.aload_n 0, (0, 0, 0), 0, 0), (.getfield 34, (3, 4, 210), 0, 0), (.iload_n 3, (0, 0, 0), 0, 0)] (by decide +kernel) rfl ?_
              refine xm_Vi (pc := 117) (mz := md_X2_upperOf_19) (idx := 144) (p1 := 460) (a := 19) (as := [.int (u.1 11 (Int32.toNatClampNeg a1))]) (st := []) (ev_X2_upperOf_19 (u.1 11 (Int32.toNatClampNeg a1)) u) mw_X2_upperOf (by decide +kernel) (by decide +kernel) (by decide) rfl rfl (by decide) rfl (Nat.le_of_ble_eq_true rfl) (fun r117 => ?_)
              refine xm_blk0 (pc' := 126) (lv' := [(0, .ref 0), (1, .int a1), (2, .int a2), (3, .int (u.1 11 (Int32.toNatClampNeg a1))), (4, .int r57)]) (st' := [.int r57, .ref 19, .int r117]) (u' := (xU u)) [(.aload_n 0, (0, 0, 0), 0, 0), (.getfield 34, (3, 4, 210), 0, 0), (.iload 4, (0, 0, 0), 0, 0)] (by decide +kernel) rfl ?_
              refine xm_Vi (pc := 126) (mz := md_X2_upperOf_19) (idx := 144) (p1 := 460) (a := 19) (as := [.int r57]) (st := [.int r117]) (ev_X2_upperOf_19 r57 u) mw_X2_upperOf (by decide +kernel) (by decide +kernel) (by decide) rfl rfl (by decide) rfl (Nat.le_of_ble_eq_true rfl) (fun r126 => ?_)
              refine xm_mmax (pc := 129) (idx := 150) (p1 := 468) (by decide +kernel) (by decide +kernel) (by decide) (Nat.le_of_ble_eq_true rfl) ?_
              exact xm_iret (pc := 132) (by decide +kernel) rfl rfl
            refine xm_tin (pc := 63) (tgt := 133) (off := 70) (dflt := 82) (lo := 1) (hi := 4) (offs := #[29, 49, 70, 76]) (len := 29) (3 : Int32) (by decide +kernel) (by decide) (by decide) (by decide) (by decide) ?_ ?_
            · refine xm_blk0 (pc' := 135) (lv' := [(0, .ref 0), (1, .int a1), (2, .int a2), (3, .int (u.1 11 (Int32.toNatClampNeg a1))), (4, .int r57)]) (st' := [.int (u.1 11 (Int32.toNatClampNeg a1)), .ref 0]) (u' := (xU u)) [(.aload_n 0, (0, 0, 0), 0, 0), (.iload_n 3, (0, 0, 0), 0, 0)] (by decide +kernel) rfl ?_
              refine xm_Vi (pc := 135) (mz := md_X3_makersOf) (idx := 155) (p1 := 471) (a := 0) (as := [.int (u.1 11 (Int32.toNatClampNeg a1))]) (st := []) (ev_X3_makersOf N (u.1 11 (Int32.toNatClampNeg a1)) u) mw_X3_makersOf (by decide +kernel) (by decide +kernel) (by decide) rfl rfl (by decide) rfl (Nat.le_of_ble_eq_true rfl) (fun r135 => ?_)
              exact xm_iret (pc := 138) (by decide +kernel) rfl rfl
            refine xm_tin (pc := 63) (tgt := 139) (off := 76) (dflt := 82) (lo := 1) (hi := 4) (offs := #[29, 49, 70, 76]) (len := 29) (4 : Int32) (by decide +kernel) (by decide) (by decide) (by decide) (by decide) ?_ ?_
            · refine xm_blk0 (pc' := 141) (lv' := [(0, .ref 0), (1, .int a1), (2, .int a2), (3, .int (u.1 11 (Int32.toNatClampNeg a1))), (4, .int r57)]) (st' := [.int (u.1 11 (Int32.toNatClampNeg a1)), .ref 0]) (u' := (xU u)) [(.aload_n 0, (0, 0, 0), 0, 0), (.iload_n 3, (0, 0, 0), 0, 0)] (by decide +kernel) rfl ?_
              refine xm_Vi (pc := 141) (mz := md_X3_halfOf) (idx := 158) (p1 := 476) (a := 0) (as := [.int (u.1 11 (Int32.toNatClampNeg a1))]) (st := []) (ev_X3_halfOf (u.1 11 (Int32.toNatClampNeg a1)) u) mw_X3_halfOf (by decide +kernel) (by decide +kernel) (by decide) rfl rfl (by decide) rfl (Nat.le_of_ble_eq_true rfl) (fun r141 => ?_)
              exact xm_iret (pc := 144) (by decide +kernel) rfl rfl
            exact xm_none
        · refine xm_blk0 (pc' := 38) (lv' := [(0, .ref 0), (1, .int a1), (2, .int a2)]) (st' := [.int (3 : Int32), .ref 0]) (u' := (xU u)) [(.aload_n 0, (0, 0, 0), 0, 0), (.iconst 3, (0, 0, 0), 3, 0)] (by decide +kernel) rfl ?_
          refine xm_Vm (pc := 38) (mz := md_X3_refuse) (idx := 89) (p1 := 258) (a := 0) (as := [.int (3 : Int32)]) (st := []) (ev_X3_refuse (3 : Int32) u) mw_X3_refuse (by decide +kernel) (by decide +kernel) (by decide) rfl rfl (by decide) rfl (Nat.le_of_ble_eq_true rfl) (fun r38 => ?_)
          exact xm_iret (pc := 41) (by decide +kernel) rfl rfl
      · refine xm_wk [] (lv' := []) rfl ?_
        exact go_X3_mark_L18 N u
theorem ev_X3_mark (N : Nat) (a1 : Int32) (a2 : Int32) (u : xN) : ∀ r, f_X3_mark N a1 a2 u = some r → xEm md_X3_mark yX3_mark [.ref 0, .int a1, .int a2] (xU u) (some (.int r.1), xU r.2) := xm_met (res := rsM) (as := [.ref 0, .int a1, .int a2]) (go_X3_mark N a1 a2 u) (by decide) rfl (Nat.le_of_ble_eq_true rfl)
theorem mw_X3_isFlag : xMs yX3_isFlag cX3_isFlag 1 (some .boolean) 1 := xMs_of (p1 := 491) (p2 := 490) (p3 := 92) (by decide +kernel)
/-! NeitherBare.isFlag(I)Z  -/
abbrev md_X3_isFlag : xMd := (cX3_isFlag, RX3, 1, some .boolean, 1)
def f_X3_isFlag_L14 (t0 : Int32) : Option Int32 := gdl [isb t0] (some t0)
set_option maxRecDepth 20000 in
theorem go_X3_isFlag_L14 (u : xN) (t0 : Int32) : xGm md_X3_isFlag (rsI (xU u)) (f_X3_isFlag_L14 t0) 14 [] [.int t0] (xU u) := by
  unfold f_X3_isFlag_L14
  exact xm_zret (pc := 14) (by decide +kernel) rfl rfl
def f_X3_isFlag_L9  : Option Int32 := f_X3_isFlag_L14 (1 : Int32)
set_option maxRecDepth 20000 in
theorem go_X3_isFlag_L9 (u : xN) : xGm md_X3_isFlag (rsI (xU u)) (f_X3_isFlag_L9) 9 [] [] (xU u) := by
  unfold f_X3_isFlag_L9
  refine xm_blk0 (pc' := 10) (lv' := []) (st' := [.int (1 : Int32)]) (u' := (xU u)) [(.iconst 1, (0, 0, 0), 1, 0)] (by decide +kernel) rfl ?_
  refine xm_goto (pc := 10) (off := 4) (tgt := 14) (by decide +kernel) (by decide) ?_
  exact go_X3_isFlag_L14 u (1 : Int32)
def f_X3_isFlag (a0 : Int32) : Option Int32 := if a0 = (0 : Int32) then f_X3_isFlag_L9 else if a0 = (1 : Int32) then f_X3_isFlag_L9 else f_X3_isFlag_L14 (0 : Int32)
set_option maxRecDepth 20000 in
theorem go_X3_isFlag (a0 : Int32) (u : xN) : xGm md_X3_isFlag (rsI (xU u)) (f_X3_isFlag a0) 0 [(0, .int a0)] [] (xU u) := by
  unfold f_X3_isFlag
  refine xm_blk0 (pc' := 1) (lv' := [(0, .int a0)]) (st' := [.int a0]) (u' := (xU u)) [(.iload_n 0, (0, 0, 0), 0, 0)] (by decide +kernel) rfl ?_
  refine xm_if_eq (pc := 1) (off := 8) (tgt := 9) (by decide +kernel) (by decide) ?_ ?_
  · refine xm_wk [] (lv' := []) rfl ?_
    exact go_X3_isFlag_L9 u
  · refine xm_blk0 (pc' := 6) (lv' := [(0, .int a0)]) (st' := [.int (1 : Int32), .int a0]) (u' := (xU u)) [(.iload_n 0, (0, 0, 0), 0, 0), (.iconst 1, (0, 0, 0), 1, 0)] (by decide +kernel) rfl ?_
    refine xm_icmp_ne (pc := 6) (off := 7) (tgt := 13) (by decide +kernel) (by decide) ?_ ?_
    · refine xm_blk0 (pc' := 14) (lv' := [(0, .int a0)]) (st' := [.int (0 : Int32)]) (u' := (xU u)) [(.iconst 0, (0, 0, 0), 0, 0)] (by decide +kernel) rfl ?_
      refine xm_wk [] (lv' := []) rfl ?_
      exact go_X3_isFlag_L14 u (0 : Int32)
    · refine xm_wk [] (lv' := []) rfl ?_
      exact go_X3_isFlag_L9 u
theorem ev_X3_isFlag (a0 : Int32) (u : xN) : ∀ r, f_X3_isFlag a0 = some r → xEm md_X3_isFlag yX3_isFlag [.int a0] (xU u) (some (.int r), (xU u)) := xm_met (res := (rsI (xU u))) (as := [.int a0]) (go_X3_isFlag a0 u) (by decide) rfl (Nat.le_of_ble_eq_true rfl)
theorem mw_X3_border : xMv yX3_border cX3_border 3 (some .int) 2 := xMv_of (p1 := 487) (p2 := 485) (p3 := 92) (p4 := 486) (by decide +kernel)
/-! NeitherBare.border(II)I (0, None, None) -/
abbrev md_X3_border : xMd := (cX3_border, RX3, 3, some .int, 2)
def f_X3_border_L14 (u : xN) : Option Int32 := some (-1 : Int32)
set_option maxRecDepth 20000 in
theorem go_X3_border_L14 (u : xN) : xGm md_X3_border (rsI (xU u)) (f_X3_border_L14 u) 14 [] [] (xU u) := by
  unfold f_X3_border_L14
  refine xm_blk0 (pc' := 15) (lv' := []) (st' := [.int (-1 : Int32)]) (u' := (xU u)) [(.iconst (-1), (0, 0, 0), -1, 0)] (by decide +kernel) rfl ?_
  exact xm_iret (pc := 15) (by decide +kernel) rfl rfl
def f_X3_border (a1 : Int32) (a2 : Int32) (u : xN) : Option Int32 := Option.bind (f_X3_isTrait a1) (fun r1 => if r1 = (0 : Int32) then f_X3_border_L14 u else Option.bind (f_X3_isFlag a2) (fun r8 => if r8 = (0 : Int32) then f_X3_border_L14 u else gdl [inb (((2 : Int32) * a1) + a2) 8] (some (u.1 20 (Int32.toNatClampNeg (((2 : Int32) * a1) + a2))))))
set_option maxRecDepth 20000 in
theorem go_X3_border (a1 : Int32) (a2 : Int32) (u : xN) : xGm md_X3_border (rsI (xU u)) (f_X3_border a1 a2 u) 0 [(0, .ref 0), (1, .int a1), (2, .int a2)] [] (xU u) := by
  unfold f_X3_border
  refine xm_blk0 (pc' := 1) (lv' := [(0, .ref 0), (1, .int a1), (2, .int a2)]) (st' := [.int a1]) (u' := (xU u)) [(.iload_n 1, (0, 0, 0), 0, 0)] (by decide +kernel) rfl ?_
  refine xm_Si (pc := 1) (mz := md_X3_isTrait) (idx := 164) (p1 := 488) (as := [.int a1]) (st := []) (ev_X3_isTrait a1 u) mw_X3_isTrait (by decide +kernel) (by decide +kernel) (by decide) rfl (Nat.le_of_ble_eq_true rfl) (fun r1 => ?_)
  refine xm_if_eq (pc := 4) (off := 10) (tgt := 14) (by decide +kernel) (by decide) ?_ ?_
  · refine xm_wk [] (lv' := []) rfl ?_
    exact go_X3_border_L14 u
  · refine xm_blk0 (pc' := 8) (lv' := [(0, .ref 0), (1, .int a1), (2, .int a2)]) (st' := [.int a2]) (u' := (xU u)) [(.iload_n 2, (0, 0, 0), 0, 0)] (by decide +kernel) rfl ?_
    refine xm_Si (pc := 8) (mz := md_X3_isFlag) (idx := 167) (p1 := 489) (as := [.int a2]) (st := []) (ev_X3_isFlag a2 u) mw_X3_isFlag (by decide +kernel) (by decide +kernel) (by decide) rfl (Nat.le_of_ble_eq_true rfl) (fun r8 => ?_)
    refine xm_if_ne (pc := 11) (off := 5) (tgt := 16) (by decide +kernel) (by decide) ?_ ?_
    · refine xm_blk (bs := [inb (((2 : Int32) * a1) + a2) 8]) (pc' := 29) (lv' := [(0, .ref 0), (1, .int a1), (2, .int a2)]) (st' := [.int (u.1 20 (Int32.toNatClampNeg (((2 : Int32) * a1) + a2)))]) (u' := (xU u)) [(.aload_n 0, (0, 0, 0), 0, 0), (.getfield 34, (3, 4, 210), 0, 0), (.getfield 170, (2, 3, 185), 0, 0), (.iconst 2, (0, 0, 0), 2, 0), (.iload_n 1, (0, 0, 0), 0, 0), (.imul, (0, 0, 0), 0, 0), (.iload_n 2, (0, 0, 0), 0, 0), (.iadd, (0, 0, 0), 0, 0), (.iaload, (0, 0, 0), 0, 0)] (by decide +kernel) rfl ?_
      exact xm_iret (pc := 29) (by decide +kernel) rfl rfl
    · refine xm_wk [] (lv' := []) rfl ?_
      exact go_X3_border_L14 u
theorem ev_X3_border (a1 : Int32) (a2 : Int32) (u : xN) : ∀ r, f_X3_border a1 a2 u = some r → xEm md_X3_border yX3_border [.ref 0, .int a1, .int a2] (xU u) (some (.int r), (xU u)) := xm_met (res := (rsI (xU u))) (as := [.ref 0, .int a1, .int a2]) (go_X3_border a1 a2 u) (by decide) rfl (Nat.le_of_ble_eq_true rfl)
theorem mw_X2_noteDeed : xMv yX2_noteDeed cX2_noteDeed 3 none 2 := xMv_of (p1 := 504) (p2 := 503) (p3 := 96) (p4 := 18) (by decide +kernel)
/-! NeitherBare$Standing.noteDeed(II)V (19, None, None) -/
abbrev md_X2_noteDeed_19 : xMd := (cX2_noteDeed, RX2, 3, none, 1)
def f_X2_noteDeed_19 (a1 : Int32) (a2 : Int32) (u : xN) : Option xN := gdl [inb (u.1 19 2) 40, inb ((mI u 21 (Int32.toNatClampNeg (u.1 19 2)) a1).1 19 2) 40] (some (mI (mI (mI u 21 (Int32.toNatClampNeg (u.1 19 2)) a1) 22 (Int32.toNatClampNeg ((mI u 21 (Int32.toNatClampNeg (u.1 19 2)) a1).1 19 2)) a2) 19 2 (((mI (mI u 21 (Int32.toNatClampNeg (u.1 19 2)) a1) 22 (Int32.toNatClampNeg ((mI u 21 (Int32.toNatClampNeg (u.1 19 2)) a1).1 19 2)) a2).1 19 2) + (1 : Int32))))
set_option maxRecDepth 20000 in
theorem go_X2_noteDeed_19 (a1 : Int32) (a2 : Int32) (u : xN) : xGm md_X2_noteDeed_19 rsV (f_X2_noteDeed_19 a1 a2 u) 0 [(0, .ref 19), (1, .int a1), (2, .int a2)] [] (xU u) := by
  unfold f_X2_noteDeed_19
  refine xm_blk (bs := [inb (u.1 19 2) 40, inb ((mI u 21 (Int32.toNatClampNeg (u.1 19 2)) a1).1 19 2) 40]) (pc' := 30) (lv' := [(0, .ref 19), (1, .int a1), (2, .int a2)]) (st' := []) (u' := (xU (mI (mI (mI u 21 (Int32.toNatClampNeg (u.1 19 2)) a1) 22 (Int32.toNatClampNeg ((mI u 21 (Int32.toNatClampNeg (u.1 19 2)) a1).1 19 2)) a2) 19 2 (((mI (mI u 21 (Int32.toNatClampNeg (u.1 19 2)) a1) 22 (Int32.toNatClampNeg ((mI u 21 (Int32.toNatClampNeg (u.1 19 2)) a1).1 19 2)) a2).1 19 2) + (1 : Int32))))) [(.aload_n 0, (0, 0, 0), 0, 0), (.getfield 15, (2, 4, 186), 0, 0), (.aload_n 0, (0, 0, 0), 0, 0), (.getfield 25, (2, 2, 182), 0, 0), (.iload_n 1, (0, 0, 0), 0, 0), (.iastore, (0, 0, 0), 0, 0), (.aload_n 0, (0, 0, 0), 0, 0), (.getfield 18, (2, 5, 187), 0, 0), (.aload_n 0, (0, 0, 0), 0, 0), (.getfield 25, (2, 2, 182), 0, 0), (.iload_n 2, (0, 0, 0), 0, 0), (.iastore, (0, 0, 0), 0, 0), (.aload_n 0, (0, 0, 0), 0, 0), (.dup, (0, 0, 0), 0, 0), (.getfield 25, (2, 2, 182), 0, 0), (.iconst 1, (0, 0, 0), 1, 0), (.iadd, (0, 0, 0), 0, 0), (.putfield 25, (2, 2, 182), 0, 0)] (by decide +kernel) rfl ?_
  exact xm_vret (pc := 30) (by decide +kernel) rfl rfl
theorem ev_X2_noteDeed_19 (a1 : Int32) (a2 : Int32) (u : xN) : ∀ r, f_X2_noteDeed_19 a1 a2 u = some r → xEm md_X2_noteDeed_19 yX2_noteDeed [.ref 19, .int a1, .int a2] (xU u) (none, xU r) := xm_met (res := rsV) (as := [.ref 19, .int a1, .int a2]) (go_X2_noteDeed_19 a1 a2 u) (by decide) rfl (Nat.le_of_ble_eq_true rfl)
theorem mw_X2_setClause : xMv yX2_setClause cX2_setClause 3 none 2 := xMv_of (p1 := 508) (p2 := 507) (p3 := 96) (p4 := 19) (by decide +kernel)
/-! NeitherBare$Standing.setClause(IZ)V (19, None, None) -/
abbrev md_X2_setClause_19 : xMd := (cX2_setClause, RX2, 3, none, 1)
def f_X2_setClause_19_L26 (t0 : Int32) (u : xN) : Option xN := some (mI u 19 1 t0)
set_option maxRecDepth 20000 in
theorem go_X2_setClause_19_L26 (t0 : Int32) (u : xN) : xGm md_X2_setClause_19 rsV (f_X2_setClause_19_L26 t0 u) 26 [] [.int t0, .ref 19] (xU u) := by
  unfold f_X2_setClause_19_L26
  refine xm_blk0 (pc' := 29) (lv' := []) (st' := []) (u' := (xU (mI u 19 1 t0))) [(.putfield 21, (2, 1, 180), 0, 0)] (by decide +kernel) rfl ?_
  exact xm_vret (pc := 29) (by decide +kernel) rfl rfl
def f_X2_setClause_19 (a1 : Int32) (a2 : Int32) (u : xN) : Option xN := if a2 = (0 : Int32) then f_X2_setClause_19_L26 ((u.1 19 1) &&& (((1 : Int32) <<< (a1 &&& 31)) ^^^ (-1 : Int32))) u else f_X2_setClause_19_L26 ((u.1 19 1) ||| ((1 : Int32) <<< (a1 &&& 31))) u
set_option maxRecDepth 20000 in
theorem go_X2_setClause_19 (a1 : Int32) (a2 : Int32) (u : xN) : xGm md_X2_setClause_19 rsV (f_X2_setClause_19 a1 a2 u) 0 [(0, .ref 19), (1, .int a1), (2, .int a2)] [] (xU u) := by
  unfold f_X2_setClause_19
  refine xm_blk0 (pc' := 2) (lv' := [(0, .ref 19), (1, .int a1), (2, .int a2)]) (st' := [.int a2, .ref 19]) (u' := (xU u)) [(.aload_n 0, (0, 0, 0), 0, 0), (.iload_n 2, (0, 0, 0), 0, 0)] (by decide +kernel) rfl ?_
  refine xm_if_eq (pc := 2) (off := 14) (tgt := 16) (by decide +kernel) (by decide) ?_ ?_
  · refine xm_blk0 (pc' := 26) (lv' := [(0, .ref 19), (1, .int a1), (2, .int a2)]) (st' := [.int ((u.1 19 1) &&& (((1 : Int32) <<< (a1 &&& 31)) ^^^ (-1 : Int32))), .ref 19]) (u' := (xU u)) [(.aload_n 0, (0, 0, 0), 0, 0), (.getfield 21, (2, 1, 180), 0, 0), (.iconst 1, (0, 0, 0), 1, 0), (.iload_n 1, (0, 0, 0), 0, 0), (.ishl, (0, 0, 0), 0, 0), (.iconst (-1), (0, 0, 0), -1, 0), (.ixor, (0, 0, 0), 0, 0), (.iand, (0, 0, 0), 0, 0)] (by decide +kernel) rfl ?_
    refine xm_wk [] (lv' := []) rfl ?_
    exact go_X2_setClause_19_L26 ((u.1 19 1) &&& (((1 : Int32) <<< (a1 &&& 31)) ^^^ (-1 : Int32))) u
  · refine xm_blk0 (pc' := 13) (lv' := [(0, .ref 19), (1, .int a1), (2, .int a2)]) (st' := [.int ((u.1 19 1) ||| ((1 : Int32) <<< (a1 &&& 31))), .ref 19]) (u' := (xU u)) [(.aload_n 0, (0, 0, 0), 0, 0), (.getfield 21, (2, 1, 180), 0, 0), (.iconst 1, (0, 0, 0), 1, 0), (.iload_n 1, (0, 0, 0), 0, 0), (.ishl, (0, 0, 0), 0, 0), (.ior, (0, 0, 0), 0, 0)] (by decide +kernel) rfl ?_
    refine xm_goto (pc := 13) (off := 13) (tgt := 26) (by decide +kernel) (by decide) ?_
    refine xm_wk [] (lv' := []) rfl ?_
    exact go_X2_setClause_19_L26 ((u.1 19 1) ||| ((1 : Int32) <<< (a1 &&& 31))) u
theorem ev_X2_setClause_19 (a1 : Int32) (a2 : Int32) (u : xN) : ∀ r, f_X2_setClause_19 a1 a2 u = some r → xEm md_X2_setClause_19 yX2_setClause [.ref 19, .int a1, .int a2] (xU u) (none, xU r) := xm_met (res := rsV) (as := [.ref 19, .int a1, .int a2]) (go_X2_setClause_19 a1 a2 u) (by decide) rfl (Nat.le_of_ble_eq_true rfl)
theorem mw_X2_doClause : xMv yX2_doClause cX2_doClause 3 none 2 := xMv_of (p1 := 499) (p2 := 497) (p3 := 96) (p4 := 498) (by decide +kernel)
/-! NeitherBare$Standing.doClause(IZ)V (19, None, None) -/
abbrev md_X2_doClause_19 : xMd := (cX2_doClause, RX2, 3, none, 3)
def f_X2_doClause_19_L21 (v1 : Int32) (v2 : Int32) (t0 : Int32) (t1 : Int32) (u : xN) : Option xN := Option.bind (f_X2_noteDeed_19 t1 t0 u) (fun r21 => Option.bind (f_X2_setClause_19 v1 v2 r21) (fun r27 => some r27))
set_option maxRecDepth 20000 in
theorem go_X2_doClause_19_L21 (v1 : Int32) (v2 : Int32) (t0 : Int32) (t1 : Int32) (u : xN) : xGm md_X2_doClause_19 rsV (f_X2_doClause_19_L21 v1 v2 t0 t1 u) 21 [(0, .ref 19), (1, .int v1), (2, .int v2)] [.int t0, .int t1, .ref 19] (xU u) := by
  unfold f_X2_doClause_19_L21
  refine xm_Vv (pc := 21) (mz := md_X2_noteDeed_19) (idx := 36) (p1 := 501) (a := 19) (as := [.int t1, .int t0]) (st := []) (ev_X2_noteDeed_19 t1 t0 u) mw_X2_noteDeed (by decide +kernel) (by decide +kernel) (by decide) rfl rfl (by decide) rfl (Nat.le_of_ble_eq_true rfl) (fun r21 => ?_)
  refine xm_blk0 (pc' := 27) (lv' := [(0, .ref 19), (1, .int v1), (2, .int v2)]) (st' := [.int v2, .int v1, .ref 19]) (u' := (xU r21)) [(.aload_n 0, (0, 0, 0), 0, 0), (.iload_n 1, (0, 0, 0), 0, 0), (.iload_n 2, (0, 0, 0), 0, 0)] (by decide +kernel) rfl ?_
  refine xm_Vv (pc := 27) (mz := md_X2_setClause_19) (idx := 40) (p1 := 505) (a := 19) (as := [.int v1, .int v2]) (st := []) (ev_X2_setClause_19 v1 v2 r21) mw_X2_setClause (by decide +kernel) (by decide +kernel) (by decide) rfl rfl (by decide) rfl (Nat.le_of_ble_eq_true rfl) (fun r27 => ?_)
  exact xm_vret (pc := 30) (by decide +kernel) rfl rfl
def f_X2_doClause_19 (a1 : Int32) (a2 : Int32) (u : xN) : Option xN := Option.bind (f_X2_isOn_19 a1 u) (fun r10 => if r10 = (0 : Int32) then f_X2_doClause_19_L21 a1 a2 (0 : Int32) ((8 : Int32) + a1) u else f_X2_doClause_19_L21 a1 a2 (1 : Int32) ((8 : Int32) + a1) u)
set_option maxRecDepth 20000 in
theorem go_X2_doClause_19 (a1 : Int32) (a2 : Int32) (u : xN) : xGm md_X2_doClause_19 rsV (f_X2_doClause_19 a1 a2 u) 0 [(0, .ref 19), (1, .int a1), (2, .int a2)] [] (xU u) := by
  unfold f_X2_doClause_19
  refine xm_blk0 (pc' := 10) (lv' := [(0, .ref 19), (1, .int a1), (2, .int a2)]) (st' := [.int a1, .ref 19, .int ((8 : Int32) + a1), .ref 19]) (u' := (xU u)) [(.aload_n 0, (0, 0, 0), 0, 0), (.aload_n 0, (0, 0, 0), 0, 0), (.getfield 9, (2, 3, 184), 0, 0), (.arraylength, (0, 0, 0), 0, 0), (.iload_n 1, (0, 0, 0), 0, 0), (.iadd, (0, 0, 0), 0, 0), (.aload_n 0, (0, 0, 0), 0, 0), (.iload_n 1, (0, 0, 0), 0, 0)] (by decide +kernel) rfl ?_
  refine xm_Vi (pc := 10) (mz := md_X2_isOn_19) (idx := 32) (p1 := 500) (a := 19) (as := [.int a1]) (st := [.int ((8 : Int32) + a1), .ref 19]) (ev_X2_isOn_19 a1 u) mw_X2_isOn (by decide +kernel) (by decide +kernel) (by decide) rfl rfl (by decide) rfl (Nat.le_of_ble_eq_true rfl) (fun r10 => ?_)
  refine xm_if_eq (pc := 13) (off := 7) (tgt := 20) (by decide +kernel) (by decide) ?_ ?_
  · refine xm_blk0 (pc' := 21) (lv' := [(0, .ref 19), (1, .int a1), (2, .int a2)]) (st' := [.int (0 : Int32), .int ((8 : Int32) + a1), .ref 19]) (u' := (xU u)) [(.iconst 0, (0, 0, 0), 0, 0)] (by decide +kernel) rfl ?_
    exact go_X2_doClause_19_L21 a1 a2 (0 : Int32) ((8 : Int32) + a1) u
  · refine xm_blk0 (pc' := 17) (lv' := [(0, .ref 19), (1, .int a1), (2, .int a2)]) (st' := [.int (1 : Int32), .int ((8 : Int32) + a1), .ref 19]) (u' := (xU u)) [(.iconst 1, (0, 0, 0), 1, 0)] (by decide +kernel) rfl ?_
    refine xm_goto (pc := 17) (off := 4) (tgt := 21) (by decide +kernel) (by decide) ?_
    exact go_X2_doClause_19_L21 a1 a2 (1 : Int32) ((8 : Int32) + a1) u
theorem ev_X2_doClause_19 (a1 : Int32) (a2 : Int32) (u : xN) : ∀ r, f_X2_doClause_19 a1 a2 u = some r → xEm md_X2_doClause_19 yX2_doClause [.ref 19, .int a1, .int a2] (xU u) (none, xU r) := xm_met (res := rsV) (as := [.ref 19, .int a1, .int a2]) (go_X2_doClause_19 a1 a2 u) (by decide) rfl (Nat.le_of_ble_eq_true rfl)
theorem mw_J6_bitCount_0f7a4 : xMs yJ6_bitCount_0f7a4 cJ6_bitCount_0f7a4 1 (some .int) 1 := xMs_of (p1 := 511) (p2 := 510) (p3 := 99) (by decide +kernel)
/-! java/lang/Integer.bitCount(I)I  -/
abbrev md_J6_bitCount_0f7a4 : xMd := (cJ6_bitCount_0f7a4, RJ6, 1, some .int, 1)
def f_J6_bitCount_0f7a4 (a0 : Int32) : Option Int32 := some ((((((((a0 - ((UInt32.toInt32 (Int32.toUInt32 a0 >>> (Int32.toUInt32 (1 : Int32) &&& Int32.toUInt32 31))) &&& (1431655765 : Int32))) &&& (858993459 : Int32)) + ((UInt32.toInt32 (Int32.toUInt32 (a0 - ((UInt32.toInt32 (Int32.toUInt32 a0 >>> (Int32.toUInt32 (1 : Int32) &&& Int32.toUInt32 31))) &&& (1431655765 : Int32))) >>> (Int32.toUInt32 (2 : Int32) &&& Int32.toUInt32 31))) &&& (858993459 : Int32))) + (UInt32.toInt32 (Int32.toUInt32 (((a0 - ((UInt32.toInt32 (Int32.toUInt32 a0 >>> (Int32.toUInt32 (1 : Int32) &&& Int32.toUInt32 31))) &&& (1431655765 : Int32))) &&& (858993459 : Int32)) + ((UInt32.toInt32 (Int32.toUInt32 (a0 - ((UInt32.toInt32 (Int32.toUInt32 a0 >>> (Int32.toUInt32 (1 : Int32) &&& Int32.toUInt32 31))) &&& (1431655765 : Int32))) >>> (Int32.toUInt32 (2 : Int32) &&& Int32.toUInt32 31))) &&& (858993459 : Int32))) >>> (Int32.toUInt32 (4 : Int32) &&& Int32.toUInt32 31)))) &&& (252645135 : Int32)) + (UInt32.toInt32 (Int32.toUInt32 (((((a0 - ((UInt32.toInt32 (Int32.toUInt32 a0 >>> (Int32.toUInt32 (1 : Int32) &&& Int32.toUInt32 31))) &&& (1431655765 : Int32))) &&& (858993459 : Int32)) + ((UInt32.toInt32 (Int32.toUInt32 (a0 - ((UInt32.toInt32 (Int32.toUInt32 a0 >>> (Int32.toUInt32 (1 : Int32) &&& Int32.toUInt32 31))) &&& (1431655765 : Int32))) >>> (Int32.toUInt32 (2 : Int32) &&& Int32.toUInt32 31))) &&& (858993459 : Int32))) + (UInt32.toInt32 (Int32.toUInt32 (((a0 - ((UInt32.toInt32 (Int32.toUInt32 a0 >>> (Int32.toUInt32 (1 : Int32) &&& Int32.toUInt32 31))) &&& (1431655765 : Int32))) &&& (858993459 : Int32)) + ((UInt32.toInt32 (Int32.toUInt32 (a0 - ((UInt32.toInt32 (Int32.toUInt32 a0 >>> (Int32.toUInt32 (1 : Int32) &&& Int32.toUInt32 31))) &&& (1431655765 : Int32))) >>> (Int32.toUInt32 (2 : Int32) &&& Int32.toUInt32 31))) &&& (858993459 : Int32))) >>> (Int32.toUInt32 (4 : Int32) &&& Int32.toUInt32 31)))) &&& (252645135 : Int32)) >>> (Int32.toUInt32 (8 : Int32) &&& Int32.toUInt32 31)))) + (UInt32.toInt32 (Int32.toUInt32 ((((((a0 - ((UInt32.toInt32 (Int32.toUInt32 a0 >>> (Int32.toUInt32 (1 : Int32) &&& Int32.toUInt32 31))) &&& (1431655765 : Int32))) &&& (858993459 : Int32)) + ((UInt32.toInt32 (Int32.toUInt32 (a0 - ((UInt32.toInt32 (Int32.toUInt32 a0 >>> (Int32.toUInt32 (1 : Int32) &&& Int32.toUInt32 31))) &&& (1431655765 : Int32))) >>> (Int32.toUInt32 (2 : Int32) &&& Int32.toUInt32 31))) &&& (858993459 : Int32))) + (UInt32.toInt32 (Int32.toUInt32 (((a0 - ((UInt32.toInt32 (Int32.toUInt32 a0 >>> (Int32.toUInt32 (1 : Int32) &&& Int32.toUInt32 31))) &&& (1431655765 : Int32))) &&& (858993459 : Int32)) + ((UInt32.toInt32 (Int32.toUInt32 (a0 - ((UInt32.toInt32 (Int32.toUInt32 a0 >>> (Int32.toUInt32 (1 : Int32) &&& Int32.toUInt32 31))) &&& (1431655765 : Int32))) >>> (Int32.toUInt32 (2 : Int32) &&& Int32.toUInt32 31))) &&& (858993459 : Int32))) >>> (Int32.toUInt32 (4 : Int32) &&& Int32.toUInt32 31)))) &&& (252645135 : Int32)) + (UInt32.toInt32 (Int32.toUInt32 (((((a0 - ((UInt32.toInt32 (Int32.toUInt32 a0 >>> (Int32.toUInt32 (1 : Int32) &&& Int32.toUInt32 31))) &&& (1431655765 : Int32))) &&& (858993459 : Int32)) + ((UInt32.toInt32 (Int32.toUInt32 (a0 - ((UInt32.toInt32 (Int32.toUInt32 a0 >>> (Int32.toUInt32 (1 : Int32) &&& Int32.toUInt32 31))) &&& (1431655765 : Int32))) >>> (Int32.toUInt32 (2 : Int32) &&& Int32.toUInt32 31))) &&& (858993459 : Int32))) + (UInt32.toInt32 (Int32.toUInt32 (((a0 - ((UInt32.toInt32 (Int32.toUInt32 a0 >>> (Int32.toUInt32 (1 : Int32) &&& Int32.toUInt32 31))) &&& (1431655765 : Int32))) &&& (858993459 : Int32)) + ((UInt32.toInt32 (Int32.toUInt32 (a0 - ((UInt32.toInt32 (Int32.toUInt32 a0 >>> (Int32.toUInt32 (1 : Int32) &&& Int32.toUInt32 31))) &&& (1431655765 : Int32))) >>> (Int32.toUInt32 (2 : Int32) &&& Int32.toUInt32 31))) &&& (858993459 : Int32))) >>> (Int32.toUInt32 (4 : Int32) &&& Int32.toUInt32 31)))) &&& (252645135 : Int32)) >>> (Int32.toUInt32 (8 : Int32) &&& Int32.toUInt32 31)))) >>> (Int32.toUInt32 (16 : Int32) &&& Int32.toUInt32 31)))) &&& (63 : Int32))
set_option maxRecDepth 20000 in
theorem go_J6_bitCount_0f7a4 (a0 : Int32) (u : xN) : xGm md_J6_bitCount_0f7a4 (rsI (xU u)) (f_J6_bitCount_0f7a4 a0) 0 [(0, .int a0)] [] (xU u) := by
  unfold f_J6_bitCount_0f7a4
  refine xm_blk0 (pc' := 52) (lv' := [(0, .int (((((((a0 - ((UInt32.toInt32 (Int32.toUInt32 a0 >>> (Int32.toUInt32 (1 : Int32) &&& Int32.toUInt32 31))) &&& (1431655765 : Int32))) &&& (858993459 : Int32)) + ((UInt32.toInt32 (Int32.toUInt32 (a0 - ((UInt32.toInt32 (Int32.toUInt32 a0 >>> (Int32.toUInt32 (1 : Int32) &&& Int32.toUInt32 31))) &&& (1431655765 : Int32))) >>> (Int32.toUInt32 (2 : Int32) &&& Int32.toUInt32 31))) &&& (858993459 : Int32))) + (UInt32.toInt32 (Int32.toUInt32 (((a0 - ((UInt32.toInt32 (Int32.toUInt32 a0 >>> (Int32.toUInt32 (1 : Int32) &&& Int32.toUInt32 31))) &&& (1431655765 : Int32))) &&& (858993459 : Int32)) + ((UInt32.toInt32 (Int32.toUInt32 (a0 - ((UInt32.toInt32 (Int32.toUInt32 a0 >>> (Int32.toUInt32 (1 : Int32) &&& Int32.toUInt32 31))) &&& (1431655765 : Int32))) >>> (Int32.toUInt32 (2 : Int32) &&& Int32.toUInt32 31))) &&& (858993459 : Int32))) >>> (Int32.toUInt32 (4 : Int32) &&& Int32.toUInt32 31)))) &&& (252645135 : Int32)) + (UInt32.toInt32 (Int32.toUInt32 (((((a0 - ((UInt32.toInt32 (Int32.toUInt32 a0 >>> (Int32.toUInt32 (1 : Int32) &&& Int32.toUInt32 31))) &&& (1431655765 : Int32))) &&& (858993459 : Int32)) + ((UInt32.toInt32 (Int32.toUInt32 (a0 - ((UInt32.toInt32 (Int32.toUInt32 a0 >>> (Int32.toUInt32 (1 : Int32) &&& Int32.toUInt32 31))) &&& (1431655765 : Int32))) >>> (Int32.toUInt32 (2 : Int32) &&& Int32.toUInt32 31))) &&& (858993459 : Int32))) + (UInt32.toInt32 (Int32.toUInt32 (((a0 - ((UInt32.toInt32 (Int32.toUInt32 a0 >>> (Int32.toUInt32 (1 : Int32) &&& Int32.toUInt32 31))) &&& (1431655765 : Int32))) &&& (858993459 : Int32)) + ((UInt32.toInt32 (Int32.toUInt32 (a0 - ((UInt32.toInt32 (Int32.toUInt32 a0 >>> (Int32.toUInt32 (1 : Int32) &&& Int32.toUInt32 31))) &&& (1431655765 : Int32))) >>> (Int32.toUInt32 (2 : Int32) &&& Int32.toUInt32 31))) &&& (858993459 : Int32))) >>> (Int32.toUInt32 (4 : Int32) &&& Int32.toUInt32 31)))) &&& (252645135 : Int32)) >>> (Int32.toUInt32 (8 : Int32) &&& Int32.toUInt32 31)))) + (UInt32.toInt32 (Int32.toUInt32 ((((((a0 - ((UInt32.toInt32 (Int32.toUInt32 a0 >>> (Int32.toUInt32 (1 : Int32) &&& Int32.toUInt32 31))) &&& (1431655765 : Int32))) &&& (858993459 : Int32)) + ((UInt32.toInt32 (Int32.toUInt32 (a0 - ((UInt32.toInt32 (Int32.toUInt32 a0 >>> (Int32.toUInt32 (1 : Int32) &&& Int32.toUInt32 31))) &&& (1431655765 : Int32))) >>> (Int32.toUInt32 (2 : Int32) &&& Int32.toUInt32 31))) &&& (858993459 : Int32))) + (UInt32.toInt32 (Int32.toUInt32 (((a0 - ((UInt32.toInt32 (Int32.toUInt32 a0 >>> (Int32.toUInt32 (1 : Int32) &&& Int32.toUInt32 31))) &&& (1431655765 : Int32))) &&& (858993459 : Int32)) + ((UInt32.toInt32 (Int32.toUInt32 (a0 - ((UInt32.toInt32 (Int32.toUInt32 a0 >>> (Int32.toUInt32 (1 : Int32) &&& Int32.toUInt32 31))) &&& (1431655765 : Int32))) >>> (Int32.toUInt32 (2 : Int32) &&& Int32.toUInt32 31))) &&& (858993459 : Int32))) >>> (Int32.toUInt32 (4 : Int32) &&& Int32.toUInt32 31)))) &&& (252645135 : Int32)) + (UInt32.toInt32 (Int32.toUInt32 (((((a0 - ((UInt32.toInt32 (Int32.toUInt32 a0 >>> (Int32.toUInt32 (1 : Int32) &&& Int32.toUInt32 31))) &&& (1431655765 : Int32))) &&& (858993459 : Int32)) + ((UInt32.toInt32 (Int32.toUInt32 (a0 - ((UInt32.toInt32 (Int32.toUInt32 a0 >>> (Int32.toUInt32 (1 : Int32) &&& Int32.toUInt32 31))) &&& (1431655765 : Int32))) >>> (Int32.toUInt32 (2 : Int32) &&& Int32.toUInt32 31))) &&& (858993459 : Int32))) + (UInt32.toInt32 (Int32.toUInt32 (((a0 - ((UInt32.toInt32 (Int32.toUInt32 a0 >>> (Int32.toUInt32 (1 : Int32) &&& Int32.toUInt32 31))) &&& (1431655765 : Int32))) &&& (858993459 : Int32)) + ((UInt32.toInt32 (Int32.toUInt32 (a0 - ((UInt32.toInt32 (Int32.toUInt32 a0 >>> (Int32.toUInt32 (1 : Int32) &&& Int32.toUInt32 31))) &&& (1431655765 : Int32))) >>> (Int32.toUInt32 (2 : Int32) &&& Int32.toUInt32 31))) &&& (858993459 : Int32))) >>> (Int32.toUInt32 (4 : Int32) &&& Int32.toUInt32 31)))) &&& (252645135 : Int32)) >>> (Int32.toUInt32 (8 : Int32) &&& Int32.toUInt32 31)))) >>> (Int32.toUInt32 (16 : Int32) &&& Int32.toUInt32 31)))))]) (st' := [.int ((((((((a0 - ((UInt32.toInt32 (Int32.toUInt32 a0 >>> (Int32.toUInt32 (1 : Int32) &&& Int32.toUInt32 31))) &&& (1431655765 : Int32))) &&& (858993459 : Int32)) + ((UInt32.toInt32 (Int32.toUInt32 (a0 - ((UInt32.toInt32 (Int32.toUInt32 a0 >>> (Int32.toUInt32 (1 : Int32) &&& Int32.toUInt32 31))) &&& (1431655765 : Int32))) >>> (Int32.toUInt32 (2 : Int32) &&& Int32.toUInt32 31))) &&& (858993459 : Int32))) + (UInt32.toInt32 (Int32.toUInt32 (((a0 - ((UInt32.toInt32 (Int32.toUInt32 a0 >>> (Int32.toUInt32 (1 : Int32) &&& Int32.toUInt32 31))) &&& (1431655765 : Int32))) &&& (858993459 : Int32)) + ((UInt32.toInt32 (Int32.toUInt32 (a0 - ((UInt32.toInt32 (Int32.toUInt32 a0 >>> (Int32.toUInt32 (1 : Int32) &&& Int32.toUInt32 31))) &&& (1431655765 : Int32))) >>> (Int32.toUInt32 (2 : Int32) &&& Int32.toUInt32 31))) &&& (858993459 : Int32))) >>> (Int32.toUInt32 (4 : Int32) &&& Int32.toUInt32 31)))) &&& (252645135 : Int32)) + (UInt32.toInt32 (Int32.toUInt32 (((((a0 - ((UInt32.toInt32 (Int32.toUInt32 a0 >>> (Int32.toUInt32 (1 : Int32) &&& Int32.toUInt32 31))) &&& (1431655765 : Int32))) &&& (858993459 : Int32)) + ((UInt32.toInt32 (Int32.toUInt32 (a0 - ((UInt32.toInt32 (Int32.toUInt32 a0 >>> (Int32.toUInt32 (1 : Int32) &&& Int32.toUInt32 31))) &&& (1431655765 : Int32))) >>> (Int32.toUInt32 (2 : Int32) &&& Int32.toUInt32 31))) &&& (858993459 : Int32))) + (UInt32.toInt32 (Int32.toUInt32 (((a0 - ((UInt32.toInt32 (Int32.toUInt32 a0 >>> (Int32.toUInt32 (1 : Int32) &&& Int32.toUInt32 31))) &&& (1431655765 : Int32))) &&& (858993459 : Int32)) + ((UInt32.toInt32 (Int32.toUInt32 (a0 - ((UInt32.toInt32 (Int32.toUInt32 a0 >>> (Int32.toUInt32 (1 : Int32) &&& Int32.toUInt32 31))) &&& (1431655765 : Int32))) >>> (Int32.toUInt32 (2 : Int32) &&& Int32.toUInt32 31))) &&& (858993459 : Int32))) >>> (Int32.toUInt32 (4 : Int32) &&& Int32.toUInt32 31)))) &&& (252645135 : Int32)) >>> (Int32.toUInt32 (8 : Int32) &&& Int32.toUInt32 31)))) + (UInt32.toInt32 (Int32.toUInt32 ((((((a0 - ((UInt32.toInt32 (Int32.toUInt32 a0 >>> (Int32.toUInt32 (1 : Int32) &&& Int32.toUInt32 31))) &&& (1431655765 : Int32))) &&& (858993459 : Int32)) + ((UInt32.toInt32 (Int32.toUInt32 (a0 - ((UInt32.toInt32 (Int32.toUInt32 a0 >>> (Int32.toUInt32 (1 : Int32) &&& Int32.toUInt32 31))) &&& (1431655765 : Int32))) >>> (Int32.toUInt32 (2 : Int32) &&& Int32.toUInt32 31))) &&& (858993459 : Int32))) + (UInt32.toInt32 (Int32.toUInt32 (((a0 - ((UInt32.toInt32 (Int32.toUInt32 a0 >>> (Int32.toUInt32 (1 : Int32) &&& Int32.toUInt32 31))) &&& (1431655765 : Int32))) &&& (858993459 : Int32)) + ((UInt32.toInt32 (Int32.toUInt32 (a0 - ((UInt32.toInt32 (Int32.toUInt32 a0 >>> (Int32.toUInt32 (1 : Int32) &&& Int32.toUInt32 31))) &&& (1431655765 : Int32))) >>> (Int32.toUInt32 (2 : Int32) &&& Int32.toUInt32 31))) &&& (858993459 : Int32))) >>> (Int32.toUInt32 (4 : Int32) &&& Int32.toUInt32 31)))) &&& (252645135 : Int32)) + (UInt32.toInt32 (Int32.toUInt32 (((((a0 - ((UInt32.toInt32 (Int32.toUInt32 a0 >>> (Int32.toUInt32 (1 : Int32) &&& Int32.toUInt32 31))) &&& (1431655765 : Int32))) &&& (858993459 : Int32)) + ((UInt32.toInt32 (Int32.toUInt32 (a0 - ((UInt32.toInt32 (Int32.toUInt32 a0 >>> (Int32.toUInt32 (1 : Int32) &&& Int32.toUInt32 31))) &&& (1431655765 : Int32))) >>> (Int32.toUInt32 (2 : Int32) &&& Int32.toUInt32 31))) &&& (858993459 : Int32))) + (UInt32.toInt32 (Int32.toUInt32 (((a0 - ((UInt32.toInt32 (Int32.toUInt32 a0 >>> (Int32.toUInt32 (1 : Int32) &&& Int32.toUInt32 31))) &&& (1431655765 : Int32))) &&& (858993459 : Int32)) + ((UInt32.toInt32 (Int32.toUInt32 (a0 - ((UInt32.toInt32 (Int32.toUInt32 a0 >>> (Int32.toUInt32 (1 : Int32) &&& Int32.toUInt32 31))) &&& (1431655765 : Int32))) >>> (Int32.toUInt32 (2 : Int32) &&& Int32.toUInt32 31))) &&& (858993459 : Int32))) >>> (Int32.toUInt32 (4 : Int32) &&& Int32.toUInt32 31)))) &&& (252645135 : Int32)) >>> (Int32.toUInt32 (8 : Int32) &&& Int32.toUInt32 31)))) >>> (Int32.toUInt32 (16 : Int32) &&& Int32.toUInt32 31)))) &&& (63 : Int32))]) (u' := (xU u)) [(.iload_n 0, (0, 0, 0), 0, 0), (.iload_n 0, (0, 0, 0), 0, 0), (.iconst 1, (0, 0, 0), 1, 0), (.iushr, (0, 0, 0), 0, 0), (.ldc_w 265, (0, 0, 512), 1431655765, 0), (.iand, (0, 0, 0), 0, 0), (.isub, (0, 0, 0), 0, 0), (.istore_n 0, (0, 0, 0), 0, 0), (.iload_n 0, (0, 0, 0), 0, 0), (.ldc_w 266, (0, 0, 513), 858993459, 0), (.iand, (0, 0, 0), 0, 0), (.iload_n 0, (0, 0, 0), 0, 0), (.iconst 2, (0, 0, 0), 2, 0), (.iushr, (0, 0, 0), 0, 0), (.ldc_w 266, (0, 0, 513), 858993459, 0), (.iand, (0, 0, 0), 0, 0), (.iadd, (0, 0, 0), 0, 0), (.istore_n 0, (0, 0, 0), 0, 0), (.iload_n 0, (0, 0, 0), 0, 0), (.iload_n 0, (0, 0, 0), 0, 0), (.iconst 4, (0, 0, 0), 4, 0), (.iushr, (0, 0, 0), 0, 0), (.iadd, (0, 0, 0), 0, 0), (.ldc_w 267, (0, 0, 514), 252645135, 0), (.iand, (0, 0, 0), 0, 0), (.istore_n 0, (0, 0, 0), 0, 0), (.iload_n 0, (0, 0, 0), 0, 0), (.iload_n 0, (0, 0, 0), 0, 0), (.bipush 8, (0, 0, 0), 8, 0), (.iushr, (0, 0, 0), 0, 0), (.iadd, (0, 0, 0), 0, 0), (.istore_n 0, (0, 0, 0), 0, 0), (.iload_n 0, (0, 0, 0), 0, 0), (.iload_n 0, (0, 0, 0), 0, 0), (.bipush 16, (0, 0, 0), 16, 0), (.iushr, (0, 0, 0), 0, 0), (.iadd, (0, 0, 0), 0, 0), (.istore_n 0, (0, 0, 0), 0, 0), (.iload_n 0, (0, 0, 0), 0, 0), (.bipush 63, (0, 0, 0), 63, 0), (.iand, (0, 0, 0), 0, 0)] (by decide +kernel) rfl ?_
  exact xm_iret (pc := 52) (by decide +kernel) rfl rfl
theorem ev_J6_bitCount_0f7a4 (a0 : Int32) (u : xN) : ∀ r, f_J6_bitCount_0f7a4 a0 = some r → xEm md_J6_bitCount_0f7a4 yJ6_bitCount_0f7a4 [.int a0] (xU u) (some (.int r), (xU u)) := xm_met (res := (rsI (xU u))) (as := [.int a0]) (go_J6_bitCount_0f7a4 a0 u) (by decide) rfl (Nat.le_of_ble_eq_true rfl)
theorem mw_X3_strike : xMv yX3_strike cX3_strike 3 (some .int) 2 := xMv_of (p1 := 495) (p2 := 493) (p3 := 92) (p4 := 494) (by decide +kernel)
/-! NeitherBare.strike(II)I (0, None, None) -/
abbrev md_X3_strike : xMd := (cX3_strike, RX3, 3, some .int, 4)
def f_X3_strike_L15 (u : xN) : Option (Int32 × xN) := some ((-1 : Int32), u)
set_option maxRecDepth 20000 in
theorem go_X3_strike_L15 (u : xN) : xGm md_X3_strike rsM (f_X3_strike_L15 u) 15 [] [] (xU u) := by
  unfold f_X3_strike_L15
  refine xm_blk0 (pc' := 16) (lv' := []) (st' := [.int (-1 : Int32)]) (u' := (xU u)) [(.iconst (-1), (0, 0, 0), -1, 0)] (by decide +kernel) rfl ?_
  exact xm_iret (pc := 16) (by decide +kernel) rfl rfl
def f_X3_strike_L69 (t0 : Int32) (t1 : Int32) (u : xN) : Option (Int32 × xN) := Option.bind (f_X2_doClause_19 t1 t0 u) (fun r69 => Option.bind (f_J6_bitCount_0f7a4 (r69.1 19 1)) (fun r79 => some (r79, r69)))
set_option maxRecDepth 20000 in
theorem go_X3_strike_L69 (t0 : Int32) (t1 : Int32) (u : xN) : xGm md_X3_strike rsM (f_X3_strike_L69 t0 t1 u) 69 [(0, .ref 0)] [.int t0, .int t1, .ref 19] (xU u) := by
  unfold f_X3_strike_L69
  refine xm_Vv (pc := 69) (mz := md_X2_doClause_19) (idx := 179) (p1 := 496) (a := 19) (as := [.int t1, .int t0]) (st := []) (ev_X2_doClause_19 t1 t0 u) mw_X2_doClause (by decide +kernel) (by decide +kernel) (by decide) rfl rfl (by decide) rfl (Nat.le_of_ble_eq_true rfl) (fun r69 => ?_)
  refine xm_blk0 (pc' := 79) (lv' := [(0, .ref 0)]) (st' := [.int (r69.1 19 1)]) (u' := (xU r69)) [(.aload_n 0, (0, 0, 0), 0, 0), (.getfield 34, (3, 4, 210), 0, 0), (.getfield 183, (2, 1, 181), 0, 0)] (by decide +kernel) rfl ?_
  refine xm_Si (pc := 79) (mz := md_J6_bitCount_0f7a4) (idx := 186) (p1 := 509) (as := [.int (r69.1 19 1)]) (st := []) (ev_J6_bitCount_0f7a4 (r69.1 19 1) r69) mw_J6_bitCount_0f7a4 (by decide +kernel) (by decide +kernel) (by decide) rfl (Nat.le_of_ble_eq_true rfl) (fun r79 => ?_)
  exact xm_iret (pc := 82) (by decide +kernel) rfl rfl
def f_X3_strike_L34 (v1 : Int32) (v2 : Int32) (t0 : Int32) (t1 : Int32) (u : xN) : Option (Int32 × xN) := if t1 = t0 then some ((-4 : Int32), u) else if (u.1 19 2) < (40 : Int32) then (if v2 = (0 : Int32) then f_X3_strike_L69 (1 : Int32) v1 u else f_X3_strike_L69 (0 : Int32) v1 u) else some ((-2 : Int32), u)
set_option maxRecDepth 20000 in
theorem go_X3_strike_L34 (v1 : Int32) (v2 : Int32) (t0 : Int32) (t1 : Int32) (u : xN) : xGm md_X3_strike rsM (f_X3_strike_L34 v1 v2 t0 t1 u) 34 [(0, .ref 0), (1, .int v1), (2, .int v2)] [.int t0, .int t1] (xU u) := by
  unfold f_X3_strike_L34
  refine xm_icmp_ne (pc := 34) (off := 6) (tgt := 40) (by decide +kernel) (by decide) ?_ ?_
  · refine xm_blk0 (pc' := 49) (lv' := [(0, .ref 0), (1, .int v1), (2, .int v2)]) (st' := [.int (40 : Int32), .int (u.1 19 2)]) (u' := (xU u)) [(.aload_n 0, (0, 0, 0), 0, 0), (.getfield 34, (3, 4, 210), 0, 0), (.getfield 176, (2, 2, 183), 0, 0), (.bipush 40, (0, 0, 0), 40, 0)] (by decide +kernel) rfl ?_
    refine xm_icmp_lt (pc := 49) (off := 6) (tgt := 55) (by decide +kernel) (by decide) ?_ ?_
    · refine xm_blk0 (pc' := 61) (lv' := [(0, .ref 0), (1, .int v1), (2, .int v2)]) (st' := [.int v2, .int v1, .ref 19]) (u' := (xU u)) [(.aload_n 0, (0, 0, 0), 0, 0), (.getfield 34, (3, 4, 210), 0, 0), (.iload_n 1, (0, 0, 0), 0, 0), (.iload_n 2, (0, 0, 0), 0, 0)] (by decide +kernel) rfl ?_
      refine xm_if_ne (pc := 61) (off := 7) (tgt := 68) (by decide +kernel) (by decide) ?_ ?_
      · refine xm_blk0 (pc' := 69) (lv' := [(0, .ref 0), (1, .int v1), (2, .int v2)]) (st' := [.int (0 : Int32), .int v1, .ref 19]) (u' := (xU u)) [(.iconst 0, (0, 0, 0), 0, 0)] (by decide +kernel) rfl ?_
        refine xm_wk [0] (lv' := [(0, .ref 0)]) rfl ?_
        exact go_X3_strike_L69 (0 : Int32) v1 u
      · refine xm_blk0 (pc' := 65) (lv' := [(0, .ref 0), (1, .int v1), (2, .int v2)]) (st' := [.int (1 : Int32), .int v1, .ref 19]) (u' := (xU u)) [(.iconst 1, (0, 0, 0), 1, 0)] (by decide +kernel) rfl ?_
        refine xm_goto (pc := 65) (off := 4) (tgt := 69) (by decide +kernel) (by decide) ?_
        refine xm_wk [0] (lv' := [(0, .ref 0)]) rfl ?_
        exact go_X3_strike_L69 (1 : Int32) v1 u
    · refine xm_blk0 (pc' := 54) (lv' := [(0, .ref 0), (1, .int v1), (2, .int v2)]) (st' := [.int (-2 : Int32)]) (u' := (xU u)) [(.bipush (-2), (0, 0, 0), -2, 0)] (by decide +kernel) rfl ?_
      exact xm_iret (pc := 54) (by decide +kernel) rfl rfl
  · refine xm_blk0 (pc' := 39) (lv' := [(0, .ref 0), (1, .int v1), (2, .int v2)]) (st' := [.int (-4 : Int32)]) (u' := (xU u)) [(.bipush (-4), (0, 0, 0), -4, 0)] (by decide +kernel) rfl ?_
    exact xm_iret (pc := 39) (by decide +kernel) rfl rfl
def f_X3_strike (a1 : Int32) (a2 : Int32) (u : xN) : Option (Int32 × xN) := Option.bind (f_X3_isClause a1 u) (fun r2 => if r2 = (0 : Int32) then f_X3_strike_L15 u else Option.bind (f_X3_isFlag a2) (fun r9 => if r9 = (0 : Int32) then f_X3_strike_L15 u else Option.bind (f_X2_isOn_19 a1 u) (fun r22 => if a2 = (0 : Int32) then f_X3_strike_L34 a1 a2 (1 : Int32) r22 u else f_X3_strike_L34 a1 a2 (0 : Int32) r22 u)))
set_option maxRecDepth 20000 in
theorem go_X3_strike (a1 : Int32) (a2 : Int32) (u : xN) : xGm md_X3_strike rsM (f_X3_strike a1 a2 u) 0 [(0, .ref 0), (1, .int a1), (2, .int a2)] [] (xU u) := by
  unfold f_X3_strike
  refine xm_blk0 (pc' := 2) (lv' := [(0, .ref 0), (1, .int a1), (2, .int a2)]) (st' := [.int a1, .ref 0]) (u' := (xU u)) [(.aload_n 0, (0, 0, 0), 0, 0), (.iload_n 1, (0, 0, 0), 0, 0)] (by decide +kernel) rfl ?_
  refine xm_Vi (pc := 2) (mz := md_X3_isClause) (idx := 125) (p1 := 411) (a := 0) (as := [.int a1]) (st := []) (ev_X3_isClause a1 u) mw_X3_isClause (by decide +kernel) (by decide +kernel) (by decide) rfl rfl (by decide) rfl (Nat.le_of_ble_eq_true rfl) (fun r2 => ?_)
  refine xm_if_eq (pc := 5) (off := 10) (tgt := 15) (by decide +kernel) (by decide) ?_ ?_
  · refine xm_wk [] (lv' := []) rfl ?_
    exact go_X3_strike_L15 u
  · refine xm_blk0 (pc' := 9) (lv' := [(0, .ref 0), (1, .int a1), (2, .int a2)]) (st' := [.int a2]) (u' := (xU u)) [(.iload_n 2, (0, 0, 0), 0, 0)] (by decide +kernel) rfl ?_
    refine xm_Si (pc := 9) (mz := md_X3_isFlag) (idx := 167) (p1 := 489) (as := [.int a2]) (st := []) (ev_X3_isFlag a2 u) mw_X3_isFlag (by decide +kernel) (by decide +kernel) (by decide) rfl (Nat.le_of_ble_eq_true rfl) (fun r9 => ?_)
    refine xm_if_ne (pc := 12) (off := 5) (tgt := 17) (by decide +kernel) (by decide) ?_ ?_
    · refine xm_blk0 (pc' := 22) (lv' := [(0, .ref 0), (1, .int a1), (2, .int a2)]) (st' := [.int a1, .ref 19]) (u' := (xU u)) [(.aload_n 0, (0, 0, 0), 0, 0), (.getfield 34, (3, 4, 210), 0, 0), (.iload_n 1, (0, 0, 0), 0, 0)] (by decide +kernel) rfl ?_
      refine xm_Vi (pc := 22) (mz := md_X2_isOn_19) (idx := 173) (p1 := 419) (a := 19) (as := [.int a1]) (st := []) (ev_X2_isOn_19 a1 u) mw_X2_isOn (by decide +kernel) (by decide +kernel) (by decide) rfl rfl (by decide) rfl (Nat.le_of_ble_eq_true rfl) (fun r22 => ?_)
      refine xm_blk0 (pc' := 26) (lv' := [(0, .ref 0), (1, .int a1), (2, .int a2)]) (st' := [.int a2, .int r22]) (u' := (xU u)) [(.iload_n 2, (0, 0, 0), 0, 0)] (by decide +kernel) rfl ?_
      refine xm_if_ne (pc := 26) (off := 7) (tgt := 33) (by decide +kernel) (by decide) ?_ ?_
      · refine xm_blk0 (pc' := 34) (lv' := [(0, .ref 0), (1, .int a1), (2, .int a2)]) (st' := [.int (0 : Int32), .int r22]) (u' := (xU u)) [(.iconst 0, (0, 0, 0), 0, 0)] (by decide +kernel) rfl ?_
        exact go_X3_strike_L34 a1 a2 (0 : Int32) r22 u
      · refine xm_blk0 (pc' := 30) (lv' := [(0, .ref 0), (1, .int a1), (2, .int a2)]) (st' := [.int (1 : Int32), .int r22]) (u' := (xU u)) [(.iconst 1, (0, 0, 0), 1, 0)] (by decide +kernel) rfl ?_
        refine xm_goto (pc := 30) (off := 4) (tgt := 34) (by decide +kernel) (by decide) ?_
        exact go_X3_strike_L34 a1 a2 (1 : Int32) r22 u
    · refine xm_wk [] (lv' := []) rfl ?_
      exact go_X3_strike_L15 u
theorem ev_X3_strike (a1 : Int32) (a2 : Int32) (u : xN) : ∀ r, f_X3_strike a1 a2 u = some r → xEm md_X3_strike yX3_strike [.ref 0, .int a1, .int a2] (xU u) (some (.int r.1), xU r.2) := xm_met (res := rsM) (as := [.ref 0, .int a1, .int a2]) (go_X3_strike a1 a2 u) (by decide) rfl (Nat.le_of_ble_eq_true rfl)
theorem mw_X3_isBorder : xMs yX3_isBorder cX3_isBorder 3 (some .boolean) 3 := xMs_of (p1 := 521) (p2 := 520) (p3 := 92) (by decide +kernel)
/-! NeitherBare.isBorder(III)Z  -/
abbrev md_X3_isBorder : xMd := (cX3_isBorder, RX3, 3, some .boolean, 2)
def f_X3_isBorder_L31 (t0 : Int32) : Option Int32 := gdl [isb t0] (some t0)
set_option maxRecDepth 20000 in
theorem go_X3_isBorder_L31 (u : xN) (t0 : Int32) : xGm md_X3_isBorder (rsI (xU u)) (f_X3_isBorder_L31 t0) 31 [] [.int t0] (xU u) := by
  unfold f_X3_isBorder_L31
  exact xm_zret (pc := 31) (by decide +kernel) rfl rfl
def f_X3_isBorder_L30  : Option Int32 := f_X3_isBorder_L31 (0 : Int32)
set_option maxRecDepth 20000 in
theorem go_X3_isBorder_L30 (u : xN) : xGm md_X3_isBorder (rsI (xU u)) (f_X3_isBorder_L30) 30 [] [] (xU u) := by
  unfold f_X3_isBorder_L30
  refine xm_blk0 (pc' := 31) (lv' := []) (st' := [.int (0 : Int32)]) (u' := (xU u)) [(.iconst 0, (0, 0, 0), 0, 0)] (by decide +kernel) rfl ?_
  exact go_X3_isBorder_L31 u (0 : Int32)
def f_X3_isBorder (a0 : Int32) (a1 : Int32) (a2 : Int32) : Option Int32 := Option.bind (f_X3_isTrait a0) (fun r1 => if r1 = (0 : Int32) then f_X3_isBorder_L30 else Option.bind (f_X3_isFlag a1) (fun r8 => if r8 = (0 : Int32) then f_X3_isBorder_L30 else if a2 < a1 then f_X3_isBorder_L30 else if ((5 : Int32) + a1) ≤ a2 then f_X3_isBorder_L30 else f_X3_isBorder_L31 (1 : Int32)))
set_option maxRecDepth 20000 in
theorem go_X3_isBorder (a0 : Int32) (a1 : Int32) (a2 : Int32) (u : xN) : xGm md_X3_isBorder (rsI (xU u)) (f_X3_isBorder a0 a1 a2) 0 [(0, .int a0), (1, .int a1), (2, .int a2)] [] (xU u) := by
  unfold f_X3_isBorder
  refine xm_blk0 (pc' := 1) (lv' := [(0, .int a0), (1, .int a1), (2, .int a2)]) (st' := [.int a0]) (u' := (xU u)) [(.iload_n 0, (0, 0, 0), 0, 0)] (by decide +kernel) rfl ?_
  refine xm_Si (pc := 1) (mz := md_X3_isTrait) (idx := 164) (p1 := 488) (as := [.int a0]) (st := []) (ev_X3_isTrait a0 u) mw_X3_isTrait (by decide +kernel) (by decide +kernel) (by decide) rfl (Nat.le_of_ble_eq_true rfl) (fun r1 => ?_)
  refine xm_if_eq (pc := 4) (off := 26) (tgt := 30) (by decide +kernel) (by decide) ?_ ?_
  · refine xm_wk [] (lv' := []) rfl ?_
    exact go_X3_isBorder_L30 u
  · refine xm_blk0 (pc' := 8) (lv' := [(0, .int a0), (1, .int a1), (2, .int a2)]) (st' := [.int a1]) (u' := (xU u)) [(.iload_n 1, (0, 0, 0), 0, 0)] (by decide +kernel) rfl ?_
    refine xm_Si (pc := 8) (mz := md_X3_isFlag) (idx := 167) (p1 := 489) (as := [.int a1]) (st := []) (ev_X3_isFlag a1 u) mw_X3_isFlag (by decide +kernel) (by decide +kernel) (by decide) rfl (Nat.le_of_ble_eq_true rfl) (fun r8 => ?_)
    refine xm_if_eq (pc := 11) (off := 19) (tgt := 30) (by decide +kernel) (by decide) ?_ ?_
    · refine xm_wk [] (lv' := []) rfl ?_
      exact go_X3_isBorder_L30 u
    · refine xm_blk0 (pc' := 16) (lv' := [(0, .int a0), (1, .int a1), (2, .int a2)]) (st' := [.int a1, .int a2]) (u' := (xU u)) [(.iload_n 2, (0, 0, 0), 0, 0), (.iload_n 1, (0, 0, 0), 0, 0)] (by decide +kernel) rfl ?_
      refine xm_icmp_lt (pc := 16) (off := 14) (tgt := 30) (by decide +kernel) (by decide) ?_ ?_
      · refine xm_wk [] (lv' := []) rfl ?_
        exact go_X3_isBorder_L30 u
      · refine xm_blk0 (pc' := 23) (lv' := [(0, .int a0), (1, .int a1), (2, .int a2)]) (st' := [.int ((5 : Int32) + a1), .int a2]) (u' := (xU u)) [(.iload_n 2, (0, 0, 0), 0, 0), (.iconst 5, (0, 0, 0), 5, 0), (.iload_n 1, (0, 0, 0), 0, 0), (.iadd, (0, 0, 0), 0, 0)] (by decide +kernel) rfl ?_
        refine xm_icmp_ge (pc := 23) (off := 7) (tgt := 30) (by decide +kernel) (by decide) ?_ ?_
        · refine xm_wk [] (lv' := []) rfl ?_
          exact go_X3_isBorder_L30 u
        · refine xm_blk0 (pc' := 27) (lv' := [(0, .int a0), (1, .int a1), (2, .int a2)]) (st' := [.int (1 : Int32)]) (u' := (xU u)) [(.iconst 1, (0, 0, 0), 1, 0)] (by decide +kernel) rfl ?_
          refine xm_goto (pc := 27) (off := 4) (tgt := 31) (by decide +kernel) (by decide) ?_
          refine xm_wk [] (lv' := []) rfl ?_
          exact go_X3_isBorder_L31 u (1 : Int32)
theorem ev_X3_isBorder (a0 : Int32) (a1 : Int32) (a2 : Int32) (u : xN) : ∀ r, f_X3_isBorder a0 a1 a2 = some r → xEm md_X3_isBorder yX3_isBorder [.int a0, .int a1, .int a2] (xU u) (some (.int r), (xU u)) := xm_met (res := (rsI (xU u))) (as := [.int a0, .int a1, .int a2]) (go_X3_isBorder a0 a1 a2 u) (by decide) rfl (Nat.le_of_ble_eq_true rfl)
theorem mw_X3_staysBelow : xMv yX3_staysBelow cX3_staysBelow 4 (some .boolean) 3 := xMv_of (p1 := 525) (p2 := 524) (p3 := 92) (p4 := 20) (by decide +kernel)
/-! NeitherBare.staysBelow(III)Z (0, None, None, None) -/
abbrev md_X3_staysBelow : xMd := (cX3_staysBelow, RX3, 4, some .boolean, 2)
def f_X3_staysBelow_L41 (u : xN) (t0 : Int32) : Option Int32 := gdl [isb t0] (some t0)
set_option maxRecDepth 20000 in
theorem go_X3_staysBelow_L41 (u : xN) (t0 : Int32) : xGm md_X3_staysBelow (rsI (xU u)) (f_X3_staysBelow_L41 u t0) 41 [] [.int t0] (xU u) := by
  unfold f_X3_staysBelow_L41
  exact xm_zret (pc := 41) (by decide +kernel) rfl rfl
def f_X3_staysBelow (a1 : Int32) (a2 : Int32) (a3 : Int32) (u : xN) : Option Int32 := if a2 = (0 : Int32) then Option.bind (f_X2_upperOf_19 a1 u) (fun r10 => if r10 ≤ a3 then f_X3_staysBelow_L41 u (0 : Int32) else f_X3_staysBelow_L41 u (1 : Int32)) else Option.bind (f_X2_lowerOf_19 a1 u) (fun r29 => if a3 ≤ r29 then f_X3_staysBelow_L41 u (0 : Int32) else f_X3_staysBelow_L41 u (1 : Int32))
set_option maxRecDepth 20000 in
theorem go_X3_staysBelow (a1 : Int32) (a2 : Int32) (a3 : Int32) (u : xN) : xGm md_X3_staysBelow (rsI (xU u)) (f_X3_staysBelow a1 a2 a3 u) 0 [(0, .ref 0), (1, .int a1), (2, .int a2), (3, .int a3)] [] (xU u) := by
  unfold f_X3_staysBelow
  refine xm_blk0 (pc' := 1) (lv' := [(0, .ref 0), (1, .int a1), (2, .int a2), (3, .int a3)]) (st' := [.int a2]) (u' := (xU u)) [(.iload_n 2, (0, 0, 0), 0, 0)] (by decide +kernel) rfl ?_
  refine xm_if_ne (pc := 1) (off := 23) (tgt := 24) (by decide +kernel) (by decide) ?_ ?_
  · refine xm_blk0 (pc' := 29) (lv' := [(0, .ref 0), (1, .int a1), (2, .int a2), (3, .int a3)]) (st' := [.int a1, .ref 19]) (u' := (xU u)) [(.aload_n 0, (0, 0, 0), 0, 0), (.getfield 34, (3, 4, 210), 0, 0), (.iload_n 1, (0, 0, 0), 0, 0)] (by decide +kernel) rfl ?_
    refine xm_Vi (pc := 29) (mz := md_X2_lowerOf_19) (idx := 147) (p1 := 464) (a := 19) (as := [.int a1]) (st := []) (ev_X2_lowerOf_19 a1 u) mw_X2_lowerOf (by decide +kernel) (by decide +kernel) (by decide) rfl rfl (by decide) rfl (Nat.le_of_ble_eq_true rfl) (fun r29 => ?_)
    refine xm_blk0 (pc' := 33) (lv' := [(0, .ref 0), (1, .int a1), (2, .int a2), (3, .int a3)]) (st' := [.int a3, .int r29]) (u' := (xU u)) [(.iload_n 3, (0, 0, 0), 0, 0)] (by decide +kernel) rfl ?_
    refine xm_icmp_ge (pc := 33) (off := 7) (tgt := 40) (by decide +kernel) (by decide) ?_ ?_
    · refine xm_blk0 (pc' := 41) (lv' := [(0, .ref 0), (1, .int a1), (2, .int a2), (3, .int a3)]) (st' := [.int (0 : Int32)]) (u' := (xU u)) [(.iconst 0, (0, 0, 0), 0, 0)] (by decide +kernel) rfl ?_
      refine xm_wk [] (lv' := []) rfl ?_
      exact go_X3_staysBelow_L41 u (0 : Int32)
    · refine xm_blk0 (pc' := 37) (lv' := [(0, .ref 0), (1, .int a1), (2, .int a2), (3, .int a3)]) (st' := [.int (1 : Int32)]) (u' := (xU u)) [(.iconst 1, (0, 0, 0), 1, 0)] (by decide +kernel) rfl ?_
      refine xm_goto (pc := 37) (off := 4) (tgt := 41) (by decide +kernel) (by decide) ?_
      refine xm_wk [] (lv' := []) rfl ?_
      exact go_X3_staysBelow_L41 u (1 : Int32)
  · refine xm_blk0 (pc' := 10) (lv' := [(0, .ref 0), (1, .int a1), (2, .int a2), (3, .int a3)]) (st' := [.int a1, .ref 19, .int a3]) (u' := (xU u)) [(.iload_n 3, (0, 0, 0), 0, 0), (.aload_n 0, (0, 0, 0), 0, 0), (.getfield 34, (3, 4, 210), 0, 0), (.iload_n 1, (0, 0, 0), 0, 0)] (by decide +kernel) rfl ?_
    refine xm_Vi (pc := 10) (mz := md_X2_upperOf_19) (idx := 144) (p1 := 460) (a := 19) (as := [.int a1]) (st := [.int a3]) (ev_X2_upperOf_19 a1 u) mw_X2_upperOf (by decide +kernel) (by decide +kernel) (by decide) rfl rfl (by decide) rfl (Nat.le_of_ble_eq_true rfl) (fun r10 => ?_)
    refine xm_icmp_ge (pc := 13) (off := 7) (tgt := 20) (by decide +kernel) (by decide) ?_ ?_
    · refine xm_blk0 (pc' := 21) (lv' := [(0, .ref 0), (1, .int a1), (2, .int a2), (3, .int a3)]) (st' := [.int (0 : Int32)]) (u' := (xU u)) [(.iconst 0, (0, 0, 0), 0, 0)] (by decide +kernel) rfl ?_
      refine xm_goto (pc := 21) (off := 20) (tgt := 41) (by decide +kernel) (by decide) ?_
      refine xm_wk [] (lv' := []) rfl ?_
      exact go_X3_staysBelow_L41 u (0 : Int32)
    · refine xm_blk0 (pc' := 17) (lv' := [(0, .ref 0), (1, .int a1), (2, .int a2), (3, .int a3)]) (st' := [.int (1 : Int32)]) (u' := (xU u)) [(.iconst 1, (0, 0, 0), 1, 0)] (by decide +kernel) rfl ?_
      refine xm_goto (pc := 17) (off := 24) (tgt := 41) (by decide +kernel) (by decide) ?_
      refine xm_wk [] (lv' := []) rfl ?_
      exact go_X3_staysBelow_L41 u (1 : Int32)
theorem ev_X3_staysBelow (a1 : Int32) (a2 : Int32) (a3 : Int32) (u : xN) : ∀ r, f_X3_staysBelow a1 a2 a3 u = some r → xEm md_X3_staysBelow yX3_staysBelow [.ref 0, .int a1, .int a2, .int a3] (xU u) (some (.int r), (xU u)) := xm_met (res := (rsI (xU u))) (as := [.ref 0, .int a1, .int a2, .int a3]) (go_X3_staysBelow a1 a2 a3 u) (by decide) rfl (Nat.le_of_ble_eq_true rfl)
theorem mw_X2_doBorder : xMv yX2_doBorder cX2_doBorder 3 none 2 := xMv_of (p1 := 529) (p2 := 527) (p3 := 96) (p4 := 528) (by decide +kernel)
/-! NeitherBare$Standing.doBorder(II)V (19, None, None) -/
abbrev md_X2_doBorder_19 : xMd := (cX2_doBorder, RX2, 3, none, 2)
def f_X2_doBorder_19 (a1 : Int32) (a2 : Int32) (u : xN) : Option xN := gdl [inb a1 8] (Option.bind (f_X2_noteDeed_19 a1 (u.1 20 (Int32.toNatClampNeg a1)) u) (fun r8 => gdl [inb a1 8] (some (mI r8 20 (Int32.toNatClampNeg a1) a2))))
set_option maxRecDepth 20000 in
theorem go_X2_doBorder_19 (a1 : Int32) (a2 : Int32) (u : xN) : xGm md_X2_doBorder_19 rsV (f_X2_doBorder_19 a1 a2 u) 0 [(0, .ref 19), (1, .int a1), (2, .int a2)] [] (xU u) := by
  unfold f_X2_doBorder_19
  refine xm_blk (bs := [inb a1 8]) (pc' := 8) (lv' := [(0, .ref 19), (1, .int a1), (2, .int a2)]) (st' := [.int (u.1 20 (Int32.toNatClampNeg a1)), .int a1, .ref 19]) (u' := (xU u)) [(.aload_n 0, (0, 0, 0), 0, 0), (.iload_n 1, (0, 0, 0), 0, 0), (.aload_n 0, (0, 0, 0), 0, 0), (.getfield 9, (2, 3, 184), 0, 0), (.iload_n 1, (0, 0, 0), 0, 0), (.iaload, (0, 0, 0), 0, 0)] (by decide +kernel) rfl ?_
  refine xm_Vv (pc := 8) (mz := md_X2_noteDeed_19) (idx := 36) (p1 := 501) (a := 19) (as := [.int a1, .int (u.1 20 (Int32.toNatClampNeg a1))]) (st := []) (ev_X2_noteDeed_19 a1 (u.1 20 (Int32.toNatClampNeg a1)) u) mw_X2_noteDeed (by decide +kernel) (by decide +kernel) (by decide) rfl rfl (by decide) rfl (Nat.le_of_ble_eq_true rfl) (fun r8 => ?_)
  refine xm_blk (bs := [inb a1 8]) (pc' := 18) (lv' := [(0, .ref 19), (1, .int a1), (2, .int a2)]) (st' := []) (u' := (xU (mI r8 20 (Int32.toNatClampNeg a1) a2))) [(.aload_n 0, (0, 0, 0), 0, 0), (.getfield 9, (2, 3, 184), 0, 0), (.iload_n 1, (0, 0, 0), 0, 0), (.iload_n 2, (0, 0, 0), 0, 0), (.iastore, (0, 0, 0), 0, 0)] (by decide +kernel) rfl ?_
  exact xm_vret (pc := 18) (by decide +kernel) rfl rfl
theorem ev_X2_doBorder_19 (a1 : Int32) (a2 : Int32) (u : xN) : ∀ r, f_X2_doBorder_19 a1 a2 u = some r → xEm md_X2_doBorder_19 yX2_doBorder [.ref 19, .int a1, .int a2] (xU u) (none, xU r) := xm_met (res := rsV) (as := [.ref 19, .int a1, .int a2]) (go_X2_doBorder_19 a1 a2 u) (by decide) rfl (Nat.le_of_ble_eq_true rfl)
theorem mw_X3_move : xMv yX3_move cX3_move 5 (some .int) 3 := xMv_of (p1 := 518) (p2 := 516) (p3 := 92) (p4 := 517) (by decide +kernel)
/-! NeitherBare.move(III)I (0, None, None, None) -/
abbrev md_X3_move : xMd := (cX3_move, RX3, 5, some .int, 3)
def f_X3_move_L42 (u : xN) : Option (Int32 × xN) := some ((-4 : Int32), u)
set_option maxRecDepth 20000 in
theorem go_X3_move_L42 (u : xN) : xGm md_X3_move rsM (f_X3_move_L42 u) 42 [] [] (xU u) := by
  unfold f_X3_move_L42
  refine xm_blk0 (pc' := 44) (lv' := []) (st' := [.int (-4 : Int32)]) (u' := (xU u)) [(.bipush (-4), (0, 0, 0), -4, 0)] (by decide +kernel) rfl ?_
  exact xm_iret (pc := 44) (by decide +kernel) rfl rfl
def f_X3_move (a1 : Int32) (a2 : Int32) (a3 : Int32) (u : xN) : Option (Int32 × xN) := Option.bind (f_X3_isBorder a1 a2 a3) (fun r3 => if r3 = (0 : Int32) then some ((-1 : Int32), u) else gdl [inb (((2 : Int32) * a1) + a2) 8] (if (u.1 20 (Int32.toNatClampNeg (((2 : Int32) * a1) + a2))) = a3 then f_X3_move_L42 u else Option.bind (f_X3_staysBelow a1 a2 a3 u) (fun r36 => if r36 = (0 : Int32) then f_X3_move_L42 u else if (u.1 19 2) < (40 : Int32) then Option.bind (f_X2_doBorder_19 (((2 : Int32) * a1) + a2) a3 u) (fun r70 => some ((u.1 20 (Int32.toNatClampNeg (((2 : Int32) * a1) + a2))), r70)) else some ((-2 : Int32), u))))
set_option maxRecDepth 20000 in
theorem go_X3_move (a1 : Int32) (a2 : Int32) (a3 : Int32) (u : xN) : xGm md_X3_move rsM (f_X3_move a1 a2 a3 u) 0 [(0, .ref 0), (1, .int a1), (2, .int a2), (3, .int a3)] [] (xU u) := by
  unfold f_X3_move
  refine xm_blk0 (pc' := 3) (lv' := [(0, .ref 0), (1, .int a1), (2, .int a2), (3, .int a3)]) (st' := [.int a3, .int a2, .int a1]) (u' := (xU u)) [(.iload_n 1, (0, 0, 0), 0, 0), (.iload_n 2, (0, 0, 0), 0, 0), (.iload_n 3, (0, 0, 0), 0, 0)] (by decide +kernel) rfl ?_
  refine xm_Si (pc := 3) (mz := md_X3_isBorder) (idx := 191) (p1 := 519) (as := [.int a1, .int a2, .int a3]) (st := []) (ev_X3_isBorder a1 a2 a3 u) mw_X3_isBorder (by decide +kernel) (by decide +kernel) (by decide) rfl (Nat.le_of_ble_eq_true rfl) (fun r3 => ?_)
  refine xm_if_ne (pc := 6) (off := 5) (tgt := 11) (by decide +kernel) (by decide) ?_ ?_
  · refine xm_blk (bs := [inb (((2 : Int32) * a1) + a2) 8]) (pc' := 29) (lv' := [(0, .ref 0), (1, .int a1), (2, .int a2), (3, .int a3), (4, .int (u.1 20 (Int32.toNatClampNeg (((2 : Int32) * a1) + a2))))]) (st' := [.int a3, .int (u.1 20 (Int32.toNatClampNeg (((2 : Int32) * a1) + a2)))]) (u' := (xU u)) [(.aload_n 0, (0, 0, 0), 0, 0), (.getfield 34, (3, 4, 210), 0, 0), (.getfield 170, (2, 3, 185), 0, 0), (.iconst 2, (0, 0, 0), 2, 0), (.iload_n 1, (0, 0, 0), 0, 0), (.imul, (0, 0, 0), 0, 0), (.iload_n 2, (0, 0, 0), 0, 0), (.iadd, (0, 0, 0), 0, 0), (.iaload, (0, 0, 0), 0, 0), (.istore 4, (0, 0, 0), 0, 0), (.iload 4, (0, 0, 0), 0, 0), (.iload_n 3, (0, 0, 0), 0, 0)] (by decide +kernel) rfl ?_
    refine xm_icmp_eq (pc := 29) (off := 13) (tgt := 42) (by decide +kernel) (by decide) ?_ ?_
    · refine xm_wk [] (lv' := []) rfl ?_
      exact go_X3_move_L42 u
    · refine xm_blk0 (pc' := 36) (lv' := [(0, .ref 0), (1, .int a1), (2, .int a2), (3, .int a3), (4, .int (u.1 20 (Int32.toNatClampNeg (((2 : Int32) * a1) + a2))))]) (st' := [.int a3, .int a2, .int a1, .ref 0]) (u' := (xU u)) [(.aload_n 0, (0, 0, 0), 0, 0), (.iload_n 1, (0, 0, 0), 0, 0), (.iload_n 2, (0, 0, 0), 0, 0), (.iload_n 3, (0, 0, 0), 0, 0)] (by decide +kernel) rfl ?_
      refine xm_Vi (pc := 36) (mz := md_X3_staysBelow) (idx := 194) (p1 := 522) (a := 0) (as := [.int a1, .int a2, .int a3]) (st := []) (ev_X3_staysBelow a1 a2 a3 u) mw_X3_staysBelow (by decide +kernel) (by decide +kernel) (by decide) rfl rfl (by decide) rfl (Nat.le_of_ble_eq_true rfl) (fun r36 => ?_)
      refine xm_if_ne (pc := 39) (off := 6) (tgt := 45) (by decide +kernel) (by decide) ?_ ?_
      · refine xm_blk0 (pc' := 54) (lv' := [(0, .ref 0), (1, .int a1), (2, .int a2), (3, .int a3), (4, .int (u.1 20 (Int32.toNatClampNeg (((2 : Int32) * a1) + a2))))]) (st' := [.int (40 : Int32), .int (u.1 19 2)]) (u' := (xU u)) [(.aload_n 0, (0, 0, 0), 0, 0), (.getfield 34, (3, 4, 210), 0, 0), (.getfield 176, (2, 2, 183), 0, 0), (.bipush 40, (0, 0, 0), 40, 0)] (by decide +kernel) rfl ?_
        refine xm_icmp_lt (pc := 54) (off := 6) (tgt := 60) (by decide +kernel) (by decide) ?_ ?_
        · refine xm_blk0 (pc' := 70) (lv' := [(0, .ref 0), (1, .int a1), (2, .int a2), (3, .int a3), (4, .int (u.1 20 (Int32.toNatClampNeg (((2 : Int32) * a1) + a2))))]) (st' := [.int a3, .int (((2 : Int32) * a1) + a2), .ref 19]) (u' := (xU u)) [(.aload_n 0, (0, 0, 0), 0, 0), (.getfield 34, (3, 4, 210), 0, 0), (.iconst 2, (0, 0, 0), 2, 0), (.iload_n 1, (0, 0, 0), 0, 0), (.imul, (0, 0, 0), 0, 0), (.iload_n 2, (0, 0, 0), 0, 0), (.iadd, (0, 0, 0), 0, 0), (.iload_n 3, (0, 0, 0), 0, 0)] (by decide +kernel) rfl ?_
          refine xm_Vv (pc := 70) (mz := md_X2_doBorder_19) (idx := 197) (p1 := 526) (a := 19) (as := [.int (((2 : Int32) * a1) + a2), .int a3]) (st := []) (ev_X2_doBorder_19 (((2 : Int32) * a1) + a2) a3 u) mw_X2_doBorder (by decide +kernel) (by decide +kernel) (by decide) rfl rfl (by decide) rfl (Nat.le_of_ble_eq_true rfl) (fun r70 => ?_)
          refine xm_blk0 (pc' := 75) (lv' := [(0, .ref 0), (1, .int a1), (2, .int a2), (3, .int a3), (4, .int (u.1 20 (Int32.toNatClampNeg (((2 : Int32) * a1) + a2))))]) (st' := [.int (u.1 20 (Int32.toNatClampNeg (((2 : Int32) * a1) + a2)))]) (u' := (xU r70)) [(.iload 4, (0, 0, 0), 0, 0)] (by decide +kernel) rfl ?_
          exact xm_iret (pc := 75) (by decide +kernel) rfl rfl
        · refine xm_blk0 (pc' := 59) (lv' := [(0, .ref 0), (1, .int a1), (2, .int a2), (3, .int a3), (4, .int (u.1 20 (Int32.toNatClampNeg (((2 : Int32) * a1) + a2))))]) (st' := [.int (-2 : Int32)]) (u' := (xU u)) [(.bipush (-2), (0, 0, 0), -2, 0)] (by decide +kernel) rfl ?_
          exact xm_iret (pc := 59) (by decide +kernel) rfl rfl
      · refine xm_wk [] (lv' := []) rfl ?_
        exact go_X3_move_L42 u
  · refine xm_blk0 (pc' := 10) (lv' := [(0, .ref 0), (1, .int a1), (2, .int a2), (3, .int a3)]) (st' := [.int (-1 : Int32)]) (u' := (xU u)) [(.iconst (-1), (0, 0, 0), -1, 0)] (by decide +kernel) rfl ?_
    exact xm_iret (pc := 10) (by decide +kernel) rfl rfl
theorem ev_X3_move (a1 : Int32) (a2 : Int32) (a3 : Int32) (u : xN) : ∀ r, f_X3_move a1 a2 a3 u = some r → xEm md_X3_move yX3_move [.ref 0, .int a1, .int a2, .int a3] (xU u) (some (.int r.1), xU r.2) := xm_met (res := rsM) (as := [.ref 0, .int a1, .int a2, .int a3]) (go_X3_move a1 a2 a3 u) (by decide) rfl (Nat.le_of_ble_eq_true rfl)
theorem mw_X2_takeBackTo : xMv yX2_takeBackTo cX2_takeBackTo 4 none 1 := xMv_of (p1 := 537) (p2 := 535) (p3 := 96) (p4 := 536) (by decide +kernel)
/-! NeitherBare$Standing.takeBackTo(I)V (19, None) -/
abbrev md_X2_takeBackTo_19 : xMd := (cX2_takeBackTo, RX2, 4, none, 2)
def f_X2_takeBackTo_19_L69 (N : Nat) (rec7 : Int32 → Int32 → xN → Option xN) (v1 : Int32) (v2 : Int32) (u : xN) : Option xN := rec7 v1 (v2 + (-1 : Int32)) u
set_option maxRecDepth 20000 in
theorem go_X2_takeBackTo_19_L69 (N : Nat) (rec7 : Int32 → Int32 → xN → Option xN) (h7 : ∀ (v1 : Int32) (v2 : Int32) (u : xN), xGm md_X2_takeBackTo_19 rsV (rec7 v1 v2 u) 7 [(0, .ref 19), (1, .int v1), (2, .int v2)] [] (xU u)) (v1 : Int32) (v2 : Int32) (u : xN) : xGm md_X2_takeBackTo_19 rsV (f_X2_takeBackTo_19_L69 N rec7 v1 v2 u) 69 [(0, .ref 19), (1, .int v1), (2, .int v2)] [] (xU u) := by
  unfold f_X2_takeBackTo_19_L69
  refine xm_blk0 (pc' := 72) (lv' := [(0, .ref 19), (1, .int v1), (2, .int (v2 + (-1 : Int32)))]) (st' := []) (u' := (xU u)) [(.iinc 2 (-1), (0, 0, 0), -1, 0)] (by decide +kernel) rfl ?_
  refine xm_goto (pc := 72) (off := -65) (tgt := 7) (by decide +kernel) (by decide) ?_
  exact h7 v1 (v2 + (-1 : Int32)) u
def f_X2_takeBackTo_19_L66 (N : Nat) (rec7 : Int32 → Int32 → xN → Option xN) (v1 : Int32) (v2 : Int32) (t0 : Int32) (t1 : Int32) (u : xN) : Option xN := Option.bind (f_X2_setClause_19 t1 t0 u) (fun r66 => f_X2_takeBackTo_19_L69 N rec7 v1 v2 r66)
set_option maxRecDepth 20000 in
theorem go_X2_takeBackTo_19_L66 (N : Nat) (rec7 : Int32 → Int32 → xN → Option xN) (h7 : ∀ (v1 : Int32) (v2 : Int32) (u : xN), xGm md_X2_takeBackTo_19 rsV (rec7 v1 v2 u) 7 [(0, .ref 19), (1, .int v1), (2, .int v2)] [] (xU u)) (v1 : Int32) (v2 : Int32) (t0 : Int32) (t1 : Int32) (u : xN) : xGm md_X2_takeBackTo_19 rsV (f_X2_takeBackTo_19_L66 N rec7 v1 v2 t0 t1 u) 66 [(0, .ref 19), (1, .int v1), (2, .int v2)] [.int t0, .int t1, .ref 19] (xU u) := by
  unfold f_X2_takeBackTo_19_L66
  refine xm_Vv (pc := 66) (mz := md_X2_setClause_19) (idx := 40) (p1 := 505) (a := 19) (as := [.int t1, .int t0]) (st := []) (ev_X2_setClause_19 t1 t0 u) mw_X2_setClause (by decide +kernel) (by decide +kernel) (by decide) rfl rfl (by decide) rfl (Nat.le_of_ble_eq_true rfl) (fun r66 => ?_)
  exact go_X2_takeBackTo_19_L69 N rec7 h7 v1 v2 r66
def f_X2_takeBackTo_19_L7b (N : Nat) (rec7 : Int32 → Int32 → xN → Option xN) (v1 : Int32) (v2 : Int32) (u : xN) : Option xN := if v2 < v1 then some (mI u 19 2 v1) else gdl [inb v2 40] (if (8 : Int32) ≤ (u.1 21 (Int32.toNatClampNeg v2)) then (gdl [inb v2 40] (if (u.1 22 (Int32.toNatClampNeg v2)) = (1 : Int32) then f_X2_takeBackTo_19_L66 N rec7 v1 v2 (1 : Int32) ((u.1 21 (Int32.toNatClampNeg v2)) - (8 : Int32)) u else f_X2_takeBackTo_19_L66 N rec7 v1 v2 (0 : Int32) ((u.1 21 (Int32.toNatClampNeg v2)) - (8 : Int32)) u)) else gdl [inb v2 40, inb (u.1 21 (Int32.toNatClampNeg v2)) 8] (f_X2_takeBackTo_19_L69 N rec7 v1 v2 (mI u 20 (Int32.toNatClampNeg (u.1 21 (Int32.toNatClampNeg v2))) (u.1 22 (Int32.toNatClampNeg v2)))))
set_option maxRecDepth 20000 in
theorem go_X2_takeBackTo_19_L7b (N : Nat) (rec7 : Int32 → Int32 → xN → Option xN) (h7 : ∀ (v1 : Int32) (v2 : Int32) (u : xN), xGm md_X2_takeBackTo_19 rsV (rec7 v1 v2 u) 7 [(0, .ref 19), (1, .int v1), (2, .int v2)] [] (xU u)) (v1 : Int32) (v2 : Int32) (u : xN) : xGm md_X2_takeBackTo_19 rsV (f_X2_takeBackTo_19_L7b N rec7 v1 v2 u) 7 [(0, .ref 19), (1, .int v1), (2, .int v2)] [] (xU u) := by
  unfold f_X2_takeBackTo_19_L7b
  refine xm_blk0 (pc' := 9) (lv' := [(0, .ref 19), (1, .int v1), (2, .int v2)]) (st' := [.int v1, .int v2]) (u' := (xU u)) [(.iload_n 2, (0, 0, 0), 0, 0), (.iload_n 1, (0, 0, 0), 0, 0)] (by decide +kernel) rfl ?_
  refine xm_icmp_lt (pc := 9) (off := 66) (tgt := 75) (by decide +kernel) (by decide) ?_ ?_
  · refine xm_blk0 (pc' := 80) (lv' := [(0, .ref 19), (1, .int v1), (2, .int v2)]) (st' := []) (u' := (xU (mI u 19 2 v1))) [(.aload_n 0, (0, 0, 0), 0, 0), (.iload_n 1, (0, 0, 0), 0, 0), (.putfield 25, (2, 2, 182), 0, 0)] (by decide +kernel) rfl ?_
    exact xm_vret (pc := 80) (by decide +kernel) rfl rfl
  · refine xm_blk (bs := [inb v2 40]) (pc' := 25) (lv' := [(0, .ref 19), (1, .int v1), (2, .int v2), (3, .int (u.1 21 (Int32.toNatClampNeg v2)))]) (st' := [.int (8 : Int32), .int (u.1 21 (Int32.toNatClampNeg v2))]) (u' := (xU u)) [(.aload_n 0, (0, 0, 0), 0, 0), (.getfield 15, (2, 4, 186), 0, 0), (.iload_n 2, (0, 0, 0), 0, 0), (.iaload, (0, 0, 0), 0, 0), (.istore_n 3, (0, 0, 0), 0, 0), (.iload_n 3, (0, 0, 0), 0, 0), (.aload_n 0, (0, 0, 0), 0, 0), (.getfield 9, (2, 3, 184), 0, 0), (.arraylength, (0, 0, 0), 0, 0)] (by decide +kernel) rfl ?_
    refine xm_icmp_ge (pc := 25) (off := 18) (tgt := 43) (by decide +kernel) (by decide) ?_ ?_
    · refine xm_blk (bs := [inb v2 40]) (pc' := 58) (lv' := [(0, .ref 19), (1, .int v1), (2, .int v2), (3, .int (u.1 21 (Int32.toNatClampNeg v2)))]) (st' := [.int (1 : Int32), .int (u.1 22 (Int32.toNatClampNeg v2)), .int ((u.1 21 (Int32.toNatClampNeg v2)) - (8 : Int32)), .ref 19]) (u' := (xU u)) [(.aload_n 0, (0, 0, 0), 0, 0), (.iload_n 3, (0, 0, 0), 0, 0), (.aload_n 0, (0, 0, 0), 0, 0), (.getfield 9, (2, 3, 184), 0, 0), (.arraylength, (0, 0, 0), 0, 0), (.isub, (0, 0, 0), 0, 0), (.aload_n 0, (0, 0, 0), 0, 0), (.getfield 18, (2, 5, 187), 0, 0), (.iload_n 2, (0, 0, 0), 0, 0), (.iaload, (0, 0, 0), 0, 0), (.iconst 1, (0, 0, 0), 1, 0)] (by decide +kernel) rfl ?_
      refine xm_icmp_ne (pc := 58) (off := 7) (tgt := 65) (by decide +kernel) (by decide) ?_ ?_
      · refine xm_blk0 (pc' := 66) (lv' := [(0, .ref 19), (1, .int v1), (2, .int v2), (3, .int (u.1 21 (Int32.toNatClampNeg v2)))]) (st' := [.int (0 : Int32), .int ((u.1 21 (Int32.toNatClampNeg v2)) - (8 : Int32)), .ref 19]) (u' := (xU u)) [(.iconst 0, (0, 0, 0), 0, 0)] (by decide +kernel) rfl ?_
        refine xm_wk [0, 1, 2] (lv' := [(0, .ref 19), (1, .int v1), (2, .int v2)]) rfl ?_
        exact go_X2_takeBackTo_19_L66 N rec7 h7 v1 v2 (0 : Int32) ((u.1 21 (Int32.toNatClampNeg v2)) - (8 : Int32)) u
      · refine xm_blk0 (pc' := 62) (lv' := [(0, .ref 19), (1, .int v1), (2, .int v2), (3, .int (u.1 21 (Int32.toNatClampNeg v2)))]) (st' := [.int (1 : Int32), .int ((u.1 21 (Int32.toNatClampNeg v2)) - (8 : Int32)), .ref 19]) (u' := (xU u)) [(.iconst 1, (0, 0, 0), 1, 0)] (by decide +kernel) rfl ?_
        refine xm_goto (pc := 62) (off := 4) (tgt := 66) (by decide +kernel) (by decide) ?_
        refine xm_wk [0, 1, 2] (lv' := [(0, .ref 19), (1, .int v1), (2, .int v2)]) rfl ?_
        exact go_X2_takeBackTo_19_L66 N rec7 h7 v1 v2 (1 : Int32) ((u.1 21 (Int32.toNatClampNeg v2)) - (8 : Int32)) u
    · refine xm_blk (bs := [inb v2 40, inb (u.1 21 (Int32.toNatClampNeg v2)) 8]) (pc' := 40) (lv' := [(0, .ref 19), (1, .int v1), (2, .int v2), (3, .int (u.1 21 (Int32.toNatClampNeg v2)))]) (st' := []) (u' := (xU (mI u 20 (Int32.toNatClampNeg (u.1 21 (Int32.toNatClampNeg v2))) (u.1 22 (Int32.toNatClampNeg v2))))) [(.aload_n 0, (0, 0, 0), 0, 0), (.getfield 9, (2, 3, 184), 0, 0), (.iload_n 3, (0, 0, 0), 0, 0), (.aload_n 0, (0, 0, 0), 0, 0), (.getfield 18, (2, 5, 187), 0, 0), (.iload_n 2, (0, 0, 0), 0, 0), (.iaload, (0, 0, 0), 0, 0), (.iastore, (0, 0, 0), 0, 0)] (by decide +kernel) rfl ?_
      refine xm_goto (pc := 40) (off := 29) (tgt := 69) (by decide +kernel) (by decide) ?_
      refine xm_wk [0, 1, 2] (lv' := [(0, .ref 19), (1, .int v1), (2, .int v2)]) rfl ?_
      exact go_X2_takeBackTo_19_L69 N rec7 h7 v1 v2 (mI u 20 (Int32.toNatClampNeg (u.1 21 (Int32.toNatClampNeg v2))) (u.1 22 (Int32.toNatClampNeg v2)))
def f_X2_takeBackTo_19_L7 (N : Nat) : Nat → Int32 → Int32 → xN → Option xN
  | 0 => fun _ _ _ => none
  | n + 1 => fun v1 v2 u => f_X2_takeBackTo_19_L7b N (f_X2_takeBackTo_19_L7 N n) v1 v2 u
theorem go_X2_takeBackTo_19_L7 (N : Nat) : ∀ (n : Nat) (v1 : Int32) (v2 : Int32) (u : xN), xGm md_X2_takeBackTo_19 rsV (f_X2_takeBackTo_19_L7 N n v1 v2 u) 7 [(0, .ref 19), (1, .int v1), (2, .int v2)] [] (xU u) := by
  intro n
  induction n with
  | zero => intro v1 v2 u; exact xm_none
  | succ n ih => intro v1 v2 u; exact go_X2_takeBackTo_19_L7b N _ ih v1 v2 u
def f_X2_takeBackTo_19 (N : Nat) (a1 : Int32) (u : xN) : Option xN := f_X2_takeBackTo_19_L7 N N a1 ((u.1 19 2) - (1 : Int32)) u
set_option maxRecDepth 20000 in
theorem go_X2_takeBackTo_19 (N : Nat) (a1 : Int32) (u : xN) : xGm md_X2_takeBackTo_19 rsV (f_X2_takeBackTo_19 N a1 u) 0 [(0, .ref 19), (1, .int a1)] [] (xU u) := by
  unfold f_X2_takeBackTo_19
  refine xm_blk0 (pc' := 7) (lv' := [(0, .ref 19), (1, .int a1), (2, .int ((u.1 19 2) - (1 : Int32)))]) (st' := []) (u' := (xU u)) [(.aload_n 0, (0, 0, 0), 0, 0), (.getfield 25, (2, 2, 182), 0, 0), (.iconst 1, (0, 0, 0), 1, 0), (.isub, (0, 0, 0), 0, 0), (.istore_n 2, (0, 0, 0), 0, 0)] (by decide +kernel) rfl ?_
  exact go_X2_takeBackTo_19_L7 N N a1 ((u.1 19 2) - (1 : Int32)) u
theorem ev_X2_takeBackTo_19 (N : Nat) (a1 : Int32) (u : xN) : ∀ r, f_X2_takeBackTo_19 N a1 u = some r → xEm md_X2_takeBackTo_19 yX2_takeBackTo [.ref 19, .int a1] (xU u) (none, xU r) := xm_met (res := rsV) (as := [.ref 19, .int a1]) (go_X2_takeBackTo_19 N a1 u) (by decide) rfl (Nat.le_of_ble_eq_true rfl)
theorem mw_X3_undo : xMv yX3_undo cX3_undo 3 (some .int) 1 := xMv_of (p1 := 533) (p2 := 531) (p3 := 92) (p4 := 532) (by decide +kernel)
/-! NeitherBare.undo(I)I (0, None) -/
abbrev md_X3_undo : xMd := (cX3_undo, RX3, 3, some .int, 3)
def f_X3_undo_L15 (N : Nat) (u : xN) : Option (Int32 × xN) := some ((-1 : Int32), u)
set_option maxRecDepth 20000 in
theorem go_X3_undo_L15 (N : Nat) (u : xN) : xGm md_X3_undo rsM (f_X3_undo_L15 N u) 15 [] [] (xU u) := by
  unfold f_X3_undo_L15
  refine xm_blk0 (pc' := 16) (lv' := []) (st' := [.int (-1 : Int32)]) (u' := (xU u)) [(.iconst (-1), (0, 0, 0), -1, 0)] (by decide +kernel) rfl ?_
  exact xm_iret (pc := 16) (by decide +kernel) rfl rfl
def f_X3_undo (N : Nat) (a1 : Int32) (u : xN) : Option (Int32 × xN) := if a1 < (0 : Int32) then f_X3_undo_L15 N u else if a1 ≤ (u.1 19 2) then Option.bind (f_X2_takeBackTo_19 N a1 u) (fun r32 => some (((u.1 19 2) - a1), r32)) else f_X3_undo_L15 N u
set_option maxRecDepth 20000 in
theorem go_X3_undo (N : Nat) (a1 : Int32) (u : xN) : xGm md_X3_undo rsM (f_X3_undo N a1 u) 0 [(0, .ref 0), (1, .int a1)] [] (xU u) := by
  unfold f_X3_undo
  refine xm_blk0 (pc' := 1) (lv' := [(0, .ref 0), (1, .int a1)]) (st' := [.int a1]) (u' := (xU u)) [(.iload_n 1, (0, 0, 0), 0, 0)] (by decide +kernel) rfl ?_
  refine xm_if_lt (pc := 1) (off := 14) (tgt := 15) (by decide +kernel) (by decide) ?_ ?_
  · refine xm_wk [] (lv' := []) rfl ?_
    exact go_X3_undo_L15 N u
  · refine xm_blk0 (pc' := 12) (lv' := [(0, .ref 0), (1, .int a1)]) (st' := [.int (u.1 19 2), .int a1]) (u' := (xU u)) [(.iload_n 1, (0, 0, 0), 0, 0), (.aload_n 0, (0, 0, 0), 0, 0), (.getfield 34, (3, 4, 210), 0, 0), (.getfield 176, (2, 2, 183), 0, 0)] (by decide +kernel) rfl ?_
    refine xm_icmp_le (pc := 12) (off := 5) (tgt := 17) (by decide +kernel) (by decide) ?_ ?_
    · refine xm_blk0 (pc' := 32) (lv' := [(0, .ref 0), (1, .int a1), (2, .int ((u.1 19 2) - a1))]) (st' := [.int a1, .ref 19]) (u' := (xU u)) [(.aload_n 0, (0, 0, 0), 0, 0), (.getfield 34, (3, 4, 210), 0, 0), (.getfield 176, (2, 2, 183), 0, 0), (.iload_n 1, (0, 0, 0), 0, 0), (.isub, (0, 0, 0), 0, 0), (.istore_n 2, (0, 0, 0), 0, 0), (.aload_n 0, (0, 0, 0), 0, 0), (.getfield 34, (3, 4, 210), 0, 0), (.iload_n 1, (0, 0, 0), 0, 0)] (by decide +kernel) rfl ?_
      refine xm_Vv (pc := 32) (mz := md_X2_takeBackTo_19) (idx := 201) (p1 := 534) (a := 19) (as := [.int a1]) (st := []) (ev_X2_takeBackTo_19 N a1 u) mw_X2_takeBackTo (by decide +kernel) (by decide +kernel) (by decide) rfl rfl (by decide) rfl (Nat.le_of_ble_eq_true rfl) (fun r32 => ?_)
      refine xm_blk0 (pc' := 36) (lv' := [(0, .ref 0), (1, .int a1), (2, .int ((u.1 19 2) - a1))]) (st' := [.int ((u.1 19 2) - a1)]) (u' := (xU r32)) [(.iload_n 2, (0, 0, 0), 0, 0)] (by decide +kernel) rfl ?_
      exact xm_iret (pc := 36) (by decide +kernel) rfl rfl
    · refine xm_wk [] (lv' := []) rfl ?_
      exact go_X3_undo_L15 N u
theorem ev_X3_undo (N : Nat) (a1 : Int32) (u : xN) : ∀ r, f_X3_undo N a1 u = some r → xEm md_X3_undo yX3_undo [.ref 0, .int a1] (xU u) (some (.int r.1), xU r.2) := xm_met (res := rsM) (as := [.ref 0, .int a1]) (go_X3_undo N a1 u) (by decide) rfl (Nat.le_of_ble_eq_true rfl)
theorem mw_X3_isKeepingPlace : xMs yX3_isKeepingPlace cX3_isKeepingPlace 1 (some .boolean) 1 := xMs_of (p1 := 544) (p2 := 543) (p3 := 92) (by decide +kernel)
/-! NeitherBare.isKeepingPlace(I)Z  -/
abbrev md_X3_isKeepingPlace : xMd := (cX3_isKeepingPlace, RX3, 1, some .boolean, 1)
def f_X3_isKeepingPlace_L14 (t0 : Int32) : Option Int32 := gdl [isb t0] (some t0)
set_option maxRecDepth 20000 in
theorem go_X3_isKeepingPlace_L14 (u : xN) (t0 : Int32) : xGm md_X3_isKeepingPlace (rsI (xU u)) (f_X3_isKeepingPlace_L14 t0) 14 [] [.int t0] (xU u) := by
  unfold f_X3_isKeepingPlace_L14
  exact xm_zret (pc := 14) (by decide +kernel) rfl rfl
def f_X3_isKeepingPlace_L13  : Option Int32 := f_X3_isKeepingPlace_L14 (0 : Int32)
set_option maxRecDepth 20000 in
theorem go_X3_isKeepingPlace_L13 (u : xN) : xGm md_X3_isKeepingPlace (rsI (xU u)) (f_X3_isKeepingPlace_L13) 13 [] [] (xU u) := by
  unfold f_X3_isKeepingPlace_L13
  refine xm_blk0 (pc' := 14) (lv' := []) (st' := [.int (0 : Int32)]) (u' := (xU u)) [(.iconst 0, (0, 0, 0), 0, 0)] (by decide +kernel) rfl ?_
  exact go_X3_isKeepingPlace_L14 u (0 : Int32)
def f_X3_isKeepingPlace (a0 : Int32) : Option Int32 := if a0 < (0 : Int32) then f_X3_isKeepingPlace_L13 else if (3 : Int32) ≤ a0 then f_X3_isKeepingPlace_L13 else f_X3_isKeepingPlace_L14 (1 : Int32)
set_option maxRecDepth 20000 in
theorem go_X3_isKeepingPlace (a0 : Int32) (u : xN) : xGm md_X3_isKeepingPlace (rsI (xU u)) (f_X3_isKeepingPlace a0) 0 [(0, .int a0)] [] (xU u) := by
  unfold f_X3_isKeepingPlace
  refine xm_blk0 (pc' := 1) (lv' := [(0, .int a0)]) (st' := [.int a0]) (u' := (xU u)) [(.iload_n 0, (0, 0, 0), 0, 0)] (by decide +kernel) rfl ?_
  refine xm_if_lt (pc := 1) (off := 12) (tgt := 13) (by decide +kernel) (by decide) ?_ ?_
  · refine xm_wk [] (lv' := []) rfl ?_
    exact go_X3_isKeepingPlace_L13 u
  · refine xm_blk0 (pc' := 6) (lv' := [(0, .int a0)]) (st' := [.int (3 : Int32), .int a0]) (u' := (xU u)) [(.iload_n 0, (0, 0, 0), 0, 0), (.iconst 3, (0, 0, 0), 3, 0)] (by decide +kernel) rfl ?_
    refine xm_icmp_ge (pc := 6) (off := 7) (tgt := 13) (by decide +kernel) (by decide) ?_ ?_
    · refine xm_wk [] (lv' := []) rfl ?_
      exact go_X3_isKeepingPlace_L13 u
    · refine xm_blk0 (pc' := 10) (lv' := [(0, .int a0)]) (st' := [.int (1 : Int32)]) (u' := (xU u)) [(.iconst 1, (0, 0, 0), 1, 0)] (by decide +kernel) rfl ?_
      refine xm_goto (pc := 10) (off := 4) (tgt := 14) (by decide +kernel) (by decide) ?_
      refine xm_wk [] (lv' := []) rfl ?_
      exact go_X3_isKeepingPlace_L14 u (1 : Int32)
theorem ev_X3_isKeepingPlace (a0 : Int32) (u : xN) : ∀ r, f_X3_isKeepingPlace a0 = some r → xEm md_X3_isKeepingPlace yX3_isKeepingPlace [.int a0] (xU u) (some (.int r), (xU u)) := xm_met (res := (rsI (xU u))) (as := [.int a0]) (go_X3_isKeepingPlace a0 u) (by decide) rfl (Nat.le_of_ble_eq_true rfl)
theorem mw_X2_takeFrom : xMv yX2_takeFrom cX2_takeFrom 2 none 1 := xMv_of (p1 := 548) (p2 := 546) (p3 := 96) (p4 := 547) (by decide +kernel)
/-! NeitherBare$Standing.takeFrom(LNeitherBare$Standing;)V (24, 19) -/
abbrev md_X2_takeFrom_24_19 : xMd := (cX2_takeFrom, RX2, 2, none, 1)
def f_X2_takeFrom_24_19 (u : xN) : Option xN := gdl [cpok (0 : Int32) (0 : Int32) (8 : Int32) 8 8] (gdl [cpok (0 : Int32) (0 : Int32) (40 : Int32) 40 40] (gdl [cpok (0 : Int32) (0 : Int32) (40 : Int32) 40 40] (some (mCp (mCp (mCp (mI (mI u 24 1 (u.1 19 1)) 24 2 ((mI u 24 1 (u.1 19 1)).1 19 2)) 20 25 (0 : Int32) (0 : Int32) (8 : Int32)) 21 26 (0 : Int32) (0 : Int32) (40 : Int32)) 22 27 (0 : Int32) (0 : Int32) (40 : Int32)))))
set_option maxRecDepth 20000 in
theorem go_X2_takeFrom_24_19 (u : xN) : xGm md_X2_takeFrom_24_19 rsV (f_X2_takeFrom_24_19 u) 0 [(0, .ref 24), (1, .ref 19)] [] (xU u) := by
  unfold f_X2_takeFrom_24_19
  refine xm_blk0 (pc' := 31) (lv' := [(0, .ref 24), (1, .ref 19)]) (st' := [.int (8 : Int32), .int (0 : Int32), .ref 25, .int (0 : Int32), .ref 20]) (u' := (xU (mI (mI u 24 1 (u.1 19 1)) 24 2 ((mI u 24 1 (u.1 19 1)).1 19 2)))) [(.aload_n 0, (0, 0, 0), 0, 0), (.aload_n 1, (0, 0, 0), 0, 0), (.getfield 21, (2, 1, 180), 0, 0), (.putfield 21, (2, 1, 180), 0, 0), (.aload_n 0, (0, 0, 0), 0, 0), (.aload_n 1, (0, 0, 0), 0, 0), (.getfield 25, (2, 2, 182), 0, 0), (.putfield 25, (2, 2, 182), 0, 0), (.aload_n 1, (0, 0, 0), 0, 0), (.getfield 9, (2, 3, 184), 0, 0), (.iconst 0, (0, 0, 0), 0, 0), (.aload_n 0, (0, 0, 0), 0, 0), (.getfield 9, (2, 3, 184), 0, 0), (.iconst 0, (0, 0, 0), 0, 0), (.aload_n 0, (0, 0, 0), 0, 0), (.getfield 9, (2, 3, 184), 0, 0), (.arraylength, (0, 0, 0), 0, 0)] (by decide +kernel) rfl ?_
  refine xm_acopy (pc := 31) (idx := 44) (p1 := 549) 8 8 (by decide +kernel) (by decide +kernel) rfl rfl (by decide) (by decide) (by decide) (Nat.le_of_ble_eq_true rfl) ?_
  show xGm md_X2_takeFrom_24_19 rsV _ 34 [(0, .ref 24), (1, .ref 19)] [] (xU (mCp (mI (mI u 24 1 (u.1 19 1)) 24 2 ((mI u 24 1 (u.1 19 1)).1 19 2)) 20 25 (0 : Int32) (0 : Int32) (8 : Int32)))
  refine xm_blk0 (pc' := 46) (lv' := [(0, .ref 24), (1, .ref 19)]) (st' := [.int (40 : Int32), .int (0 : Int32), .ref 26, .int (0 : Int32), .ref 21]) (u' := (xU (mCp (mI (mI u 24 1 (u.1 19 1)) 24 2 ((mI u 24 1 (u.1 19 1)).1 19 2)) 20 25 (0 : Int32) (0 : Int32) (8 : Int32)))) [(.aload_n 1, (0, 0, 0), 0, 0), (.getfield 15, (2, 4, 186), 0, 0), (.iconst 0, (0, 0, 0), 0, 0), (.aload_n 0, (0, 0, 0), 0, 0), (.getfield 15, (2, 4, 186), 0, 0), (.iconst 0, (0, 0, 0), 0, 0), (.bipush 40, (0, 0, 0), 40, 0)] (by decide +kernel) rfl ?_
  refine xm_acopy (pc := 46) (idx := 44) (p1 := 549) 40 40 (by decide +kernel) (by decide +kernel) rfl rfl (by decide) (by decide) (by decide) (Nat.le_of_ble_eq_true rfl) ?_
  show xGm md_X2_takeFrom_24_19 rsV _ 49 [(0, .ref 24), (1, .ref 19)] [] (xU (mCp (mCp (mI (mI u 24 1 (u.1 19 1)) 24 2 ((mI u 24 1 (u.1 19 1)).1 19 2)) 20 25 (0 : Int32) (0 : Int32) (8 : Int32)) 21 26 (0 : Int32) (0 : Int32) (40 : Int32)))
  refine xm_blk0 (pc' := 61) (lv' := [(0, .ref 24), (1, .ref 19)]) (st' := [.int (40 : Int32), .int (0 : Int32), .ref 27, .int (0 : Int32), .ref 22]) (u' := (xU (mCp (mCp (mI (mI u 24 1 (u.1 19 1)) 24 2 ((mI u 24 1 (u.1 19 1)).1 19 2)) 20 25 (0 : Int32) (0 : Int32) (8 : Int32)) 21 26 (0 : Int32) (0 : Int32) (40 : Int32)))) [(.aload_n 1, (0, 0, 0), 0, 0), (.getfield 18, (2, 5, 187), 0, 0), (.iconst 0, (0, 0, 0), 0, 0), (.aload_n 0, (0, 0, 0), 0, 0), (.getfield 18, (2, 5, 187), 0, 0), (.iconst 0, (0, 0, 0), 0, 0), (.bipush 40, (0, 0, 0), 40, 0)] (by decide +kernel) rfl ?_
  refine xm_acopy (pc := 61) (idx := 44) (p1 := 549) 40 40 (by decide +kernel) (by decide +kernel) rfl rfl (by decide) (by decide) (by decide) (Nat.le_of_ble_eq_true rfl) ?_
  show xGm md_X2_takeFrom_24_19 rsV _ 64 [(0, .ref 24), (1, .ref 19)] [] (xU (mCp (mCp (mCp (mI (mI u 24 1 (u.1 19 1)) 24 2 ((mI u 24 1 (u.1 19 1)).1 19 2)) 20 25 (0 : Int32) (0 : Int32) (8 : Int32)) 21 26 (0 : Int32) (0 : Int32) (40 : Int32)) 22 27 (0 : Int32) (0 : Int32) (40 : Int32)))
  exact xm_vret (pc := 64) (by decide +kernel) rfl rfl
theorem ev_X2_takeFrom_24_19 (u : xN) : ∀ r, f_X2_takeFrom_24_19 u = some r → xEm md_X2_takeFrom_24_19 yX2_takeFrom [.ref 24, .ref 19] (xU u) (none, xU r) := xm_met (res := rsV) (as := [.ref 24, .ref 19]) (go_X2_takeFrom_24_19 u) (by decide) rfl (Nat.le_of_ble_eq_true rfl)
/-! NeitherBare$Standing.takeFrom(LNeitherBare$Standing;)V (28, 19) -/
abbrev md_X2_takeFrom_28_19 : xMd := (cX2_takeFrom, RX2, 2, none, 1)
def f_X2_takeFrom_28_19 (u : xN) : Option xN := gdl [cpok (0 : Int32) (0 : Int32) (8 : Int32) 8 8] (gdl [cpok (0 : Int32) (0 : Int32) (40 : Int32) 40 40] (gdl [cpok (0 : Int32) (0 : Int32) (40 : Int32) 40 40] (some (mCp (mCp (mCp (mI (mI u 28 1 (u.1 19 1)) 28 2 ((mI u 28 1 (u.1 19 1)).1 19 2)) 20 29 (0 : Int32) (0 : Int32) (8 : Int32)) 21 30 (0 : Int32) (0 : Int32) (40 : Int32)) 22 31 (0 : Int32) (0 : Int32) (40 : Int32)))))
set_option maxRecDepth 20000 in
theorem go_X2_takeFrom_28_19 (u : xN) : xGm md_X2_takeFrom_28_19 rsV (f_X2_takeFrom_28_19 u) 0 [(0, .ref 28), (1, .ref 19)] [] (xU u) := by
  unfold f_X2_takeFrom_28_19
  refine xm_blk0 (pc' := 31) (lv' := [(0, .ref 28), (1, .ref 19)]) (st' := [.int (8 : Int32), .int (0 : Int32), .ref 29, .int (0 : Int32), .ref 20]) (u' := (xU (mI (mI u 28 1 (u.1 19 1)) 28 2 ((mI u 28 1 (u.1 19 1)).1 19 2)))) [(.aload_n 0, (0, 0, 0), 0, 0), (.aload_n 1, (0, 0, 0), 0, 0), (.getfield 21, (2, 1, 180), 0, 0), (.putfield 21, (2, 1, 180), 0, 0), (.aload_n 0, (0, 0, 0), 0, 0), (.aload_n 1, (0, 0, 0), 0, 0), (.getfield 25, (2, 2, 182), 0, 0), (.putfield 25, (2, 2, 182), 0, 0), (.aload_n 1, (0, 0, 0), 0, 0), (.getfield 9, (2, 3, 184), 0, 0), (.iconst 0, (0, 0, 0), 0, 0), (.aload_n 0, (0, 0, 0), 0, 0), (.getfield 9, (2, 3, 184), 0, 0), (.iconst 0, (0, 0, 0), 0, 0), (.aload_n 0, (0, 0, 0), 0, 0), (.getfield 9, (2, 3, 184), 0, 0), (.arraylength, (0, 0, 0), 0, 0)] (by decide +kernel) rfl ?_
  refine xm_acopy (pc := 31) (idx := 44) (p1 := 549) 8 8 (by decide +kernel) (by decide +kernel) rfl rfl (by decide) (by decide) (by decide) (Nat.le_of_ble_eq_true rfl) ?_
  show xGm md_X2_takeFrom_28_19 rsV _ 34 [(0, .ref 28), (1, .ref 19)] [] (xU (mCp (mI (mI u 28 1 (u.1 19 1)) 28 2 ((mI u 28 1 (u.1 19 1)).1 19 2)) 20 29 (0 : Int32) (0 : Int32) (8 : Int32)))
  refine xm_blk0 (pc' := 46) (lv' := [(0, .ref 28), (1, .ref 19)]) (st' := [.int (40 : Int32), .int (0 : Int32), .ref 30, .int (0 : Int32), .ref 21]) (u' := (xU (mCp (mI (mI u 28 1 (u.1 19 1)) 28 2 ((mI u 28 1 (u.1 19 1)).1 19 2)) 20 29 (0 : Int32) (0 : Int32) (8 : Int32)))) [(.aload_n 1, (0, 0, 0), 0, 0), (.getfield 15, (2, 4, 186), 0, 0), (.iconst 0, (0, 0, 0), 0, 0), (.aload_n 0, (0, 0, 0), 0, 0), (.getfield 15, (2, 4, 186), 0, 0), (.iconst 0, (0, 0, 0), 0, 0), (.bipush 40, (0, 0, 0), 40, 0)] (by decide +kernel) rfl ?_
  refine xm_acopy (pc := 46) (idx := 44) (p1 := 549) 40 40 (by decide +kernel) (by decide +kernel) rfl rfl (by decide) (by decide) (by decide) (Nat.le_of_ble_eq_true rfl) ?_
  show xGm md_X2_takeFrom_28_19 rsV _ 49 [(0, .ref 28), (1, .ref 19)] [] (xU (mCp (mCp (mI (mI u 28 1 (u.1 19 1)) 28 2 ((mI u 28 1 (u.1 19 1)).1 19 2)) 20 29 (0 : Int32) (0 : Int32) (8 : Int32)) 21 30 (0 : Int32) (0 : Int32) (40 : Int32)))
  refine xm_blk0 (pc' := 61) (lv' := [(0, .ref 28), (1, .ref 19)]) (st' := [.int (40 : Int32), .int (0 : Int32), .ref 31, .int (0 : Int32), .ref 22]) (u' := (xU (mCp (mCp (mI (mI u 28 1 (u.1 19 1)) 28 2 ((mI u 28 1 (u.1 19 1)).1 19 2)) 20 29 (0 : Int32) (0 : Int32) (8 : Int32)) 21 30 (0 : Int32) (0 : Int32) (40 : Int32)))) [(.aload_n 1, (0, 0, 0), 0, 0), (.getfield 18, (2, 5, 187), 0, 0), (.iconst 0, (0, 0, 0), 0, 0), (.aload_n 0, (0, 0, 0), 0, 0), (.getfield 18, (2, 5, 187), 0, 0), (.iconst 0, (0, 0, 0), 0, 0), (.bipush 40, (0, 0, 0), 40, 0)] (by decide +kernel) rfl ?_
  refine xm_acopy (pc := 61) (idx := 44) (p1 := 549) 40 40 (by decide +kernel) (by decide +kernel) rfl rfl (by decide) (by decide) (by decide) (Nat.le_of_ble_eq_true rfl) ?_
  show xGm md_X2_takeFrom_28_19 rsV _ 64 [(0, .ref 28), (1, .ref 19)] [] (xU (mCp (mCp (mCp (mI (mI u 28 1 (u.1 19 1)) 28 2 ((mI u 28 1 (u.1 19 1)).1 19 2)) 20 29 (0 : Int32) (0 : Int32) (8 : Int32)) 21 30 (0 : Int32) (0 : Int32) (40 : Int32)) 22 31 (0 : Int32) (0 : Int32) (40 : Int32)))
  exact xm_vret (pc := 64) (by decide +kernel) rfl rfl
theorem ev_X2_takeFrom_28_19 (u : xN) : ∀ r, f_X2_takeFrom_28_19 u = some r → xEm md_X2_takeFrom_28_19 yX2_takeFrom [.ref 28, .ref 19] (xU u) (none, xU r) := xm_met (res := rsV) (as := [.ref 28, .ref 19]) (go_X2_takeFrom_28_19 u) (by decide) rfl (Nat.le_of_ble_eq_true rfl)
/-! NeitherBare$Standing.takeFrom(LNeitherBare$Standing;)V (32, 19) -/
abbrev md_X2_takeFrom_32_19 : xMd := (cX2_takeFrom, RX2, 2, none, 1)
def f_X2_takeFrom_32_19 (u : xN) : Option xN := gdl [cpok (0 : Int32) (0 : Int32) (8 : Int32) 8 8] (gdl [cpok (0 : Int32) (0 : Int32) (40 : Int32) 40 40] (gdl [cpok (0 : Int32) (0 : Int32) (40 : Int32) 40 40] (some (mCp (mCp (mCp (mI (mI u 32 1 (u.1 19 1)) 32 2 ((mI u 32 1 (u.1 19 1)).1 19 2)) 20 33 (0 : Int32) (0 : Int32) (8 : Int32)) 21 34 (0 : Int32) (0 : Int32) (40 : Int32)) 22 35 (0 : Int32) (0 : Int32) (40 : Int32)))))
set_option maxRecDepth 20000 in
theorem go_X2_takeFrom_32_19 (u : xN) : xGm md_X2_takeFrom_32_19 rsV (f_X2_takeFrom_32_19 u) 0 [(0, .ref 32), (1, .ref 19)] [] (xU u) := by
  unfold f_X2_takeFrom_32_19
  refine xm_blk0 (pc' := 31) (lv' := [(0, .ref 32), (1, .ref 19)]) (st' := [.int (8 : Int32), .int (0 : Int32), .ref 33, .int (0 : Int32), .ref 20]) (u' := (xU (mI (mI u 32 1 (u.1 19 1)) 32 2 ((mI u 32 1 (u.1 19 1)).1 19 2)))) [(.aload_n 0, (0, 0, 0), 0, 0), (.aload_n 1, (0, 0, 0), 0, 0), (.getfield 21, (2, 1, 180), 0, 0), (.putfield 21, (2, 1, 180), 0, 0), (.aload_n 0, (0, 0, 0), 0, 0), (.aload_n 1, (0, 0, 0), 0, 0), (.getfield 25, (2, 2, 182), 0, 0), (.putfield 25, (2, 2, 182), 0, 0), (.aload_n 1, (0, 0, 0), 0, 0), (.getfield 9, (2, 3, 184), 0, 0), (.iconst 0, (0, 0, 0), 0, 0), (.aload_n 0, (0, 0, 0), 0, 0), (.getfield 9, (2, 3, 184), 0, 0), (.iconst 0, (0, 0, 0), 0, 0), (.aload_n 0, (0, 0, 0), 0, 0), (.getfield 9, (2, 3, 184), 0, 0), (.arraylength, (0, 0, 0), 0, 0)] (by decide +kernel) rfl ?_
  refine xm_acopy (pc := 31) (idx := 44) (p1 := 549) 8 8 (by decide +kernel) (by decide +kernel) rfl rfl (by decide) (by decide) (by decide) (Nat.le_of_ble_eq_true rfl) ?_
  show xGm md_X2_takeFrom_32_19 rsV _ 34 [(0, .ref 32), (1, .ref 19)] [] (xU (mCp (mI (mI u 32 1 (u.1 19 1)) 32 2 ((mI u 32 1 (u.1 19 1)).1 19 2)) 20 33 (0 : Int32) (0 : Int32) (8 : Int32)))
  refine xm_blk0 (pc' := 46) (lv' := [(0, .ref 32), (1, .ref 19)]) (st' := [.int (40 : Int32), .int (0 : Int32), .ref 34, .int (0 : Int32), .ref 21]) (u' := (xU (mCp (mI (mI u 32 1 (u.1 19 1)) 32 2 ((mI u 32 1 (u.1 19 1)).1 19 2)) 20 33 (0 : Int32) (0 : Int32) (8 : Int32)))) [(.aload_n 1, (0, 0, 0), 0, 0), (.getfield 15, (2, 4, 186), 0, 0), (.iconst 0, (0, 0, 0), 0, 0), (.aload_n 0, (0, 0, 0), 0, 0), (.getfield 15, (2, 4, 186), 0, 0), (.iconst 0, (0, 0, 0), 0, 0), (.bipush 40, (0, 0, 0), 40, 0)] (by decide +kernel) rfl ?_
  refine xm_acopy (pc := 46) (idx := 44) (p1 := 549) 40 40 (by decide +kernel) (by decide +kernel) rfl rfl (by decide) (by decide) (by decide) (Nat.le_of_ble_eq_true rfl) ?_
  show xGm md_X2_takeFrom_32_19 rsV _ 49 [(0, .ref 32), (1, .ref 19)] [] (xU (mCp (mCp (mI (mI u 32 1 (u.1 19 1)) 32 2 ((mI u 32 1 (u.1 19 1)).1 19 2)) 20 33 (0 : Int32) (0 : Int32) (8 : Int32)) 21 34 (0 : Int32) (0 : Int32) (40 : Int32)))
  refine xm_blk0 (pc' := 61) (lv' := [(0, .ref 32), (1, .ref 19)]) (st' := [.int (40 : Int32), .int (0 : Int32), .ref 35, .int (0 : Int32), .ref 22]) (u' := (xU (mCp (mCp (mI (mI u 32 1 (u.1 19 1)) 32 2 ((mI u 32 1 (u.1 19 1)).1 19 2)) 20 33 (0 : Int32) (0 : Int32) (8 : Int32)) 21 34 (0 : Int32) (0 : Int32) (40 : Int32)))) [(.aload_n 1, (0, 0, 0), 0, 0), (.getfield 18, (2, 5, 187), 0, 0), (.iconst 0, (0, 0, 0), 0, 0), (.aload_n 0, (0, 0, 0), 0, 0), (.getfield 18, (2, 5, 187), 0, 0), (.iconst 0, (0, 0, 0), 0, 0), (.bipush 40, (0, 0, 0), 40, 0)] (by decide +kernel) rfl ?_
  refine xm_acopy (pc := 61) (idx := 44) (p1 := 549) 40 40 (by decide +kernel) (by decide +kernel) rfl rfl (by decide) (by decide) (by decide) (Nat.le_of_ble_eq_true rfl) ?_
  show xGm md_X2_takeFrom_32_19 rsV _ 64 [(0, .ref 32), (1, .ref 19)] [] (xU (mCp (mCp (mCp (mI (mI u 32 1 (u.1 19 1)) 32 2 ((mI u 32 1 (u.1 19 1)).1 19 2)) 20 33 (0 : Int32) (0 : Int32) (8 : Int32)) 21 34 (0 : Int32) (0 : Int32) (40 : Int32)) 22 35 (0 : Int32) (0 : Int32) (40 : Int32)))
  exact xm_vret (pc := 64) (by decide +kernel) rfl rfl
theorem ev_X2_takeFrom_32_19 (u : xN) : ∀ r, f_X2_takeFrom_32_19 u = some r → xEm md_X2_takeFrom_32_19 yX2_takeFrom [.ref 32, .ref 19] (xU u) (none, xU r) := xm_met (res := rsV) (as := [.ref 32, .ref 19]) (go_X2_takeFrom_32_19 u) (by decide) rfl (Nat.le_of_ble_eq_true rfl)
theorem mw_X3_keep : xMv yX3_keep cX3_keep 2 (some .int) 1 := xMv_of (p1 := 541) (p2 := 539) (p3 := 92) (p4 := 540) (by decide +kernel)
/-! NeitherBare.keep(I)I (0, None) -/
abbrev md_X3_keep : xMd := (cX3_keep, RX3, 2, some .int, 2)
def f_X3_keep (a1 : Int32) (u : xN) : Option (Int32 × xN) := Option.bind (f_X3_isKeepingPlace a1) (fun r1 => if r1 = (0 : Int32) then some ((-1 : Int32), u) else if (u.1 7 0) = (0 : Int32) then some ((-4 : Int32), u) else if a1 = (0 : Int32) then (Option.bind (f_X2_takeFrom_24_19 u) (fun r32 => if a1 = (0 : Int32) then (gdl [isb (1 : Int32)] (some (((mI r32 24 0 (1 : Int32)).1 19 2), mI r32 24 0 (1 : Int32)))) else if a1 = (1 : Int32) then (gdl [isb (1 : Int32)] (some (((mI r32 28 0 (1 : Int32)).1 19 2), mI r32 28 0 (1 : Int32)))) else if a1 = (2 : Int32) then (gdl [isb (1 : Int32)] (some (((mI r32 32 0 (1 : Int32)).1 19 2), mI r32 32 0 (1 : Int32)))) else none)) else if a1 = (1 : Int32) then (Option.bind (f_X2_takeFrom_28_19 u) (fun r32 => if a1 = (0 : Int32) then (gdl [isb (1 : Int32)] (some (((mI r32 24 0 (1 : Int32)).1 19 2), mI r32 24 0 (1 : Int32)))) else if a1 = (1 : Int32) then (gdl [isb (1 : Int32)] (some (((mI r32 28 0 (1 : Int32)).1 19 2), mI r32 28 0 (1 : Int32)))) else if a1 = (2 : Int32) then (gdl [isb (1 : Int32)] (some (((mI r32 32 0 (1 : Int32)).1 19 2), mI r32 32 0 (1 : Int32)))) else none)) else if a1 = (2 : Int32) then (Option.bind (f_X2_takeFrom_32_19 u) (fun r32 => if a1 = (0 : Int32) then (gdl [isb (1 : Int32)] (some (((mI r32 24 0 (1 : Int32)).1 19 2), mI r32 24 0 (1 : Int32)))) else if a1 = (1 : Int32) then (gdl [isb (1 : Int32)] (some (((mI r32 28 0 (1 : Int32)).1 19 2), mI r32 28 0 (1 : Int32)))) else if a1 = (2 : Int32) then (gdl [isb (1 : Int32)] (some (((mI r32 32 0 (1 : Int32)).1 19 2), mI r32 32 0 (1 : Int32)))) else none)) else none)
set_option maxRecDepth 20000 in
theorem go_X3_keep (a1 : Int32) (u : xN) : xGm md_X3_keep rsM (f_X3_keep a1 u) 0 [(0, .ref 0), (1, .int a1)] [] (xU u) := by
  unfold f_X3_keep
  refine xm_blk0 (pc' := 1) (lv' := [(0, .ref 0), (1, .int a1)]) (st' := [.int a1]) (u' := (xU u)) [(.iload_n 1, (0, 0, 0), 0, 0)] (by decide +kernel) rfl ?_
  refine xm_Si (pc := 1) (mz := md_X3_isKeepingPlace) (idx := 204) (p1 := 542) (as := [.int a1]) (st := []) (ev_X3_isKeepingPlace a1 u) mw_X3_isKeepingPlace (by decide +kernel) (by decide +kernel) (by decide) rfl (Nat.le_of_ble_eq_true rfl) (fun r1 => ?_)
  refine xm_if_ne (pc := 4) (off := 5) (tgt := 9) (by decide +kernel) (by decide) ?_ ?_
  · refine xm_blk0 (pc' := 16) (lv' := [(0, .ref 0), (1, .int a1)]) (st' := [.int (u.1 7 0)]) (u' := (xU u)) [(.aload_n 0, (0, 0, 0), 0, 0), (.getfield 24, (3, 2, 208), 0, 0), (.getfield 119, (0, 0, 143), 0, 0)] (by decide +kernel) rfl ?_
    refine xm_if_ne (pc := 16) (off := 6) (tgt := 22) (by decide +kernel) (by decide) ?_ ?_
    · refine xm_blk0 (pc' := 27) (lv' := [(0, .ref 0), (1, .int a1)]) (st' := [.int a1, .ref 23]) (u' := (xU u)) [(.aload_n 0, (0, 0, 0), 0, 0), (.getfield 38, (3, 5, 211), 0, 0), (.iload_n 1, (0, 0, 0), 0, 0)] (by decide +kernel) rfl ?_
      refine xm_aald (pc := 27) (by decide +kernel) ?_ ?_ ?_
      · refine xm_blk0 (pc' := 32) (lv' := [(0, .ref 0), (1, .int a1)]) (st' := [.ref 19, .ref 24]) (u' := (xU u)) [(.aload_n 0, (0, 0, 0), 0, 0), (.getfield 34, (3, 4, 210), 0, 0)] (by decide +kernel) rfl ?_
        refine xm_Vv (pc := 32) (mz := md_X2_takeFrom_24_19) (idx := 207) (p1 := 545) (a := 24) (as := [.ref 19]) (st := []) (ev_X2_takeFrom_24_19 u) mw_X2_takeFrom (by decide +kernel) (by decide +kernel) (by decide) rfl rfl (by decide) rfl (Nat.le_of_ble_eq_true rfl) (fun r32 => ?_)
        refine xm_blk0 (pc' := 40) (lv' := [(0, .ref 0), (1, .int a1)]) (st' := [.int a1, .ref 23]) (u' := (xU r32)) [(.aload_n 0, (0, 0, 0), 0, 0), (.getfield 38, (3, 5, 211), 0, 0), (.iload_n 1, (0, 0, 0), 0, 0)] (by decide +kernel) rfl ?_
        refine xm_aald (pc := 40) (by decide +kernel) ?_ ?_ ?_
        · refine xm_blk (bs := [isb (1 : Int32)]) (pc' := 52) (lv' := [(0, .ref 0), (1, .int a1)]) (st' := [.int ((mI r32 24 0 (1 : Int32)).1 19 2)]) (u' := (xU (mI r32 24 0 (1 : Int32)))) [(.iconst 1, (0, 0, 0), 1, 0), (.putfield 116, (2, 0, 179), 0, 0), (.aload_n 0, (0, 0, 0), 0, 0), (.getfield 34, (3, 4, 210), 0, 0), (.getfield 176, (2, 2, 183), 0, 0)] (by decide +kernel) rfl ?_
          exact xm_iret (pc := 52) (by decide +kernel) rfl rfl
        · refine xm_blk (bs := [isb (1 : Int32)]) (pc' := 52) (lv' := [(0, .ref 0), (1, .int a1)]) (st' := [.int ((mI r32 28 0 (1 : Int32)).1 19 2)]) (u' := (xU (mI r32 28 0 (1 : Int32)))) [(.iconst 1, (0, 0, 0), 1, 0), (.putfield 116, (2, 0, 179), 0, 0), (.aload_n 0, (0, 0, 0), 0, 0), (.getfield 34, (3, 4, 210), 0, 0), (.getfield 176, (2, 2, 183), 0, 0)] (by decide +kernel) rfl ?_
          exact xm_iret (pc := 52) (by decide +kernel) rfl rfl
        · refine xm_blk (bs := [isb (1 : Int32)]) (pc' := 52) (lv' := [(0, .ref 0), (1, .int a1)]) (st' := [.int ((mI r32 32 0 (1 : Int32)).1 19 2)]) (u' := (xU (mI r32 32 0 (1 : Int32)))) [(.iconst 1, (0, 0, 0), 1, 0), (.putfield 116, (2, 0, 179), 0, 0), (.aload_n 0, (0, 0, 0), 0, 0), (.getfield 34, (3, 4, 210), 0, 0), (.getfield 176, (2, 2, 183), 0, 0)] (by decide +kernel) rfl ?_
          exact xm_iret (pc := 52) (by decide +kernel) rfl rfl
      · refine xm_blk0 (pc' := 32) (lv' := [(0, .ref 0), (1, .int a1)]) (st' := [.ref 19, .ref 28]) (u' := (xU u)) [(.aload_n 0, (0, 0, 0), 0, 0), (.getfield 34, (3, 4, 210), 0, 0)] (by decide +kernel) rfl ?_
        refine xm_Vv (pc := 32) (mz := md_X2_takeFrom_28_19) (idx := 207) (p1 := 545) (a := 28) (as := [.ref 19]) (st := []) (ev_X2_takeFrom_28_19 u) mw_X2_takeFrom (by decide +kernel) (by decide +kernel) (by decide) rfl rfl (by decide) rfl (Nat.le_of_ble_eq_true rfl) (fun r32 => ?_)
        refine xm_blk0 (pc' := 40) (lv' := [(0, .ref 0), (1, .int a1)]) (st' := [.int a1, .ref 23]) (u' := (xU r32)) [(.aload_n 0, (0, 0, 0), 0, 0), (.getfield 38, (3, 5, 211), 0, 0), (.iload_n 1, (0, 0, 0), 0, 0)] (by decide +kernel) rfl ?_
        refine xm_aald (pc := 40) (by decide +kernel) ?_ ?_ ?_
        · refine xm_blk (bs := [isb (1 : Int32)]) (pc' := 52) (lv' := [(0, .ref 0), (1, .int a1)]) (st' := [.int ((mI r32 24 0 (1 : Int32)).1 19 2)]) (u' := (xU (mI r32 24 0 (1 : Int32)))) [(.iconst 1, (0, 0, 0), 1, 0), (.putfield 116, (2, 0, 179), 0, 0), (.aload_n 0, (0, 0, 0), 0, 0), (.getfield 34, (3, 4, 210), 0, 0), (.getfield 176, (2, 2, 183), 0, 0)] (by decide +kernel) rfl ?_
          exact xm_iret (pc := 52) (by decide +kernel) rfl rfl
        · refine xm_blk (bs := [isb (1 : Int32)]) (pc' := 52) (lv' := [(0, .ref 0), (1, .int a1)]) (st' := [.int ((mI r32 28 0 (1 : Int32)).1 19 2)]) (u' := (xU (mI r32 28 0 (1 : Int32)))) [(.iconst 1, (0, 0, 0), 1, 0), (.putfield 116, (2, 0, 179), 0, 0), (.aload_n 0, (0, 0, 0), 0, 0), (.getfield 34, (3, 4, 210), 0, 0), (.getfield 176, (2, 2, 183), 0, 0)] (by decide +kernel) rfl ?_
          exact xm_iret (pc := 52) (by decide +kernel) rfl rfl
        · refine xm_blk (bs := [isb (1 : Int32)]) (pc' := 52) (lv' := [(0, .ref 0), (1, .int a1)]) (st' := [.int ((mI r32 32 0 (1 : Int32)).1 19 2)]) (u' := (xU (mI r32 32 0 (1 : Int32)))) [(.iconst 1, (0, 0, 0), 1, 0), (.putfield 116, (2, 0, 179), 0, 0), (.aload_n 0, (0, 0, 0), 0, 0), (.getfield 34, (3, 4, 210), 0, 0), (.getfield 176, (2, 2, 183), 0, 0)] (by decide +kernel) rfl ?_
          exact xm_iret (pc := 52) (by decide +kernel) rfl rfl
      · refine xm_blk0 (pc' := 32) (lv' := [(0, .ref 0), (1, .int a1)]) (st' := [.ref 19, .ref 32]) (u' := (xU u)) [(.aload_n 0, (0, 0, 0), 0, 0), (.getfield 34, (3, 4, 210), 0, 0)] (by decide +kernel) rfl ?_
        refine xm_Vv (pc := 32) (mz := md_X2_takeFrom_32_19) (idx := 207) (p1 := 545) (a := 32) (as := [.ref 19]) (st := []) (ev_X2_takeFrom_32_19 u) mw_X2_takeFrom (by decide +kernel) (by decide +kernel) (by decide) rfl rfl (by decide) rfl (Nat.le_of_ble_eq_true rfl) (fun r32 => ?_)
        refine xm_blk0 (pc' := 40) (lv' := [(0, .ref 0), (1, .int a1)]) (st' := [.int a1, .ref 23]) (u' := (xU r32)) [(.aload_n 0, (0, 0, 0), 0, 0), (.getfield 38, (3, 5, 211), 0, 0), (.iload_n 1, (0, 0, 0), 0, 0)] (by decide +kernel) rfl ?_
        refine xm_aald (pc := 40) (by decide +kernel) ?_ ?_ ?_
        · refine xm_blk (bs := [isb (1 : Int32)]) (pc' := 52) (lv' := [(0, .ref 0), (1, .int a1)]) (st' := [.int ((mI r32 24 0 (1 : Int32)).1 19 2)]) (u' := (xU (mI r32 24 0 (1 : Int32)))) [(.iconst 1, (0, 0, 0), 1, 0), (.putfield 116, (2, 0, 179), 0, 0), (.aload_n 0, (0, 0, 0), 0, 0), (.getfield 34, (3, 4, 210), 0, 0), (.getfield 176, (2, 2, 183), 0, 0)] (by decide +kernel) rfl ?_
          exact xm_iret (pc := 52) (by decide +kernel) rfl rfl
        · refine xm_blk (bs := [isb (1 : Int32)]) (pc' := 52) (lv' := [(0, .ref 0), (1, .int a1)]) (st' := [.int ((mI r32 28 0 (1 : Int32)).1 19 2)]) (u' := (xU (mI r32 28 0 (1 : Int32)))) [(.iconst 1, (0, 0, 0), 1, 0), (.putfield 116, (2, 0, 179), 0, 0), (.aload_n 0, (0, 0, 0), 0, 0), (.getfield 34, (3, 4, 210), 0, 0), (.getfield 176, (2, 2, 183), 0, 0)] (by decide +kernel) rfl ?_
          exact xm_iret (pc := 52) (by decide +kernel) rfl rfl
        · refine xm_blk (bs := [isb (1 : Int32)]) (pc' := 52) (lv' := [(0, .ref 0), (1, .int a1)]) (st' := [.int ((mI r32 32 0 (1 : Int32)).1 19 2)]) (u' := (xU (mI r32 32 0 (1 : Int32)))) [(.iconst 1, (0, 0, 0), 1, 0), (.putfield 116, (2, 0, 179), 0, 0), (.aload_n 0, (0, 0, 0), 0, 0), (.getfield 34, (3, 4, 210), 0, 0), (.getfield 176, (2, 2, 183), 0, 0)] (by decide +kernel) rfl ?_
          exact xm_iret (pc := 52) (by decide +kernel) rfl rfl
    · refine xm_blk0 (pc' := 21) (lv' := [(0, .ref 0), (1, .int a1)]) (st' := [.int (-4 : Int32)]) (u' := (xU u)) [(.bipush (-4), (0, 0, 0), -4, 0)] (by decide +kernel) rfl ?_
      exact xm_iret (pc := 21) (by decide +kernel) rfl rfl
  · refine xm_blk0 (pc' := 8) (lv' := [(0, .ref 0), (1, .int a1)]) (st' := [.int (-1 : Int32)]) (u' := (xU u)) [(.iconst (-1), (0, 0, 0), -1, 0)] (by decide +kernel) rfl ?_
    exact xm_iret (pc := 8) (by decide +kernel) rfl rfl
theorem ev_X3_keep (a1 : Int32) (u : xN) : ∀ r, f_X3_keep a1 u = some r → xEm md_X3_keep yX3_keep [.ref 0, .int a1] (xU u) (some (.int r.1), xU r.2) := xm_met (res := rsM) (as := [.ref 0, .int a1]) (go_X3_keep a1 u) (by decide) rfl (Nat.le_of_ble_eq_true rfl)
