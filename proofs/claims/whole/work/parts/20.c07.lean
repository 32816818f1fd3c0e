theorem mw_X3_refusedJudgements : xMv yX3_refusedJudgements cX3_refusedJudgements 5 (some .int) 1 := xMv_of (p1 := 729) (p2 := 728) (p3 := 92) (p4 := 33) (by decide +kernel)
/-! NeitherBare.refusedJudgements(I)I (0, None) -/
abbrev md_X3_refusedJudgements : xMd := (cX3_refusedJudgements, RX3, 5, some .int, 3)
def f_X3_refusedJudgements_L90 (N : Nat) (u : xN) : Option (Int32 × xN) := Option.bind (f_X3_refuse (3 : Int32) u) (fun r92 => some (r92.1, r92.2))
set_option maxRecDepth 20000 in
theorem go_X3_refusedJudgements_L90 (N : Nat) (u : xN) : xGm md_X3_refusedJudgements rsM (f_X3_refusedJudgements_L90 N u) 90 [(0, .ref 0)] [] (xU u) := by
  unfold f_X3_refusedJudgements_L90
  refine xm_blk0 (pc' := 92) (lv' := [(0, .ref 0)]) (st' := [.int (3 : Int32), .ref 0]) (u' := (xU u)) [(.aload_n 0, (0, 0, 0), 0, 0), (.iconst 3, (0, 0, 0), 3, 0)] (by decide +kernel) rfl ?_
  refine xm_Vm (pc := 92) (mz := md_X3_refuse) (idx := 89) (p1 := 258) (a := 0) (as := [.int (3 : Int32)]) (st := []) (ev_X3_refuse (3 : Int32) u) mw_X3_refuse (by decide +kernel) (by decide +kernel) (by decide) rfl rfl (by decide) rfl (Nat.le_of_ble_eq_true rfl) (fun r92 => ?_)
  exact xm_iret (pc := 95) (by decide +kernel) rfl rfl
def f_X3_refusedJudgements_L40b (N : Nat) (rec40 : Int32 → Int32 → Int32 → xN → Option (Int32 × xN)) (v1 : Int32) (v3 : Int32) (v4 : Int32) (u : xN) : Option (Int32 × xN) := gdl [nzi (2 : Int32)] (if (v3 / (2 : Int32)) ≤ v4 then some ((0 : Int32), u) else Option.bind (f_X1_cellOf_1 v1 ((2 : Int32) * v4) u) (fun r61 => Option.bind (f_X0_isWay_7 r61 u) (fun r64 => if r64 = (0 : Int32) then f_X3_refusedJudgements_L90 N u else Option.bind (f_X1_cellOf_1 v1 (((2 : Int32) * v4) + (1 : Int32)) u) (fun r81 => Option.bind (f_X3_isFlag r81) (fun r84 => if r84 = (0 : Int32) then f_X3_refusedJudgements_L90 N u else rec40 v1 v3 (v4 + (1 : Int32)) u)))))
set_option maxRecDepth 20000 in
theorem go_X3_refusedJudgements_L40b (N : Nat) (rec40 : Int32 → Int32 → Int32 → xN → Option (Int32 × xN)) (h40 : ∀ (v1 : Int32) (v3 : Int32) (v4 : Int32) (u : xN), xGm md_X3_refusedJudgements rsM (rec40 v1 v3 v4 u) 40 [(0, .ref 0), (1, .int v1), (3, .int v3), (4, .int v4)] [] (xU u)) (v1 : Int32) (v3 : Int32) (v4 : Int32) (u : xN) : xGm md_X3_refusedJudgements rsM (f_X3_refusedJudgements_L40b N rec40 v1 v3 v4 u) 40 [(0, .ref 0), (1, .int v1), (3, .int v3), (4, .int v4)] [] (xU u) := by
  unfold f_X3_refusedJudgements_L40b
  refine xm_blk (bs := [nzi (2 : Int32)]) (pc' := 45) (lv' := [(0, .ref 0), (1, .int v1), (3, .int v3), (4, .int v4)]) (st' := [.int (v3 / (2 : Int32)), .int v4]) (u' := (xU u)) [(.iload 4, (0, 0, 0), 0, 0), (.iload_n 3, (0, 0, 0), 0, 0), (.iconst 2, (0, 0, 0), 2, 0), (.idiv, (0, 0, 0), 0, 0)] (by decide +kernel) rfl ?_
  refine xm_icmp_ge (pc := 45) (off := 57) (tgt := 102) (by decide +kernel) (by decide) ?_ ?_
  · refine xm_blk0 (pc' := 103) (lv' := [(0, .ref 0), (1, .int v1), (3, .int v3), (4, .int v4)]) (st' := [.int (0 : Int32)]) (u' := (xU u)) [(.iconst 0, (0, 0, 0), 0, 0)] (by decide +kernel) rfl ?_
    exact xm_iret (pc := 103) (by decide +kernel) rfl rfl
  · refine xm_blk0 (pc' := 61) (lv' := [(0, .ref 0), (1, .int v1), (3, .int v3), (4, .int v4)]) (st' := [.int ((2 : Int32) * v4), .int v1, .ref 1, .ref 7]) (u' := (xU u)) [(.aload_n 0, (0, 0, 0), 0, 0), (.getfield 24, (3, 2, 208), 0, 0), (.aload_n 0, (0, 0, 0), 0, 0), (.getfield 14, (3, 0, 206), 0, 0), (.iload_n 1, (0, 0, 0), 0, 0), (.iconst 2, (0, 0, 0), 2, 0), (.iload 4, (0, 0, 0), 0, 0), (.imul, (0, 0, 0), 0, 0)] (by decide +kernel) rfl ?_
    refine xm_Vi (pc := 61) (mz := md_X1_cellOf_1) (idx := 67) (p1 := 292) (a := 1) (as := [.int v1, .int ((2 : Int32) * v4)]) (st := [.ref 7]) (ev_X1_cellOf_1 v1 ((2 : Int32) * v4) u) mw_X1_cellOf (by decide +kernel) (by decide +kernel) (by decide) rfl rfl (by decide) rfl (Nat.le_of_ble_eq_true rfl) (fun r61 => ?_)
    refine xm_Vi (pc := 64) (mz := md_X0_isWay_7) (idx := 211) (p1 := 558) (a := 7) (as := [.int r61]) (st := []) (ev_X0_isWay_7 r61 u) mw_X0_isWay (by decide +kernel) (by decide +kernel) (by decide) rfl rfl (by decide) rfl (Nat.le_of_ble_eq_true rfl) (fun r64 => ?_)
    refine xm_if_eq (pc := 67) (off := 23) (tgt := 90) (by decide +kernel) (by decide) ?_ ?_
    · refine xm_wk [0] (lv' := [(0, .ref 0)]) rfl ?_
      exact go_X3_refusedJudgements_L90 N u
    · refine xm_blk0 (pc' := 81) (lv' := [(0, .ref 0), (1, .int v1), (3, .int v3), (4, .int v4)]) (st' := [.int (((2 : Int32) * v4) + (1 : Int32)), .int v1, .ref 1]) (u' := (xU u)) [(.aload_n 0, (0, 0, 0), 0, 0), (.getfield 14, (3, 0, 206), 0, 0), (.iload_n 1, (0, 0, 0), 0, 0), (.iconst 2, (0, 0, 0), 2, 0), (.iload 4, (0, 0, 0), 0, 0), (.imul, (0, 0, 0), 0, 0), (.iconst 1, (0, 0, 0), 1, 0), (.iadd, (0, 0, 0), 0, 0)] (by decide +kernel) rfl ?_
      refine xm_Vi (pc := 81) (mz := md_X1_cellOf_1) (idx := 67) (p1 := 292) (a := 1) (as := [.int v1, .int (((2 : Int32) * v4) + (1 : Int32))]) (st := []) (ev_X1_cellOf_1 v1 (((2 : Int32) * v4) + (1 : Int32)) u) mw_X1_cellOf (by decide +kernel) (by decide +kernel) (by decide) rfl rfl (by decide) rfl (Nat.le_of_ble_eq_true rfl) (fun r81 => ?_)
      refine xm_Si (pc := 84) (mz := md_X3_isFlag) (idx := 167) (p1 := 489) (as := [.int r81]) (st := []) (ev_X3_isFlag r81 u) mw_X3_isFlag (by decide +kernel) (by decide +kernel) (by decide) rfl (Nat.le_of_ble_eq_true rfl) (fun r84 => ?_)
      refine xm_if_ne (pc := 87) (off := 9) (tgt := 96) (by decide +kernel) (by decide) ?_ ?_
      · refine xm_blk0 (pc' := 99) (lv' := [(0, .ref 0), (1, .int v1), (3, .int v3), (4, .int (v4 + (1 : Int32)))]) (st' := []) (u' := (xU u)) [(.iinc 4 1, (0, 0, 0), 1, 0)] (by decide +kernel) rfl ?_
        refine xm_goto (pc := 99) (off := -59) (tgt := 40) (by decide +kernel) (by decide) ?_
        exact h40 v1 v3 (v4 + (1 : Int32)) u
      · refine xm_wk [0] (lv' := [(0, .ref 0)]) rfl ?_
        exact go_X3_refusedJudgements_L90 N u
def f_X3_refusedJudgements_L40 (N : Nat) : Nat → Int32 → Int32 → Int32 → xN → Option (Int32 × xN)
  | 0 => fun _ _ _ _ => none
  | n + 1 => fun v1 v3 v4 u => f_X3_refusedJudgements_L40b N (f_X3_refusedJudgements_L40 N n) v1 v3 v4 u
theorem go_X3_refusedJudgements_L40 (N : Nat) : ∀ (n : Nat) (v1 : Int32) (v3 : Int32) (v4 : Int32) (u : xN), xGm md_X3_refusedJudgements rsM (f_X3_refusedJudgements_L40 N n v1 v3 v4 u) 40 [(0, .ref 0), (1, .int v1), (3, .int v3), (4, .int v4)] [] (xU u) := by
  intro n
  induction n with
  | zero => intro v1 v3 v4 u; exact xm_none
  | succ n ih => intro v1 v3 v4 u; exact go_X3_refusedJudgements_L40b N _ ih v1 v3 v4 u
def f_X3_refusedJudgements (N : Nat) (a1 : Int32) (u : xN) : Option (Int32 × xN) := Option.bind (f_X3_refusedPlace_1 a1 u) (fun r6 => if r6.1 = (0 : Int32) then Option.bind (f_X1_sizeOf_1 a1 r6.2) (fun r21 => gdl [nzi (2 : Int32)] (if (r21 - r21 / (2 : Int32) * (2 : Int32)) = (0 : Int32) then f_X3_refusedJudgements_L40 N N a1 r21 (0 : Int32) r6.2 else Option.bind (f_X3_refuse (5 : Int32) r6.2) (fun r33 => some (r33.1, r33.2)))) else some (r6.1, r6.2))
set_option maxRecDepth 20000 in
theorem go_X3_refusedJudgements (N : Nat) (a1 : Int32) (u : xN) : xGm md_X3_refusedJudgements rsM (f_X3_refusedJudgements N a1 u) 0 [(0, .ref 0), (1, .int a1)] [] (xU u) := by
  unfold f_X3_refusedJudgements
  refine xm_blk0 (pc' := 6) (lv' := [(0, .ref 0), (1, .int a1)]) (st' := [.int a1, .ref 1, .ref 0]) (u' := (xU u)) [(.aload_n 0, (0, 0, 0), 0, 0), (.aload_n 0, (0, 0, 0), 0, 0), (.getfield 14, (3, 0, 206), 0, 0), (.iload_n 1, (0, 0, 0), 0, 0)] (by decide +kernel) rfl ?_
  refine xm_Vm (pc := 6) (mz := md_X3_refusedPlace_1) (idx := 78) (p1 := 280) (a := 0) (as := [.ref 1, .int a1]) (st := []) (ev_X3_refusedPlace_1 a1 u) mw_X3_refusedPlace (by decide +kernel) (by decide +kernel) (by decide) rfl rfl (by decide) rfl (Nat.le_of_ble_eq_true rfl) (fun r6 => ?_)
  refine xm_blk0 (pc' := 11) (lv' := [(0, .ref 0), (1, .int a1), (2, .int r6.1)]) (st' := [.int r6.1]) (u' := (xU r6.2)) [(.istore_n 2, (0, 0, 0), 0, 0), (.iload_n 2, (0, 0, 0), 0, 0)] (by decide +kernel) rfl ?_
  refine xm_if_eq (pc := 11) (off := 5) (tgt := 16) (by decide +kernel) (by decide) ?_ ?_
  · refine xm_blk0 (pc' := 21) (lv' := [(0, .ref 0), (1, .int a1), (2, .int r6.1)]) (st' := [.int a1, .ref 1]) (u' := (xU r6.2)) [(.aload_n 0, (0, 0, 0), 0, 0), (.getfield 14, (3, 0, 206), 0, 0), (.iload_n 1, (0, 0, 0), 0, 0)] (by decide +kernel) rfl ?_
    refine xm_Vi (pc := 21) (mz := md_X1_sizeOf_1) (idx := 104) (p1 := 327) (a := 1) (as := [.int a1]) (st := []) (ev_X1_sizeOf_1 a1 r6.2) mw_X1_sizeOf (by decide +kernel) (by decide +kernel) (by decide) rfl rfl (by decide) rfl (Nat.le_of_ble_eq_true rfl) (fun r21 => ?_)
    refine xm_blk (bs := [nzi (2 : Int32)]) (pc' := 28) (lv' := [(0, .ref 0), (1, .int a1), (2, .int r6.1), (3, .int r21)]) (st' := [.int (r21 - r21 / (2 : Int32) * (2 : Int32))]) (u' := (xU r6.2)) [(.istore_n 3, (0, 0, 0), 0, 0), (.iload_n 3, (0, 0, 0), 0, 0), (.iconst 2, (0, 0, 0), 2, 0), (.irem, (0, 0, 0), 0, 0)] (by decide +kernel) rfl ?_
    refine xm_if_eq (pc := 28) (off := 9) (tgt := 37) (by decide +kernel) (by decide) ?_ ?_
    · refine xm_blk0 (pc' := 40) (lv' := [(0, .ref 0), (1, .int a1), (2, .int r6.1), (3, .int r21), (4, .int (0 : Int32))]) (st' := []) (u' := (xU r6.2)) [(.iconst 0, (0, 0, 0), 0, 0), (.istore 4, (0, 0, 0), 0, 0)] (by decide +kernel) rfl ?_
      refine xm_wk [0, 1, 3, 4] (lv' := [(0, .ref 0), (1, .int a1), (3, .int r21), (4, .int (0 : Int32))]) rfl ?_
      exact go_X3_refusedJudgements_L40 N N a1 r21 (0 : Int32) r6.2
    · refine xm_blk0 (pc' := 33) (lv' := [(0, .ref 0), (1, .int a1), (2, .int r6.1), (3, .int r21)]) (st' := [.int (5 : Int32), .ref 0]) (u' := (xU r6.2)) [(.aload_n 0, (0, 0, 0), 0, 0), (.iconst 5, (0, 0, 0), 5, 0)] (by decide +kernel) rfl ?_
      refine xm_Vm (pc := 33) (mz := md_X3_refuse) (idx := 89) (p1 := 258) (a := 0) (as := [.int (5 : Int32)]) (st := []) (ev_X3_refuse (5 : Int32) r6.2) mw_X3_refuse (by decide +kernel) (by decide +kernel) (by decide) rfl rfl (by decide) rfl (Nat.le_of_ble_eq_true rfl) (fun r33 => ?_)
      exact xm_iret (pc := 36) (by decide +kernel) rfl rfl
  · refine xm_blk0 (pc' := 15) (lv' := [(0, .ref 0), (1, .int a1), (2, .int r6.1)]) (st' := [.int r6.1]) (u' := (xU r6.2)) [(.iload_n 2, (0, 0, 0), 0, 0)] (by decide +kernel) rfl ?_
    exact xm_iret (pc := 15) (by decide +kernel) rfl rfl
theorem ev_X3_refusedJudgements (N : Nat) (a1 : Int32) (u : xN) : ∀ r, f_X3_refusedJudgements N a1 u = some r → xEm md_X3_refusedJudgements yX3_refusedJudgements [.ref 0, .int a1] (xU u) (some (.int r.1), xU r.2) := xm_met (res := rsM) (as := [.ref 0, .int a1]) (go_X3_refusedJudgements N a1 u) (by decide) rfl (Nat.le_of_ble_eq_true rfl)
theorem mw_X3_isJudgedByTrial : xMv yX3_isJudgedByTrial cX3_isJudgedByTrial 5 (some .boolean) 2 := xMv_of (p1 := 733) (p2 := 732) (p3 := 92) (p4 := 34) (by decide +kernel)
/-! NeitherBare.isJudgedByTrial(II)Z (0, None, None) -/
abbrev md_X3_isJudgedByTrial : xMd := (cX3_isJudgedByTrial, RX3, 5, some .boolean, 5)
def f_X3_isJudgedByTrial_L74 (N : Nat) (u : xN) (rec2 : Int32 → Int32 → Int32 → Option Int32) (v1 : Int32) (v2 : Int32) (v3 : Int32) (t0 : Int32) (t1 : Int32) : Option Int32 := if t1 = t0 then rec2 v1 v2 (v3 + (1 : Int32)) else some (0 : Int32)
set_option maxRecDepth 20000 in
theorem go_X3_isJudgedByTrial_L74 (N : Nat) (u : xN) (rec2 : Int32 → Int32 → Int32 → Option Int32) (h2 : ∀ (v1 : Int32) (v2 : Int32) (v3 : Int32), xGm md_X3_isJudgedByTrial (rsI (xU u)) (rec2 v1 v2 v3) 2 [(0, .ref 0), (1, .int v1), (2, .int v2), (3, .int v3)] [] (xU u)) (v1 : Int32) (v2 : Int32) (v3 : Int32) (t0 : Int32) (t1 : Int32) : xGm md_X3_isJudgedByTrial (rsI (xU u)) (f_X3_isJudgedByTrial_L74 N u rec2 v1 v2 v3 t0 t1) 74 [(0, .ref 0), (1, .int v1), (2, .int v2), (3, .int v3)] [.int t0, .int t1] (xU u) := by
  unfold f_X3_isJudgedByTrial_L74
  refine xm_icmp_eq (pc := 74) (off := 5) (tgt := 79) (by decide +kernel) (by decide) ?_ ?_
  · refine xm_blk0 (pc' := 82) (lv' := [(0, .ref 0), (1, .int v1), (2, .int v2), (3, .int (v3 + (1 : Int32)))]) (st' := []) (u' := (xU u)) [(.iinc 3 1, (0, 0, 0), 1, 0)] (by decide +kernel) rfl ?_
    refine xm_goto (pc := 82) (off := -80) (tgt := 2) (by decide +kernel) (by decide) ?_
    exact h2 v1 v2 (v3 + (1 : Int32))
  · refine xm_blk0 (pc' := 78) (lv' := [(0, .ref 0), (1, .int v1), (2, .int v2), (3, .int v3)]) (st' := [.int (0 : Int32)]) (u' := (xU u)) [(.iconst 0, (0, 0, 0), 0, 0)] (by decide +kernel) rfl ?_
    exact xm_zret0 (pc := 78) (by decide +kernel) rfl (by decide) rfl
def f_X3_isJudgedByTrial_L2b (N : Nat) (u : xN) (rec2 : Int32 → Int32 → Int32 → Option Int32) (v1 : Int32) (v2 : Int32) (v3 : Int32) : Option Int32 := Option.bind (f_X1_sizeOf_1 v2 u) (fun r8 => gdl [nzi (2 : Int32)] (if (r8 / (2 : Int32)) ≤ v3 then some (1 : Int32) else gdl [inb v1 8] (Option.bind (f_X1_cellOf_1 v2 ((2 : Int32) * v3) u) (fun r38 => Option.bind (f_X0_isHeldAs_7_37 (u.1 10 (Int32.toNatClampNeg v1)) v1 r38 u) (fun r45 => Option.bind (f_X1_cellOf_1 v2 (((2 : Int32) * v3) + (1 : Int32)) u) (fun r62 => if r62 = (1 : Int32) then f_X3_isJudgedByTrial_L74 N u rec2 v1 v2 v3 (1 : Int32) r45 else f_X3_isJudgedByTrial_L74 N u rec2 v1 v2 v3 (0 : Int32) r45))))))
set_option maxRecDepth 20000 in
theorem go_X3_isJudgedByTrial_L2b (N : Nat) (u : xN) (rec2 : Int32 → Int32 → Int32 → Option Int32) (h2 : ∀ (v1 : Int32) (v2 : Int32) (v3 : Int32), xGm md_X3_isJudgedByTrial (rsI (xU u)) (rec2 v1 v2 v3) 2 [(0, .ref 0), (1, .int v1), (2, .int v2), (3, .int v3)] [] (xU u)) (v1 : Int32) (v2 : Int32) (v3 : Int32) : xGm md_X3_isJudgedByTrial (rsI (xU u)) (f_X3_isJudgedByTrial_L2b N u rec2 v1 v2 v3) 2 [(0, .ref 0), (1, .int v1), (2, .int v2), (3, .int v3)] [] (xU u) := by
  unfold f_X3_isJudgedByTrial_L2b
  refine xm_blk0 (pc' := 8) (lv' := [(0, .ref 0), (1, .int v1), (2, .int v2), (3, .int v3)]) (st' := [.int v2, .ref 1, .int v3]) (u' := (xU u)) [(.iload_n 3, (0, 0, 0), 0, 0), (.aload_n 0, (0, 0, 0), 0, 0), (.getfield 14, (3, 0, 206), 0, 0), (.iload_n 2, (0, 0, 0), 0, 0)] (by decide +kernel) rfl ?_
  refine xm_Vi (pc := 8) (mz := md_X1_sizeOf_1) (idx := 104) (p1 := 327) (a := 1) (as := [.int v2]) (st := [.int v3]) (ev_X1_sizeOf_1 v2 u) mw_X1_sizeOf (by decide +kernel) (by decide +kernel) (by decide) rfl rfl (by decide) rfl (Nat.le_of_ble_eq_true rfl) (fun r8 => ?_)
  refine xm_blk (bs := [nzi (2 : Int32)]) (pc' := 13) (lv' := [(0, .ref 0), (1, .int v1), (2, .int v2), (3, .int v3)]) (st' := [.int (r8 / (2 : Int32)), .int v3]) (u' := (xU u)) [(.iconst 2, (0, 0, 0), 2, 0), (.idiv, (0, 0, 0), 0, 0)] (by decide +kernel) rfl ?_
  refine xm_icmp_ge (pc := 13) (off := 72) (tgt := 85) (by decide +kernel) (by decide) ?_ ?_
  · refine xm_blk0 (pc' := 86) (lv' := [(0, .ref 0), (1, .int v1), (2, .int v2), (3, .int v3)]) (st' := [.int (1 : Int32)]) (u' := (xU u)) [(.iconst 1, (0, 0, 0), 1, 0)] (by decide +kernel) rfl ?_
    exact xm_zret0 (pc := 86) (by decide +kernel) rfl (by decide) rfl
  · refine xm_blk (bs := [inb v1 8]) (pc' := 38) (lv' := [(0, .ref 0), (1, .int v1), (2, .int v2), (3, .int v3)]) (st' := [.int ((2 : Int32) * v3), .int v2, .ref 1, .int v1, .int (u.1 10 (Int32.toNatClampNeg v1)), .ref 7]) (u' := (xU u)) [(.aload_n 0, (0, 0, 0), 0, 0), (.getfield 24, (3, 2, 208), 0, 0), (.aload_n 0, (0, 0, 0), 0, 0), (.getfield 24, (3, 2, 208), 0, 0), (.getfield 131, (0, 5, 151), 0, 0), (.iload_n 1, (0, 0, 0), 0, 0), (.iaload, (0, 0, 0), 0, 0), (.iload_n 1, (0, 0, 0), 0, 0), (.aload_n 0, (0, 0, 0), 0, 0), (.getfield 14, (3, 0, 206), 0, 0), (.iload_n 2, (0, 0, 0), 0, 0), (.iconst 2, (0, 0, 0), 2, 0), (.iload_n 3, (0, 0, 0), 0, 0), (.imul, (0, 0, 0), 0, 0)] (by decide +kernel) rfl ?_
    refine xm_Vi (pc := 38) (mz := md_X1_cellOf_1) (idx := 67) (p1 := 292) (a := 1) (as := [.int v2, .int ((2 : Int32) * v3)]) (st := [.int v1, .int (u.1 10 (Int32.toNatClampNeg v1)), .ref 7]) (ev_X1_cellOf_1 v2 ((2 : Int32) * v3) u) mw_X1_cellOf (by decide +kernel) (by decide +kernel) (by decide) rfl rfl (by decide) rfl (Nat.le_of_ble_eq_true rfl) (fun r38 => ?_)
    refine xm_blk0 (pc' := 45) (lv' := [(0, .ref 0), (1, .int v1), (2, .int v2), (3, .int v3)]) (st' := [.ref 37, .int r38, .int v1, .int (u.1 10 (Int32.toNatClampNeg v1)), .ref 7]) (u' := (xU u)) [(.aload_n 0, (0, 0, 0), 0, 0), (.getfield 46, (3, 7, 213), 0, 0)] (by decide +kernel) rfl ?_
    refine xm_Vi (pc := 45) (mz := md_X0_isHeldAs_7_37) (idx := 335) (p1 := 431) (a := 7) (as := [.int (u.1 10 (Int32.toNatClampNeg v1)), .int v1, .int r38, .ref 37]) (st := []) (ev_X0_isHeldAs_7_37 (u.1 10 (Int32.toNatClampNeg v1)) v1 r38 u) mw_X0_isHeldAs (by decide +kernel) (by decide +kernel) (by decide) rfl rfl (by decide) rfl (Nat.le_of_ble_eq_true rfl) (fun r45 => ?_)
    refine xm_blk0 (pc' := 62) (lv' := [(0, .ref 0), (1, .int v1), (2, .int v2), (3, .int v3), (4, .int r45)]) (st' := [.int (((2 : Int32) * v3) + (1 : Int32)), .int v2, .ref 1, .int r45]) (u' := (xU u)) [(.istore 4, (0, 0, 0), 0, 0), (.iload 4, (0, 0, 0), 0, 0), (.aload_n 0, (0, 0, 0), 0, 0), (.getfield 14, (3, 0, 206), 0, 0), (.iload_n 2, (0, 0, 0), 0, 0), (.iconst 2, (0, 0, 0), 2, 0), (.iload_n 3, (0, 0, 0), 0, 0), (.imul, (0, 0, 0), 0, 0), (.iconst 1, (0, 0, 0), 1, 0), (.iadd, (0, 0, 0), 0, 0)] (by decide +kernel) rfl ?_
    refine xm_Vi (pc := 62) (mz := md_X1_cellOf_1) (idx := 67) (p1 := 292) (a := 1) (as := [.int v2, .int (((2 : Int32) * v3) + (1 : Int32))]) (st := [.int r45]) (ev_X1_cellOf_1 v2 (((2 : Int32) * v3) + (1 : Int32)) u) mw_X1_cellOf (by decide +kernel) (by decide +kernel) (by decide) rfl rfl (by decide) rfl (Nat.le_of_ble_eq_true rfl) (fun r62 => ?_)
    refine xm_blk0 (pc' := 66) (lv' := [(0, .ref 0), (1, .int v1), (2, .int v2), (3, .int v3), (4, .int r45)]) (st' := [.int (1 : Int32), .int r62, .int r45]) (u' := (xU u)) [(.iconst 1, (0, 0, 0), 1, 0)] (by decide +kernel) rfl ?_
    refine xm_icmp_ne (pc := 66) (off := 7) (tgt := 73) (by decide +kernel) (by decide) ?_ ?_
    · refine xm_blk0 (pc' := 74) (lv' := [(0, .ref 0), (1, .int v1), (2, .int v2), (3, .int v3), (4, .int r45)]) (st' := [.int (0 : Int32), .int r45]) (u' := (xU u)) [(.iconst 0, (0, 0, 0), 0, 0)] (by decide +kernel) rfl ?_
      refine xm_wk [0, 1, 2, 3] (lv' := [(0, .ref 0), (1, .int v1), (2, .int v2), (3, .int v3)]) rfl ?_
      exact go_X3_isJudgedByTrial_L74 N u rec2 h2 v1 v2 v3 (0 : Int32) r45
    · refine xm_blk0 (pc' := 70) (lv' := [(0, .ref 0), (1, .int v1), (2, .int v2), (3, .int v3), (4, .int r45)]) (st' := [.int (1 : Int32), .int r45]) (u' := (xU u)) [(.iconst 1, (0, 0, 0), 1, 0)] (by decide +kernel) rfl ?_
      refine xm_goto (pc := 70) (off := 4) (tgt := 74) (by decide +kernel) (by decide) ?_
      refine xm_wk [0, 1, 2, 3] (lv' := [(0, .ref 0), (1, .int v1), (2, .int v2), (3, .int v3)]) rfl ?_
      exact go_X3_isJudgedByTrial_L74 N u rec2 h2 v1 v2 v3 (1 : Int32) r45
def f_X3_isJudgedByTrial_L2 (N : Nat) (u : xN) : Nat → Int32 → Int32 → Int32 → Option Int32
  | 0 => fun _ _ _ => none
  | n + 1 => fun v1 v2 v3 => f_X3_isJudgedByTrial_L2b N u (f_X3_isJudgedByTrial_L2 N u n) v1 v2 v3
theorem go_X3_isJudgedByTrial_L2 (N : Nat) (u : xN) : ∀ (n : Nat) (v1 : Int32) (v2 : Int32) (v3 : Int32), xGm md_X3_isJudgedByTrial (rsI (xU u)) (f_X3_isJudgedByTrial_L2 N u n v1 v2 v3) 2 [(0, .ref 0), (1, .int v1), (2, .int v2), (3, .int v3)] [] (xU u) := by
  intro n
  induction n with
  | zero => intro v1 v2 v3; exact xm_none
  | succ n ih => intro v1 v2 v3; exact go_X3_isJudgedByTrial_L2b N u _ ih v1 v2 v3
def f_X3_isJudgedByTrial (N : Nat) (a1 : Int32) (a2 : Int32) (u : xN) : Option Int32 := f_X3_isJudgedByTrial_L2 N u N a1 a2 (0 : Int32)
set_option maxRecDepth 20000 in
theorem go_X3_isJudgedByTrial (N : Nat) (a1 : Int32) (a2 : Int32) (u : xN) : xGm md_X3_isJudgedByTrial (rsI (xU u)) (f_X3_isJudgedByTrial N a1 a2 u) 0 [(0, .ref 0), (1, .int a1), (2, .int a2)] [] (xU u) := by
  unfold f_X3_isJudgedByTrial
  refine xm_blk0 (pc' := 2) (lv' := [(0, .ref 0), (1, .int a1), (2, .int a2), (3, .int (0 : Int32))]) (st' := []) (u' := (xU u)) [(.iconst 0, (0, 0, 0), 0, 0), (.istore_n 3, (0, 0, 0), 0, 0)] (by decide +kernel) rfl ?_
  exact go_X3_isJudgedByTrial_L2 N u N a1 a2 (0 : Int32)
theorem ev_X3_isJudgedByTrial (N : Nat) (a1 : Int32) (a2 : Int32) (u : xN) : ∀ r, f_X3_isJudgedByTrial N a1 a2 u = some r → xEm md_X3_isJudgedByTrial yX3_isJudgedByTrial [.ref 0, .int a1, .int a2] (xU u) (some (.int r), (xU u)) := xm_met (res := (rsI (xU u))) (as := [.ref 0, .int a1, .int a2]) (go_X3_isJudgedByTrial N a1 a2 u) (by decide) rfl (Nat.le_of_ble_eq_true rfl)
theorem mw_X3_judged : xMv yX3_judged cX3_judged 9 (some .int) 2 := xMv_of (p1 := 725) (p2 := 723) (p3 := 92) (p4 := 724) (by decide +kernel)
/-! NeitherBare.judged(II)I (0, None, None) -/
abbrev md_X3_judged : xMd := (cX3_judged, RX3, 9, some .int, 6)
def f_X3_judged_L108 (N : Nat) (rec47 : Int32 → Int32 → Int32 → Int32 → Int32 → Int32 → xN → Option (Int32 × xN)) (rec55 : Int32 → Int32 → Int32 → Int32 → Int32 → Int32 → Int32 → xN → Option (Int32 × xN)) (v1 : Int32) (v2 : Int32) (v4 : Int32) (v5 : Int32) (v6 : Int32) (v7 : Int32) (v8 : Int32) (u : xN) : Option (Int32 × xN) := rec55 v1 v2 v4 v5 v6 v7 (v8 + (-1 : Int32)) u
set_option maxRecDepth 20000 in
theorem go_X3_judged_L108 (N : Nat) (rec47 : Int32 → Int32 → Int32 → Int32 → Int32 → Int32 → xN → Option (Int32 × xN)) (h47 : ∀ (v1 : Int32) (v2 : Int32) (v4 : Int32) (v5 : Int32) (v6 : Int32) (v7 : Int32) (u : xN), xGm md_X3_judged rsM (rec47 v1 v2 v4 v5 v6 v7 u) 47 [(0, .ref 0), (1, .int v1), (2, .int v2), (4, .int v4), (5, .int v5), (6, .int v6), (7, .int v7)] [] (xU u)) (rec55 : Int32 → Int32 → Int32 → Int32 → Int32 → Int32 → Int32 → xN → Option (Int32 × xN)) (h55 : ∀ (v1 : Int32) (v2 : Int32) (v4 : Int32) (v5 : Int32) (v6 : Int32) (v7 : Int32) (v8 : Int32) (u : xN), xGm md_X3_judged rsM (rec55 v1 v2 v4 v5 v6 v7 v8 u) 55 [(0, .ref 0), (1, .int v1), (2, .int v2), (4, .int v4), (5, .int v5), (6, .int v6), (7, .int v7), (8, .int v8)] [] (xU u)) (v1 : Int32) (v2 : Int32) (v4 : Int32) (v5 : Int32) (v6 : Int32) (v7 : Int32) (v8 : Int32) (u : xN) : xGm md_X3_judged rsM (f_X3_judged_L108 N rec47 rec55 v1 v2 v4 v5 v6 v7 v8 u) 108 [(0, .ref 0), (1, .int v1), (2, .int v2), (4, .int v4), (5, .int v5), (6, .int v6), (7, .int v7), (8, .int v8)] [] (xU u) := by
  unfold f_X3_judged_L108
  refine xm_blk0 (pc' := 111) (lv' := [(0, .ref 0), (1, .int v1), (2, .int v2), (4, .int v4), (5, .int v5), (6, .int v6), (7, .int v7), (8, .int (v8 + (-1 : Int32)))]) (st' := []) (u' := (xU u)) [(.iinc 8 (-1), (0, 0, 0), -1, 0)] (by decide +kernel) rfl ?_
  refine xm_goto (pc := 111) (off := -56) (tgt := 55) (by decide +kernel) (by decide) ?_
  exact h55 v1 v2 v4 v5 v6 v7 (v8 + (-1 : Int32)) u
def f_X3_judged_L55b (N : Nat) (rec47 : Int32 → Int32 → Int32 → Int32 → Int32 → Int32 → xN → Option (Int32 × xN)) (rec55 : Int32 → Int32 → Int32 → Int32 → Int32 → Int32 → Int32 → xN → Option (Int32 × xN)) (v1 : Int32) (v2 : Int32) (v4 : Int32) (v5 : Int32) (v6 : Int32) (v7 : Int32) (v8 : Int32) (u : xN) : Option (Int32 × xN) := if v8 ≤ v7 then rec47 v1 v2 v4 v5 v6 (v7 + (-1 : Int32)) u else gdl [inb ((2 : Int32) * v4) 8, inb (((2 : Int32) * v4) + (1 : Int32)) 8] (Option.bind (f_X3_isJudgedByTrial N v1 v2 (mI (mI u 37 (Int32.toNatClampNeg ((2 : Int32) * v4)) v7) 37 (Int32.toNatClampNeg (((2 : Int32) * v4) + (1 : Int32))) v8)) (fun r89 => if r89 = (0 : Int32) then f_X3_judged_L108 N rec47 rec55 v1 v2 v4 v5 v6 v7 v8 (mI (mI u 37 (Int32.toNatClampNeg ((2 : Int32) * v4)) v7) 37 (Int32.toNatClampNeg (((2 : Int32) * v4) + (1 : Int32))) v8) else f_X3_judged_L108 N rec47 rec55 v1 v2 v4 (v5 + (1 : Int32)) (((10 : Int32) * v7) + v8) v7 v8 (mI (mI u 37 (Int32.toNatClampNeg ((2 : Int32) * v4)) v7) 37 (Int32.toNatClampNeg (((2 : Int32) * v4) + (1 : Int32))) v8)))
set_option maxRecDepth 20000 in
theorem go_X3_judged_L55b (N : Nat) (rec47 : Int32 → Int32 → Int32 → Int32 → Int32 → Int32 → xN → Option (Int32 × xN)) (h47 : ∀ (v1 : Int32) (v2 : Int32) (v4 : Int32) (v5 : Int32) (v6 : Int32) (v7 : Int32) (u : xN), xGm md_X3_judged rsM (rec47 v1 v2 v4 v5 v6 v7 u) 47 [(0, .ref 0), (1, .int v1), (2, .int v2), (4, .int v4), (5, .int v5), (6, .int v6), (7, .int v7)] [] (xU u)) (rec55 : Int32 → Int32 → Int32 → Int32 → Int32 → Int32 → Int32 → xN → Option (Int32 × xN)) (h55 : ∀ (v1 : Int32) (v2 : Int32) (v4 : Int32) (v5 : Int32) (v6 : Int32) (v7 : Int32) (v8 : Int32) (u : xN), xGm md_X3_judged rsM (rec55 v1 v2 v4 v5 v6 v7 v8 u) 55 [(0, .ref 0), (1, .int v1), (2, .int v2), (4, .int v4), (5, .int v5), (6, .int v6), (7, .int v7), (8, .int v8)] [] (xU u)) (v1 : Int32) (v2 : Int32) (v4 : Int32) (v5 : Int32) (v6 : Int32) (v7 : Int32) (v8 : Int32) (u : xN) : xGm md_X3_judged rsM (f_X3_judged_L55b N rec47 rec55 v1 v2 v4 v5 v6 v7 v8 u) 55 [(0, .ref 0), (1, .int v1), (2, .int v2), (4, .int v4), (5, .int v5), (6, .int v6), (7, .int v7), (8, .int v8)] [] (xU u) := by
  unfold f_X3_judged_L55b
  refine xm_blk0 (pc' := 59) (lv' := [(0, .ref 0), (1, .int v1), (2, .int v2), (4, .int v4), (5, .int v5), (6, .int v6), (7, .int v7), (8, .int v8)]) (st' := [.int v7, .int v8]) (u' := (xU u)) [(.iload 8, (0, 0, 0), 0, 0), (.iload 7, (0, 0, 0), 0, 0)] (by decide +kernel) rfl ?_
  refine xm_icmp_le (pc := 59) (off := 55) (tgt := 114) (by decide +kernel) (by decide) ?_ ?_
  · refine xm_blk0 (pc' := 117) (lv' := [(0, .ref 0), (1, .int v1), (2, .int v2), (4, .int v4), (5, .int v5), (6, .int v6), (7, .int (v7 + (-1 : Int32))), (8, .int v8)]) (st' := []) (u' := (xU u)) [(.iinc 7 (-1), (0, 0, 0), -1, 0)] (by decide +kernel) rfl ?_
    refine xm_goto (pc := 117) (off := -70) (tgt := 47) (by decide +kernel) (by decide) ?_
    refine xm_wk [0, 1, 2, 3, 4, 5, 6] (lv' := [(0, .ref 0), (1, .int v1), (2, .int v2), (4, .int v4), (5, .int v5), (6, .int v6), (7, .int (v7 + (-1 : Int32)))]) rfl ?_
    exact h47 v1 v2 v4 v5 v6 (v7 + (-1 : Int32)) u
  · refine xm_blk (bs := [inb ((2 : Int32) * v4) 8, inb (((2 : Int32) * v4) + (1 : Int32)) 8]) (pc' := 89) (lv' := [(0, .ref 0), (1, .int v1), (2, .int v2), (4, .int v4), (5, .int v5), (6, .int v6), (7, .int v7), (8, .int v8)]) (st' := [.int v2, .int v1, .ref 0]) (u' := (xU (mI (mI u 37 (Int32.toNatClampNeg ((2 : Int32) * v4)) v7) 37 (Int32.toNatClampNeg (((2 : Int32) * v4) + (1 : Int32))) v8))) [(.aload_n 0, (0, 0, 0), 0, 0), (.getfield 46, (3, 7, 213), 0, 0), (.iconst 2, (0, 0, 0), 2, 0), (.iload 4, (0, 0, 0), 0, 0), (.imul, (0, 0, 0), 0, 0), (.iload 7, (0, 0, 0), 0, 0), (.iastore, (0, 0, 0), 0, 0), (.aload_n 0, (0, 0, 0), 0, 0), (.getfield 46, (3, 7, 213), 0, 0), (.iconst 2, (0, 0, 0), 2, 0), (.iload 4, (0, 0, 0), 0, 0), (.imul, (0, 0, 0), 0, 0), (.iconst 1, (0, 0, 0), 1, 0), (.iadd, (0, 0, 0), 0, 0), (.iload 8, (0, 0, 0), 0, 0), (.iastore, (0, 0, 0), 0, 0), (.aload_n 0, (0, 0, 0), 0, 0), (.iload_n 1, (0, 0, 0), 0, 0), (.iload_n 2, (0, 0, 0), 0, 0)] (by decide +kernel) rfl ?_
    refine xm_Vi (pc := 89) (mz := md_X3_isJudgedByTrial) (idx := 290) (p1 := 730) (a := 0) (as := [.int v1, .int v2]) (st := []) (ev_X3_isJudgedByTrial N v1 v2 (mI (mI u 37 (Int32.toNatClampNeg ((2 : Int32) * v4)) v7) 37 (Int32.toNatClampNeg (((2 : Int32) * v4) + (1 : Int32))) v8)) mw_X3_isJudgedByTrial (by decide +kernel) (by decide +kernel) (by decide) rfl rfl (by decide) rfl (Nat.le_of_ble_eq_true rfl) (fun r89 => ?_)
    refine xm_if_eq (pc := 92) (off := 16) (tgt := 108) (by decide +kernel) (by decide) ?_ ?_
    · exact go_X3_judged_L108 N rec47 h47 rec55 h55 v1 v2 v4 v5 v6 v7 v8 (mI (mI u 37 (Int32.toNatClampNeg ((2 : Int32) * v4)) v7) 37 (Int32.toNatClampNeg (((2 : Int32) * v4) + (1 : Int32))) v8)
    · refine xm_blk0 (pc' := 108) (lv' := [(0, .ref 0), (1, .int v1), (2, .int v2), (4, .int v4), (5, .int (v5 + (1 : Int32))), (6, .int (((10 : Int32) * v7) + v8)), (7, .int v7), (8, .int v8)]) (st' := []) (u' := (xU (mI (mI u 37 (Int32.toNatClampNeg ((2 : Int32) * v4)) v7) 37 (Int32.toNatClampNeg (((2 : Int32) * v4) + (1 : Int32))) v8))) [(.iinc 5 1, (0, 0, 0), 1, 0), (.bipush 10, (0, 0, 0), 10, 0), (.iload 7, (0, 0, 0), 0, 0), (.imul, (0, 0, 0), 0, 0), (.iload 8, (0, 0, 0), 0, 0), (.iadd, (0, 0, 0), 0, 0), (.istore 6, (0, 0, 0), 0, 0)] (by decide +kernel) rfl ?_
      exact go_X3_judged_L108 N rec47 h47 rec55 h55 v1 v2 v4 (v5 + (1 : Int32)) (((10 : Int32) * v7) + v8) v7 v8 (mI (mI u 37 (Int32.toNatClampNeg ((2 : Int32) * v4)) v7) 37 (Int32.toNatClampNeg (((2 : Int32) * v4) + (1 : Int32))) v8)
def f_X3_judged_L55 (N : Nat) (rec47 : Int32 → Int32 → Int32 → Int32 → Int32 → Int32 → xN → Option (Int32 × xN)) : Nat → Int32 → Int32 → Int32 → Int32 → Int32 → Int32 → Int32 → xN → Option (Int32 × xN)
  | 0 => fun _ _ _ _ _ _ _ _ => none
  | n + 1 => fun v1 v2 v4 v5 v6 v7 v8 u => f_X3_judged_L55b N rec47 (f_X3_judged_L55 N rec47 n) v1 v2 v4 v5 v6 v7 v8 u
theorem go_X3_judged_L55 (N : Nat) (rec47 : Int32 → Int32 → Int32 → Int32 → Int32 → Int32 → xN → Option (Int32 × xN)) (h47 : ∀ (v1 : Int32) (v2 : Int32) (v4 : Int32) (v5 : Int32) (v6 : Int32) (v7 : Int32) (u : xN), xGm md_X3_judged rsM (rec47 v1 v2 v4 v5 v6 v7 u) 47 [(0, .ref 0), (1, .int v1), (2, .int v2), (4, .int v4), (5, .int v5), (6, .int v6), (7, .int v7)] [] (xU u)) : ∀ (n : Nat) (v1 : Int32) (v2 : Int32) (v4 : Int32) (v5 : Int32) (v6 : Int32) (v7 : Int32) (v8 : Int32) (u : xN), xGm md_X3_judged rsM (f_X3_judged_L55 N rec47 n v1 v2 v4 v5 v6 v7 v8 u) 55 [(0, .ref 0), (1, .int v1), (2, .int v2), (4, .int v4), (5, .int v5), (6, .int v6), (7, .int v7), (8, .int v8)] [] (xU u) := by
  intro n
  induction n with
  | zero => intro v1 v2 v4 v5 v6 v7 v8 u; exact xm_none
  | succ n ih => intro v1 v2 v4 v5 v6 v7 v8 u; exact go_X3_judged_L55b N rec47 h47 _ ih v1 v2 v4 v5 v6 v7 v8 u
def f_X3_judged_L47b (N : Nat) (rec47 : Int32 → Int32 → Int32 → Int32 → Int32 → Int32 → xN → Option (Int32 × xN)) (v1 : Int32) (v2 : Int32) (v4 : Int32) (v5 : Int32) (v6 : Int32) (v7 : Int32) (u : xN) : Option (Int32 × xN) := if v7 < (0 : Int32) then some (v5, mI u 0 10 v6) else f_X3_judged_L55 N rec47 N v1 v2 v4 v5 v6 v7 (5 : Int32) u
set_option maxRecDepth 20000 in
theorem go_X3_judged_L47b (N : Nat) (rec47 : Int32 → Int32 → Int32 → Int32 → Int32 → Int32 → xN → Option (Int32 × xN)) (h47 : ∀ (v1 : Int32) (v2 : Int32) (v4 : Int32) (v5 : Int32) (v6 : Int32) (v7 : Int32) (u : xN), xGm md_X3_judged rsM (rec47 v1 v2 v4 v5 v6 v7 u) 47 [(0, .ref 0), (1, .int v1), (2, .int v2), (4, .int v4), (5, .int v5), (6, .int v6), (7, .int v7)] [] (xU u)) (v1 : Int32) (v2 : Int32) (v4 : Int32) (v5 : Int32) (v6 : Int32) (v7 : Int32) (u : xN) : xGm md_X3_judged rsM (f_X3_judged_L47b N rec47 v1 v2 v4 v5 v6 v7 u) 47 [(0, .ref 0), (1, .int v1), (2, .int v2), (4, .int v4), (5, .int v5), (6, .int v6), (7, .int v7)] [] (xU u) := by
  unfold f_X3_judged_L47b
  refine xm_blk0 (pc' := 49) (lv' := [(0, .ref 0), (1, .int v1), (2, .int v2), (4, .int v4), (5, .int v5), (6, .int v6), (7, .int v7)]) (st' := [.int v7]) (u' := (xU u)) [(.iload 7, (0, 0, 0), 0, 0)] (by decide +kernel) rfl ?_
  refine xm_if_lt (pc := 49) (off := 71) (tgt := 120) (by decide +kernel) (by decide) ?_ ?_
  · refine xm_blk0 (pc' := 128) (lv' := [(0, .ref 0), (1, .int v1), (2, .int v2), (4, .int v4), (5, .int v5), (6, .int v6), (7, .int v7)]) (st' := [.int v5]) (u' := (xU (mI u 0 10 v6))) [(.aload_n 0, (0, 0, 0), 0, 0), (.iload 6, (0, 0, 0), 0, 0), (.putfield 71, (3, 10, 216), 0, 0), (.iload 5, (0, 0, 0), 0, 0)] (by decide +kernel) rfl ?_
    exact xm_iret (pc := 128) (by decide +kernel) rfl rfl
  · refine xm_blk0 (pc' := 55) (lv' := [(0, .ref 0), (1, .int v1), (2, .int v2), (4, .int v4), (5, .int v5), (6, .int v6), (7, .int v7), (8, .int (5 : Int32))]) (st' := []) (u' := (xU u)) [(.iconst 5, (0, 0, 0), 5, 0), (.istore 8, (0, 0, 0), 0, 0)] (by decide +kernel) rfl ?_
    exact go_X3_judged_L55 N rec47 h47 N v1 v2 v4 v5 v6 v7 (5 : Int32) u
def f_X3_judged_L47 (N : Nat) : Nat → Int32 → Int32 → Int32 → Int32 → Int32 → Int32 → xN → Option (Int32 × xN)
  | 0 => fun _ _ _ _ _ _ _ => none
  | n + 1 => fun v1 v2 v4 v5 v6 v7 u => f_X3_judged_L47b N (f_X3_judged_L47 N n) v1 v2 v4 v5 v6 v7 u
theorem go_X3_judged_L47 (N : Nat) : ∀ (n : Nat) (v1 : Int32) (v2 : Int32) (v4 : Int32) (v5 : Int32) (v6 : Int32) (v7 : Int32) (u : xN), xGm md_X3_judged rsM (f_X3_judged_L47 N n v1 v2 v4 v5 v6 v7 u) 47 [(0, .ref 0), (1, .int v1), (2, .int v2), (4, .int v4), (5, .int v5), (6, .int v6), (7, .int v7)] [] (xU u) := by
  intro n
  induction n with
  | zero => intro v1 v2 v4 v5 v6 v7 u; exact xm_none
  | succ n ih => intro v1 v2 v4 v5 v6 v7 u; exact go_X3_judged_L47b N _ ih v1 v2 v4 v5 v6 v7 u
def f_X3_judged (N : Nat) (a1 : Int32) (a2 : Int32) (u : xN) : Option (Int32 × xN) := Option.bind (f_X3_isClause a1 u) (fun r2 => if r2 = (0 : Int32) then some ((-1 : Int32), u) else Option.bind (f_X3_refusedJudgements N a2 u) (fun r12 => if r12.1 = (0 : Int32) then Option.bind (f_X3_copyBordersToTrial r12.2) (fun r23 => gdl [inb a1 8] (f_X3_judged_L47 N N a1 a2 (r23.1 11 (Int32.toNatClampNeg a1)) (0 : Int32) (-9 : Int32) (4 : Int32) r23)) else some (r12.1, r12.2)))
set_option maxRecDepth 20000 in
theorem go_X3_judged (N : Nat) (a1 : Int32) (a2 : Int32) (u : xN) : xGm md_X3_judged rsM (f_X3_judged N a1 a2 u) 0 [(0, .ref 0), (1, .int a1), (2, .int a2)] [] (xU u) := by
  unfold f_X3_judged
  refine xm_blk0 (pc' := 2) (lv' := [(0, .ref 0), (1, .int a1), (2, .int a2)]) (st' := [.int a1, .ref 0]) (u' := (xU u)) [(.aload_n 0, (0, 0, 0), 0, 0), (.iload_n 1, (0, 0, 0), 0, 0)] (by decide +kernel) rfl ?_
  refine xm_Vi (pc := 2) (mz := md_X3_isClause) (idx := 125) (p1 := 411) (a := 0) (as := [.int a1]) (st := []) (ev_X3_isClause a1 u) mw_X3_isClause (by decide +kernel) (by decide +kernel) (by decide) rfl rfl (by decide) rfl (Nat.le_of_ble_eq_true rfl) (fun r2 => ?_)
  refine xm_if_ne (pc := 5) (off := 5) (tgt := 10) (by decide +kernel) (by decide) ?_ ?_
  · refine xm_blk0 (pc' := 12) (lv' := [(0, .ref 0), (1, .int a1), (2, .int a2)]) (st' := [.int a2, .ref 0]) (u' := (xU u)) [(.aload_n 0, (0, 0, 0), 0, 0), (.iload_n 2, (0, 0, 0), 0, 0)] (by decide +kernel) rfl ?_
    refine xm_Vm (pc := 12) (mz := md_X3_refusedJudgements) (idx := 287) (p1 := 726) (a := 0) (as := [.int a2]) (st := []) (ev_X3_refusedJudgements N a2 u) mw_X3_refusedJudgements (by decide +kernel) (by decide +kernel) (by decide) rfl rfl (by decide) rfl (Nat.le_of_ble_eq_true rfl) (fun r12 => ?_)
    refine xm_blk0 (pc' := 17) (lv' := [(0, .ref 0), (1, .int a1), (2, .int a2), (3, .int r12.1)]) (st' := [.int r12.1]) (u' := (xU r12.2)) [(.istore_n 3, (0, 0, 0), 0, 0), (.iload_n 3, (0, 0, 0), 0, 0)] (by decide +kernel) rfl ?_
    refine xm_if_eq (pc := 17) (off := 5) (tgt := 22) (by decide +kernel) (by decide) ?_ ?_
    · refine xm_blk0 (pc' := 23) (lv' := [(0, .ref 0), (1, .int a1), (2, .int a2), (3, .int r12.1)]) (st' := [.ref 0]) (u' := (xU r12.2)) [(.aload_n 0, (0, 0, 0), 0, 0)] (by decide +kernel) rfl ?_
      refine xm_Vv (pc := 23) (mz := md_X3_copyBordersToTrial) (idx := 281) (p1 := 713) (a := 0) (as := []) (st := []) (ev_X3_copyBordersToTrial r12.2) mw_X3_copyBordersToTrial (by decide +kernel) (by decide +kernel) (by decide) rfl rfl (by decide) rfl (Nat.le_of_ble_eq_true rfl) (fun r23 => ?_)
      refine xm_blk (bs := [inb a1 8]) (pc' := 47) (lv' := [(0, .ref 0), (1, .int a1), (2, .int a2), (3, .int r12.1), (4, .int (r23.1 11 (Int32.toNatClampNeg a1))), (5, .int (0 : Int32)), (6, .int (-9 : Int32)), (7, .int (4 : Int32))]) (st' := []) (u' := (xU r23)) [(.aload_n 0, (0, 0, 0), 0, 0), (.getfield 24, (3, 2, 208), 0, 0), (.getfield 138, (0, 6, 153), 0, 0), (.iload_n 1, (0, 0, 0), 0, 0), (.iaload, (0, 0, 0), 0, 0), (.istore 4, (0, 0, 0), 0, 0), (.iconst 0, (0, 0, 0), 0, 0), (.istore 5, (0, 0, 0), 0, 0), (.bipush (-9), (0, 0, 0), -9, 0), (.istore 6, (0, 0, 0), 0, 0), (.iconst 4, (0, 0, 0), 4, 0), (.istore 7, (0, 0, 0), 0, 0)] (by decide +kernel) rfl ?_
      refine xm_wk [0, 1, 2, 4, 5, 6, 7] (lv' := [(0, .ref 0), (1, .int a1), (2, .int a2), (4, .int (r23.1 11 (Int32.toNatClampNeg a1))), (5, .int (0 : Int32)), (6, .int (-9 : Int32)), (7, .int (4 : Int32))]) rfl ?_
      exact go_X3_judged_L47 N N a1 a2 (r23.1 11 (Int32.toNatClampNeg a1)) (0 : Int32) (-9 : Int32) (4 : Int32) r23
    · refine xm_blk0 (pc' := 21) (lv' := [(0, .ref 0), (1, .int a1), (2, .int a2), (3, .int r12.1)]) (st' := [.int r12.1]) (u' := (xU r12.2)) [(.iload_n 3, (0, 0, 0), 0, 0)] (by decide +kernel) rfl ?_
      exact xm_iret (pc := 21) (by decide +kernel) rfl rfl
  · refine xm_blk0 (pc' := 9) (lv' := [(0, .ref 0), (1, .int a1), (2, .int a2)]) (st' := [.int (-1 : Int32)]) (u' := (xU u)) [(.iconst (-1), (0, 0, 0), -1, 0)] (by decide +kernel) rfl ?_
    exact xm_iret (pc := 9) (by decide +kernel) rfl rfl
theorem ev_X3_judged (N : Nat) (a1 : Int32) (a2 : Int32) (u : xN) : ∀ r, f_X3_judged N a1 a2 u = some r → xEm md_X3_judged yX3_judged [.ref 0, .int a1, .int a2] (xU u) (some (.int r.1), xU r.2) := xm_met (res := rsM) (as := [.ref 0, .int a1, .int a2]) (go_X3_judged N a1 a2 u) (by decide) rfl (Nat.le_of_ble_eq_true rfl)
theorem mw_X3_tellChance : xMv yX3_tellChance cX3_tellChance 12 none 2 := xMv_of (p1 := 742) (p2 := 741) (p3 := 92) (p4 := 35) (by decide +kernel)
/-! NeitherBare.tellChance(JJ)V (0, None, None) -/
abbrev md_X3_tellChance : xMd := (cX3_tellChance, RX3, 12, none, 1)
def f_X3_tellChance_L44 (N : Nat) (v1 : Int64) (v3 : Int64) (v5 : Int64) (u : xN) : Option xN := if (lg_cmp v5 (0 : Int64)) ≤ (0 : Int32) then some u else gdl [nzl v5, nzl v5] (some (mJ (mJ u 0 11 (v1 / v5)) 0 12 (v3 / v5)))
set_option maxRecDepth 20000 in
theorem go_X3_tellChance_L44 (N : Nat) (v1 : Int64) (v3 : Int64) (v5 : Int64) (u : xN) : xGm md_X3_tellChance rsV (f_X3_tellChance_L44 N v1 v3 v5 u) 44 [(0, .ref 0), (1, .long v1), (3, .long v3), (5, .long v5)] [] (xU u) := by
  unfold f_X3_tellChance_L44
  refine xm_blk0 (pc' := 48) (lv' := [(0, .ref 0), (1, .long v1), (3, .long v3), (5, .long v5)]) (st' := [.int (lg_cmp v5 (0 : Int64))]) (u' := (xU u)) [(.lload 5, (0, 0, 0), 0, 0), (.lconst 0, (0, 0, 0), 0, 0), (.lcmp, (0, 0, 0), 0, 0)] (by decide +kernel) rfl ?_
  refine xm_if_le (pc := 48) (off := 19) (tgt := 67) (by decide +kernel) (by decide) ?_ ?_
  · exact xm_vret (pc := 67) (by decide +kernel) rfl rfl
  · refine xm_blk (bs := [nzl v5, nzl v5]) (pc' := 67) (lv' := [(0, .ref 0), (1, .long v1), (3, .long v3), (5, .long v5)]) (st' := []) (u' := (xU (mJ (mJ u 0 11 (v1 / v5)) 0 12 (v3 / v5)))) [(.aload_n 0, (0, 0, 0), 0, 0), (.lload_n 1, (0, 0, 0), 0, 0), (.lload 5, (0, 0, 0), 0, 0), (.ldiv, (0, 0, 0), 0, 0), (.putfield 305, (3, 11, 217), 0, 0), (.aload_n 0, (0, 0, 0), 0, 0), (.lload_n 3, (0, 0, 0), 0, 0), (.lload 5, (0, 0, 0), 0, 0), (.ldiv, (0, 0, 0), 0, 0), (.putfield 52, (3, 12, 218), 0, 0)] (by decide +kernel) rfl ?_
    exact xm_vret (pc := 67) (by decide +kernel) rfl rfl
def f_X3_tellChance_L9b (N : Nat) (rec9 : Int64 → Int64 → Int64 → Int64 → Int32 → xN → Option xN) (v1 : Int64) (v3 : Int64) (v5 : Int64) (v7 : Int64) (v9 : Int32) (u : xN) : Option xN := if (100 : Int32) ≤ v9 then f_X3_tellChance_L44 N v1 v3 v5 u else if (lg_cmp v7 (0 : Int64)) = (0 : Int32) then f_X3_tellChance_L44 N v1 v3 v5 u else gdl [nzl v7] (rec9 v1 v3 v7 (v5 - v5 / v7 * v7) (v9 + (1 : Int32)) u)
set_option maxRecDepth 20000 in
theorem go_X3_tellChance_L9b (N : Nat) (rec9 : Int64 → Int64 → Int64 → Int64 → Int32 → xN → Option xN) (h9 : ∀ (v1 : Int64) (v3 : Int64) (v5 : Int64) (v7 : Int64) (v9 : Int32) (u : xN), xGm md_X3_tellChance rsV (rec9 v1 v3 v5 v7 v9 u) 9 [(0, .ref 0), (1, .long v1), (3, .long v3), (5, .long v5), (7, .long v7), (9, .int v9)] [] (xU u)) (v1 : Int64) (v3 : Int64) (v5 : Int64) (v7 : Int64) (v9 : Int32) (u : xN) : xGm md_X3_tellChance rsV (f_X3_tellChance_L9b N rec9 v1 v3 v5 v7 v9 u) 9 [(0, .ref 0), (1, .long v1), (3, .long v3), (5, .long v5), (7, .long v7), (9, .int v9)] [] (xU u) := by
  unfold f_X3_tellChance_L9b
  refine xm_blk0 (pc' := 13) (lv' := [(0, .ref 0), (1, .long v1), (3, .long v3), (5, .long v5), (7, .long v7), (9, .int v9)]) (st' := [.int (100 : Int32), .int v9]) (u' := (xU u)) [(.iload 9, (0, 0, 0), 0, 0), (.bipush 100, (0, 0, 0), 100, 0)] (by decide +kernel) rfl ?_
  refine xm_icmp_ge (pc := 13) (off := 31) (tgt := 44) (by decide +kernel) (by decide) ?_ ?_
  · refine xm_wk [0, 1, 2, 3] (lv' := [(0, .ref 0), (1, .long v1), (3, .long v3), (5, .long v5)]) rfl ?_
    exact go_X3_tellChance_L44 N v1 v3 v5 u
  · refine xm_blk0 (pc' := 20) (lv' := [(0, .ref 0), (1, .long v1), (3, .long v3), (5, .long v5), (7, .long v7), (9, .int v9)]) (st' := [.int (lg_cmp v7 (0 : Int64))]) (u' := (xU u)) [(.lload 7, (0, 0, 0), 0, 0), (.lconst 0, (0, 0, 0), 0, 0), (.lcmp, (0, 0, 0), 0, 0)] (by decide +kernel) rfl ?_
    refine xm_if_eq (pc := 20) (off := 24) (tgt := 44) (by decide +kernel) (by decide) ?_ ?_
    · refine xm_wk [0, 1, 2, 3] (lv' := [(0, .ref 0), (1, .long v1), (3, .long v3), (5, .long v5)]) rfl ?_
      exact go_X3_tellChance_L44 N v1 v3 v5 u
    · refine xm_blk (bs := [nzl v7]) (pc' := 41) (lv' := [(0, .ref 0), (1, .long v1), (3, .long v3), (5, .long v7), (7, .long (v5 - v5 / v7 * v7)), (9, .int (v9 + (1 : Int32))), (10, .long (v5 - v5 / v7 * v7))]) (st' := []) (u' := (xU u)) [(.lload 5, (0, 0, 0), 0, 0), (.lload 7, (0, 0, 0), 0, 0), (.lrem, (0, 0, 0), 0, 0), (.lstore 10, (0, 0, 0), 0, 0), (.lload 7, (0, 0, 0), 0, 0), (.lstore 5, (0, 0, 0), 0, 0), (.lload 10, (0, 0, 0), 0, 0), (.lstore 7, (0, 0, 0), 0, 0), (.iinc 9 1, (0, 0, 0), 1, 0)] (by decide +kernel) rfl ?_
      refine xm_goto (pc := 41) (off := -32) (tgt := 9) (by decide +kernel) (by decide) ?_
      refine xm_wk [0, 1, 2, 3, 4, 5] (lv' := [(0, .ref 0), (1, .long v1), (3, .long v3), (5, .long v7), (7, .long (v5 - v5 / v7 * v7)), (9, .int (v9 + (1 : Int32)))]) rfl ?_
      exact h9 v1 v3 v7 (v5 - v5 / v7 * v7) (v9 + (1 : Int32)) u
def f_X3_tellChance_L9 (N : Nat) : Nat → Int64 → Int64 → Int64 → Int64 → Int32 → xN → Option xN
  | 0 => fun _ _ _ _ _ _ => none
  | n + 1 => fun v1 v3 v5 v7 v9 u => f_X3_tellChance_L9b N (f_X3_tellChance_L9 N n) v1 v3 v5 v7 v9 u
theorem go_X3_tellChance_L9 (N : Nat) : ∀ (n : Nat) (v1 : Int64) (v3 : Int64) (v5 : Int64) (v7 : Int64) (v9 : Int32) (u : xN), xGm md_X3_tellChance rsV (f_X3_tellChance_L9 N n v1 v3 v5 v7 v9 u) 9 [(0, .ref 0), (1, .long v1), (3, .long v3), (5, .long v5), (7, .long v7), (9, .int v9)] [] (xU u) := by
  intro n
  induction n with
  | zero => intro v1 v3 v5 v7 v9 u; exact xm_none
  | succ n ih => intro v1 v3 v5 v7 v9 u; exact go_X3_tellChance_L9b N _ ih v1 v3 v5 v7 v9 u
def f_X3_tellChance (N : Nat) (a1 : Int64) (a3 : Int64) (u : xN) : Option xN := f_X3_tellChance_L9 N N a1 a3 a3 a1 (0 : Int32) u
set_option maxRecDepth 20000 in
theorem go_X3_tellChance (N : Nat) (a1 : Int64) (a3 : Int64) (u : xN) : xGm md_X3_tellChance rsV (f_X3_tellChance N a1 a3 u) 0 [(0, .ref 0), (1, .long a1), (3, .long a3)] [] (xU u) := by
  unfold f_X3_tellChance
  refine xm_blk0 (pc' := 9) (lv' := [(0, .ref 0), (1, .long a1), (3, .long a3), (5, .long a3), (7, .long a1), (9, .int (0 : Int32))]) (st' := []) (u' := (xU u)) [(.lload_n 3, (0, 0, 0), 0, 0), (.lstore 5, (0, 0, 0), 0, 0), (.lload_n 1, (0, 0, 0), 0, 0), (.lstore 7, (0, 0, 0), 0, 0), (.iconst 0, (0, 0, 0), 0, 0), (.istore 9, (0, 0, 0), 0, 0)] (by decide +kernel) rfl ?_
  exact go_X3_tellChance_L9 N N a1 a3 a3 a1 (0 : Int32) u
theorem ev_X3_tellChance (N : Nat) (a1 : Int64) (a3 : Int64) (u : xN) : ∀ r, f_X3_tellChance N a1 a3 u = some r → xEm md_X3_tellChance yX3_tellChance [.ref 0, .long a1, .long a3] (xU u) (none, xU r) := xm_met (res := rsV) (as := [.ref 0, .long a1, .long a3]) (go_X3_tellChance N a1 a3 u) (by decide) rfl (Nat.le_of_ble_eq_true rfl)
theorem mw_X3_odds : xMv yX3_odds cX3_odds 9 (some .int) 2 := xMv_of (p1 := 737) (p2 := 735) (p3 := 92) (p4 := 736) (by decide +kernel)
/-! NeitherBare.odds(II)I (0, None, None) -/
abbrev md_X3_odds : xMd := (cX3_odds, RX3, 9, some .int, 6)
def f_X3_odds_L21 (N : Nat) (u : xN) : Option (Int32 × xN) := some ((-1 : Int32), u)
set_option maxRecDepth 20000 in
theorem go_X3_odds_L21 (N : Nat) (u : xN) : xGm md_X3_odds rsM (f_X3_odds_L21 N u) 21 [] [] (xU u) := by
  unfold f_X3_odds_L21
  refine xm_blk0 (pc' := 22) (lv' := []) (st' := [.int (-1 : Int32)]) (u' := (xU u)) [(.iconst (-1), (0, 0, 0), -1, 0)] (by decide +kernel) rfl ?_
  exact xm_iret (pc := 22) (by decide +kernel) rfl rfl
def f_X3_odds_L61b (N : Nat) (rec61 : Int32 → Int32 → Int64 → Int64 → Int32 → xN → Option (Int32 × xN)) (v2 : Int32) (v3 : Int32) (v4 : Int64) (v6 : Int64) (v8 : Int32) (u : xN) : Option (Int32 × xN) := if v3 ≤ v8 then Option.bind (f_X3_tellChance N v4 v6 u) (fun r93 => some ((1 : Int32), r93)) else rec61 v2 v3 (v4 * (Int32.toInt64 v2)) (v6 * (12 : Int64)) (v8 + (1 : Int32)) u
set_option maxRecDepth 20000 in
theorem go_X3_odds_L61b (N : Nat) (rec61 : Int32 → Int32 → Int64 → Int64 → Int32 → xN → Option (Int32 × xN)) (h61 : ∀ (v2 : Int32) (v3 : Int32) (v4 : Int64) (v6 : Int64) (v8 : Int32) (u : xN), xGm md_X3_odds rsM (rec61 v2 v3 v4 v6 v8 u) 61 [(0, .ref 0), (2, .int v2), (3, .int v3), (4, .long v4), (6, .long v6), (8, .int v8)] [] (xU u)) (v2 : Int32) (v3 : Int32) (v4 : Int64) (v6 : Int64) (v8 : Int32) (u : xN) : xGm md_X3_odds rsM (f_X3_odds_L61b N rec61 v2 v3 v4 v6 v8 u) 61 [(0, .ref 0), (2, .int v2), (3, .int v3), (4, .long v4), (6, .long v6), (8, .int v8)] [] (xU u) := by
  unfold f_X3_odds_L61b
  refine xm_blk0 (pc' := 64) (lv' := [(0, .ref 0), (2, .int v2), (3, .int v3), (4, .long v4), (6, .long v6), (8, .int v8)]) (st' := [.int v3, .int v8]) (u' := (xU u)) [(.iload 8, (0, 0, 0), 0, 0), (.iload_n 3, (0, 0, 0), 0, 0)] (by decide +kernel) rfl ?_
  refine xm_icmp_ge (pc := 64) (off := 24) (tgt := 88) (by decide +kernel) (by decide) ?_ ?_
  · refine xm_blk0 (pc' := 93) (lv' := [(0, .ref 0), (2, .int v2), (3, .int v3), (4, .long v4), (6, .long v6), (8, .int v8)]) (st' := [.long v6, .long v4, .ref 0]) (u' := (xU u)) [(.aload_n 0, (0, 0, 0), 0, 0), (.lload 4, (0, 0, 0), 0, 0), (.lload 6, (0, 0, 0), 0, 0)] (by decide +kernel) rfl ?_
    refine xm_Vv (pc := 93) (mz := md_X3_tellChance) (idx := 295) (p1 := 739) (a := 0) (as := [.long v4, .long v6]) (st := []) (ev_X3_tellChance N v4 v6 u) mw_X3_tellChance (by decide +kernel) (by decide +kernel) (by decide) rfl rfl (by decide) rfl (Nat.le_of_ble_eq_true rfl) (fun r93 => ?_)
    refine xm_blk0 (pc' := 97) (lv' := [(0, .ref 0), (2, .int v2), (3, .int v3), (4, .long v4), (6, .long v6), (8, .int v8)]) (st' := [.int (1 : Int32)]) (u' := (xU r93)) [(.iconst 1, (0, 0, 0), 1, 0)] (by decide +kernel) rfl ?_
    exact xm_iret (pc := 97) (by decide +kernel) rfl rfl
  · refine xm_blk0 (pc' := 85) (lv' := [(0, .ref 0), (2, .int v2), (3, .int v3), (4, .long (v4 * (Int32.toInt64 v2))), (6, .long (v6 * (12 : Int64))), (8, .int (v8 + (1 : Int32)))]) (st' := []) (u' := (xU u)) [(.lload 4, (0, 0, 0), 0, 0), (.iload_n 2, (0, 0, 0), 0, 0), (.i2l, (0, 0, 0), 0, 0), (.lmul, (0, 0, 0), 0, 0), (.lstore 4, (0, 0, 0), 0, 0), (.lload 6, (0, 0, 0), 0, 0), (.ldc2_w 293, (0, 0, 738), 0, 12), (.lmul, (0, 0, 0), 0, 0), (.lstore 6, (0, 0, 0), 0, 0), (.iinc 8 1, (0, 0, 0), 1, 0)] (by decide +kernel) rfl ?_
    refine xm_goto (pc := 85) (off := -24) (tgt := 61) (by decide +kernel) (by decide) ?_
    exact h61 v2 v3 (v4 * (Int32.toInt64 v2)) (v6 * (12 : Int64)) (v8 + (1 : Int32)) u
def f_X3_odds_L61 (N : Nat) : Nat → Int32 → Int32 → Int64 → Int64 → Int32 → xN → Option (Int32 × xN)
  | 0 => fun _ _ _ _ _ _ => none
  | n + 1 => fun v2 v3 v4 v6 v8 u => f_X3_odds_L61b N (f_X3_odds_L61 N n) v2 v3 v4 v6 v8 u
theorem go_X3_odds_L61 (N : Nat) : ∀ (n : Nat) (v2 : Int32) (v3 : Int32) (v4 : Int64) (v6 : Int64) (v8 : Int32) (u : xN), xGm md_X3_odds rsM (f_X3_odds_L61 N n v2 v3 v4 v6 v8 u) 61 [(0, .ref 0), (2, .int v2), (3, .int v3), (4, .long v4), (6, .long v6), (8, .int v8)] [] (xU u) := by
  intro n
  induction n with
  | zero => intro v2 v3 v4 v6 v8 u; exact xm_none
  | succ n ih => intro v2 v3 v4 v6 v8 u; exact go_X3_odds_L61b N _ ih v2 v3 v4 v6 v8 u
def f_X3_odds (N : Nat) (a1 : Int32) (a2 : Int32) (u : xN) : Option (Int32 × xN) := Option.bind (f_X0_isWay_7 a1 u) (fun r5 => if r5 = (0 : Int32) then f_X3_odds_L21 N u else if a2 < (0 : Int32) then f_X3_odds_L21 N u else if a2 ≤ (12 : Int32) then Option.bind (f_X0_heldBy_7_20 N a1 u) (fun r42 => Option.bind (f_J6_bitCount_0f7a4 ((u.1 19 1) &&& (r42 ^^^ (-1 : Int32)))) (fun r48 => f_X3_odds_L61 N N a2 r48 (1 : Int64) (1 : Int64) (0 : Int32) u)) else f_X3_odds_L21 N u)
set_option maxRecDepth 20000 in
theorem go_X3_odds (N : Nat) (a1 : Int32) (a2 : Int32) (u : xN) : xGm md_X3_odds rsM (f_X3_odds N a1 a2 u) 0 [(0, .ref 0), (1, .int a1), (2, .int a2)] [] (xU u) := by
  unfold f_X3_odds
  refine xm_blk0 (pc' := 5) (lv' := [(0, .ref 0), (1, .int a1), (2, .int a2)]) (st' := [.int a1, .ref 7]) (u' := (xU u)) [(.aload_n 0, (0, 0, 0), 0, 0), (.getfield 24, (3, 2, 208), 0, 0), (.iload_n 1, (0, 0, 0), 0, 0)] (by decide +kernel) rfl ?_
  refine xm_Vi (pc := 5) (mz := md_X0_isWay_7) (idx := 211) (p1 := 558) (a := 7) (as := [.int a1]) (st := []) (ev_X0_isWay_7 a1 u) mw_X0_isWay (by decide +kernel) (by decide +kernel) (by decide) rfl rfl (by decide) rfl (Nat.le_of_ble_eq_true rfl) (fun r5 => ?_)
  refine xm_if_eq (pc := 8) (off := 13) (tgt := 21) (by decide +kernel) (by decide) ?_ ?_
  · refine xm_wk [] (lv' := []) rfl ?_
    exact go_X3_odds_L21 N u
  · refine xm_blk0 (pc' := 12) (lv' := [(0, .ref 0), (1, .int a1), (2, .int a2)]) (st' := [.int a2]) (u' := (xU u)) [(.iload_n 2, (0, 0, 0), 0, 0)] (by decide +kernel) rfl ?_
    refine xm_if_lt (pc := 12) (off := 9) (tgt := 21) (by decide +kernel) (by decide) ?_ ?_
    · refine xm_wk [] (lv' := []) rfl ?_
      exact go_X3_odds_L21 N u
    · refine xm_blk0 (pc' := 18) (lv' := [(0, .ref 0), (1, .int a1), (2, .int a2)]) (st' := [.int (12 : Int32), .int a2]) (u' := (xU u)) [(.iload_n 2, (0, 0, 0), 0, 0), (.bipush 12, (0, 0, 0), 12, 0)] (by decide +kernel) rfl ?_
      refine xm_icmp_le (pc := 18) (off := 5) (tgt := 23) (by decide +kernel) (by decide) ?_ ?_
      · refine xm_blk0 (pc' := 42) (lv' := [(0, .ref 0), (1, .int a1), (2, .int a2)]) (st' := [.ref 20, .int a1, .ref 7, .int (u.1 19 1)]) (u' := (xU u)) [(.aload_n 0, (0, 0, 0), 0, 0), (.getfield 34, (3, 4, 210), 0, 0), (.getfield 183, (2, 1, 181), 0, 0), (.aload_n 0, (0, 0, 0), 0, 0), (.getfield 24, (3, 2, 208), 0, 0), (.iload_n 1, (0, 0, 0), 0, 0), (.aload_n 0, (0, 0, 0), 0, 0), (.getfield 34, (3, 4, 210), 0, 0), (.getfield 170, (2, 3, 185), 0, 0)] (by decide +kernel) rfl ?_
        refine xm_Vi (pc := 42) (mz := md_X0_heldBy_7_20) (idx := 220) (p1 := 571) (a := 7) (as := [.int a1, .ref 20]) (st := [.int (u.1 19 1)]) (ev_X0_heldBy_7_20 N a1 u) mw_X0_heldBy (by decide +kernel) (by decide +kernel) (by decide) rfl rfl (by decide) rfl (Nat.le_of_ble_eq_true rfl) (fun r42 => ?_)
        refine xm_blk0 (pc' := 48) (lv' := [(0, .ref 0), (1, .int a1), (2, .int a2)]) (st' := [.int ((u.1 19 1) &&& (r42 ^^^ (-1 : Int32)))]) (u' := (xU u)) [(.iconst (-1), (0, 0, 0), -1, 0), (.ixor, (0, 0, 0), 0, 0), (.iand, (0, 0, 0), 0, 0)] (by decide +kernel) rfl ?_
        refine xm_Si (pc := 48) (mz := md_J6_bitCount_0f7a4) (idx := 186) (p1 := 509) (as := [.int ((u.1 19 1) &&& (r42 ^^^ (-1 : Int32)))]) (st := []) (ev_J6_bitCount_0f7a4 ((u.1 19 1) &&& (r42 ^^^ (-1 : Int32))) u) mw_J6_bitCount_0f7a4 (by decide +kernel) (by decide +kernel) (by decide) rfl (Nat.le_of_ble_eq_true rfl) (fun r48 => ?_)
        refine xm_blk0 (pc' := 61) (lv' := [(0, .ref 0), (1, .int a1), (2, .int a2), (3, .int r48), (4, .long (1 : Int64)), (6, .long (1 : Int64)), (8, .int (0 : Int32))]) (st' := []) (u' := (xU u)) [(.istore_n 3, (0, 0, 0), 0, 0), (.lconst 1, (0, 0, 0), 0, 1), (.lstore 4, (0, 0, 0), 0, 0), (.lconst 1, (0, 0, 0), 0, 1), (.lstore 6, (0, 0, 0), 0, 0), (.iconst 0, (0, 0, 0), 0, 0), (.istore 8, (0, 0, 0), 0, 0)] (by decide +kernel) rfl ?_
        refine xm_wk [0, 2, 3, 4, 5, 6] (lv' := [(0, .ref 0), (2, .int a2), (3, .int r48), (4, .long (1 : Int64)), (6, .long (1 : Int64)), (8, .int (0 : Int32))]) rfl ?_
        exact go_X3_odds_L61 N N a2 r48 (1 : Int64) (1 : Int64) (0 : Int32) u
      · refine xm_wk [] (lv' := []) rfl ?_
        exact go_X3_odds_L21 N u
theorem ev_X3_odds (N : Nat) (a1 : Int32) (a2 : Int32) (u : xN) : ∀ r, f_X3_odds N a1 a2 u = some r → xEm md_X3_odds yX3_odds [.ref 0, .int a1, .int a2] (xU u) (some (.int r.1), xU r.2) := xm_met (res := rsM) (as := [.ref 0, .int a1, .int a2]) (go_X3_odds N a1 a2 u) (by decide) rfl (Nat.le_of_ble_eq_true rfl)
theorem mw_X3_luck : xMv yX3_luck cX3_luck 3 (some .int) 0 := xMv_of (p1 := 746) (p2 := 744) (p3 := 92) (p4 := 745) (by decide +kernel)
/-! NeitherBare.luck()I (0,) -/
abbrev md_X3_luck : xMd := (cX3_luck, RX3, 3, some .int, 7)
def f_X3_luck_L39 (N : Nat) (rec17 : Int32 → Int32 → xN → Option (Int32 × xN)) (v1 : Int32) (v2 : Int32) (u : xN) : Option (Int32 × xN) := rec17 v1 (v2 + (1 : Int32)) u
set_option maxRecDepth 20000 in
theorem go_X3_luck_L39 (N : Nat) (rec17 : Int32 → Int32 → xN → Option (Int32 × xN)) (h17 : ∀ (v1 : Int32) (v2 : Int32) (u : xN), xGm md_X3_luck rsM (rec17 v1 v2 u) 17 [(0, .ref 0), (1, .int v1), (2, .int v2)] [] (xU u)) (v1 : Int32) (v2 : Int32) (u : xN) : xGm md_X3_luck rsM (f_X3_luck_L39 N rec17 v1 v2 u) 39 [(0, .ref 0), (1, .int v1), (2, .int v2)] [] (xU u) := by
  unfold f_X3_luck_L39
  refine xm_blk0 (pc' := 42) (lv' := [(0, .ref 0), (1, .int v1), (2, .int (v2 + (1 : Int32)))]) (st' := []) (u' := (xU u)) [(.iinc 2 1, (0, 0, 0), 1, 0)] (by decide +kernel) rfl ?_
  refine xm_goto (pc := 42) (off := -25) (tgt := 17) (by decide +kernel) (by decide) ?_
  exact h17 v1 (v2 + (1 : Int32)) u
def f_X3_luck_L17b (N : Nat) (rec17 : Int32 → Int32 → xN → Option (Int32 × xN)) (v1 : Int32) (v2 : Int32) (u : xN) : Option (Int32 × xN) := Option.bind (f_X0_ways_7 u) (fun r22 => if r22 ≤ v2 then Option.bind (f_X0_ways_7 u) (fun r52 => Option.bind (f_X3_tellChance N (Int32.toInt64 v1) (Int32.toInt64 r52) u) (fun r56 => some ((1 : Int32), r56))) else Option.bind (f_X3_isGood N v2 u) (fun r30 => if r30 = (0 : Int32) then f_X3_luck_L39 N rec17 v1 v2 u else f_X3_luck_L39 N rec17 (v1 + (1 : Int32)) v2 u))
set_option maxRecDepth 20000 in
theorem go_X3_luck_L17b (N : Nat) (rec17 : Int32 → Int32 → xN → Option (Int32 × xN)) (h17 : ∀ (v1 : Int32) (v2 : Int32) (u : xN), xGm md_X3_luck rsM (rec17 v1 v2 u) 17 [(0, .ref 0), (1, .int v1), (2, .int v2)] [] (xU u)) (v1 : Int32) (v2 : Int32) (u : xN) : xGm md_X3_luck rsM (f_X3_luck_L17b N rec17 v1 v2 u) 17 [(0, .ref 0), (1, .int v1), (2, .int v2)] [] (xU u) := by
  unfold f_X3_luck_L17b
  refine xm_blk0 (pc' := 22) (lv' := [(0, .ref 0), (1, .int v1), (2, .int v2)]) (st' := [.ref 7, .int v2]) (u' := (xU u)) [(.iload_n 2, (0, 0, 0), 0, 0), (.aload_n 0, (0, 0, 0), 0, 0), (.getfield 24, (3, 2, 208), 0, 0)] (by decide +kernel) rfl ?_
  refine xm_Vi (pc := 22) (mz := md_X0_ways_7) (idx := 231) (p1 := 430) (a := 7) (as := []) (st := [.int v2]) (ev_X0_ways_7 u) mw_X0_ways (by decide +kernel) (by decide +kernel) (by decide) rfl rfl (by decide) rfl (Nat.le_of_ble_eq_true rfl) (fun r22 => ?_)
  refine xm_icmp_ge (pc := 25) (off := 20) (tgt := 45) (by decide +kernel) (by decide) ?_ ?_
  · refine xm_blk0 (pc' := 52) (lv' := [(0, .ref 0), (1, .int v1), (2, .int v2)]) (st' := [.ref 7, .long (Int32.toInt64 v1), .ref 0]) (u' := (xU u)) [(.aload_n 0, (0, 0, 0), 0, 0), (.iload_n 1, (0, 0, 0), 0, 0), (.i2l, (0, 0, 0), 0, 0), (.aload_n 0, (0, 0, 0), 0, 0), (.getfield 24, (3, 2, 208), 0, 0)] (by decide +kernel) rfl ?_
    refine xm_Vi (pc := 52) (mz := md_X0_ways_7) (idx := 231) (p1 := 430) (a := 7) (as := []) (st := [.long (Int32.toInt64 v1), .ref 0]) (ev_X0_ways_7 u) mw_X0_ways (by decide +kernel) (by decide +kernel) (by decide) rfl rfl (by decide) rfl (Nat.le_of_ble_eq_true rfl) (fun r52 => ?_)
    refine xm_blk0 (pc' := 56) (lv' := [(0, .ref 0), (1, .int v1), (2, .int v2)]) (st' := [.long (Int32.toInt64 r52), .long (Int32.toInt64 v1), .ref 0]) (u' := (xU u)) [(.i2l, (0, 0, 0), 0, 0)] (by decide +kernel) rfl ?_
    refine xm_Vv (pc := 56) (mz := md_X3_tellChance) (idx := 295) (p1 := 739) (a := 0) (as := [.long (Int32.toInt64 v1), .long (Int32.toInt64 r52)]) (st := []) (ev_X3_tellChance N (Int32.toInt64 v1) (Int32.toInt64 r52) u) mw_X3_tellChance (by decide +kernel) (by decide +kernel) (by decide) rfl rfl (by decide) rfl (Nat.le_of_ble_eq_true rfl) (fun r56 => ?_)
    refine xm_blk0 (pc' := 60) (lv' := [(0, .ref 0), (1, .int v1), (2, .int v2)]) (st' := [.int (1 : Int32)]) (u' := (xU r56)) [(.iconst 1, (0, 0, 0), 1, 0)] (by decide +kernel) rfl ?_
    exact xm_iret (pc := 60) (by decide +kernel) rfl rfl
  · refine xm_blk0 (pc' := 30) (lv' := [(0, .ref 0), (1, .int v1), (2, .int v2)]) (st' := [.int v2, .ref 0]) (u' := (xU u)) [(.aload_n 0, (0, 0, 0), 0, 0), (.iload_n 2, (0, 0, 0), 0, 0)] (by decide +kernel) rfl ?_
    refine xm_Vi (pc := 30) (mz := md_X3_isGood) (idx := 238) (p1 := 608) (a := 0) (as := [.int v2]) (st := []) (ev_X3_isGood N v2 u) mw_X3_isGood (by decide +kernel) (by decide +kernel) (by decide) rfl rfl (by decide) rfl (Nat.le_of_ble_eq_true rfl) (fun r30 => ?_)
    refine xm_if_eq (pc := 33) (off := 6) (tgt := 39) (by decide +kernel) (by decide) ?_ ?_
    · exact go_X3_luck_L39 N rec17 h17 v1 v2 u
    · refine xm_blk0 (pc' := 39) (lv' := [(0, .ref 0), (1, .int (v1 + (1 : Int32))), (2, .int v2)]) (st' := []) (u' := (xU u)) [(.iinc 1 1, (0, 0, 0), 1, 0)] (by decide +kernel) rfl ?_
      exact go_X3_luck_L39 N rec17 h17 (v1 + (1 : Int32)) v2 u
def f_X3_luck_L17 (N : Nat) : Nat → Int32 → Int32 → xN → Option (Int32 × xN)
  | 0 => fun _ _ _ => none
  | n + 1 => fun v1 v2 u => f_X3_luck_L17b N (f_X3_luck_L17 N n) v1 v2 u
theorem go_X3_luck_L17 (N : Nat) : ∀ (n : Nat) (v1 : Int32) (v2 : Int32) (u : xN), xGm md_X3_luck rsM (f_X3_luck_L17 N n v1 v2 u) 17 [(0, .ref 0), (1, .int v1), (2, .int v2)] [] (xU u) := by
  intro n
  induction n with
  | zero => intro v1 v2 u; exact xm_none
  | succ n ih => intro v1 v2 u; exact go_X3_luck_L17b N _ ih v1 v2 u
def f_X3_luck (N : Nat) (u : xN) : Option (Int32 × xN) := if (u.1 7 0) = (0 : Int32) then some ((-4 : Int32), u) else f_X3_luck_L17 N N (0 : Int32) (0 : Int32) u
set_option maxRecDepth 20000 in
theorem go_X3_luck (N : Nat) (u : xN) : xGm md_X3_luck rsM (f_X3_luck N u) 0 [(0, .ref 0)] [] (xU u) := by
  unfold f_X3_luck
  refine xm_blk0 (pc' := 7) (lv' := [(0, .ref 0)]) (st' := [.int (u.1 7 0)]) (u' := (xU u)) [(.aload_n 0, (0, 0, 0), 0, 0), (.getfield 24, (3, 2, 208), 0, 0), (.getfield 119, (0, 0, 143), 0, 0)] (by decide +kernel) rfl ?_
  refine xm_if_ne (pc := 7) (off := 6) (tgt := 13) (by decide +kernel) (by decide) ?_ ?_
  · refine xm_blk0 (pc' := 17) (lv' := [(0, .ref 0), (1, .int (0 : Int32)), (2, .int (0 : Int32))]) (st' := []) (u' := (xU u)) [(.iconst 0, (0, 0, 0), 0, 0), (.istore_n 1, (0, 0, 0), 0, 0), (.iconst 0, (0, 0, 0), 0, 0), (.istore_n 2, (0, 0, 0), 0, 0)] (by decide +kernel) rfl ?_
    exact go_X3_luck_L17 N N (0 : Int32) (0 : Int32) u
  · refine xm_blk0 (pc' := 12) (lv' := [(0, .ref 0)]) (st' := [.int (-4 : Int32)]) (u' := (xU u)) [(.bipush (-4), (0, 0, 0), -4, 0)] (by decide +kernel) rfl ?_
    exact xm_iret (pc := 12) (by decide +kernel) rfl rfl
theorem ev_X3_luck (N : Nat) (u : xN) : ∀ r, f_X3_luck N u = some r → xEm md_X3_luck yX3_luck [.ref 0] (xU u) (some (.int r.1), xU r.2) := xm_met (res := rsM) (as := [.ref 0]) (go_X3_luck N u) (by decide) rfl (Nat.le_of_ble_eq_true rfl)
theorem mw_X3_lots : xMv yX3_lots cX3_lots 8 (some .int) 2 := xMv_of (p1 := 750) (p2 := 748) (p3 := 92) (p4 := 749) (by decide +kernel)
/-! NeitherBare.lots(II)I (0, None, None) -/
abbrev md_X3_lots : xMd := (cX3_lots, RX3, 8, some .int, 7)
def f_X3_lots_L25 (N : Nat) (u : xN) : Option Int32 := some (-1 : Int32)
set_option maxRecDepth 20000 in
theorem go_X3_lots_L25 (N : Nat) (u : xN) : xGm md_X3_lots (rsI (xU u)) (f_X3_lots_L25 N u) 25 [] [] (xU u) := by
  unfold f_X3_lots_L25
  refine xm_blk0 (pc' := 26) (lv' := []) (st' := [.int (-1 : Int32)]) (u' := (xU u)) [(.iconst (-1), (0, 0, 0), -1, 0)] (by decide +kernel) rfl ?_
  exact xm_iret (pc := 26) (by decide +kernel) rfl rfl
def f_X3_lots_L95 (N : Nat) (u : xN) (rec49 : Int32 → Int64 → Int32 → Int32 → Option Int32) (v1 : Int32) (v3 : Int64) (v5 : Int32) (v6 : Int32) : Option Int32 := rec49 v1 v3 v5 (v6 + (1 : Int32))
set_option maxRecDepth 20000 in
theorem go_X3_lots_L95 (N : Nat) (u : xN) (rec49 : Int32 → Int64 → Int32 → Int32 → Option Int32) (h49 : ∀ (v1 : Int32) (v3 : Int64) (v5 : Int32) (v6 : Int32), xGm md_X3_lots (rsI (xU u)) (rec49 v1 v3 v5 v6) 49 [(0, .ref 0), (1, .int v1), (3, .long v3), (5, .int v5), (6, .int v6)] [] (xU u)) (v1 : Int32) (v3 : Int64) (v5 : Int32) (v6 : Int32) : xGm md_X3_lots (rsI (xU u)) (f_X3_lots_L95 N u rec49 v1 v3 v5 v6) 95 [(0, .ref 0), (1, .int v1), (3, .long v3), (5, .int v5), (6, .int v6)] [] (xU u) := by
  unfold f_X3_lots_L95
  refine xm_blk0 (pc' := 98) (lv' := [(0, .ref 0), (1, .int v1), (3, .long v3), (5, .int v5), (6, .int (v6 + (1 : Int32)))]) (st' := []) (u' := (xU u)) [(.iinc 6 1, (0, 0, 0), 1, 0)] (by decide +kernel) rfl ?_
  refine xm_goto (pc := 98) (off := -49) (tgt := 49) (by decide +kernel) (by decide) ?_
  exact h49 v1 v3 v5 (v6 + (1 : Int32))
def f_X3_lots_L49b (N : Nat) (u : xN) (rec49 : Int32 → Int64 → Int32 → Int32 → Option Int32) (v1 : Int32) (v3 : Int64) (v5 : Int32) (v6 : Int32) : Option Int32 := if v1 ≤ v6 then some v5 else gdl [nzl (2147483647 : Int64), nzl (16 : Int64)] (Option.bind (f_X0_ways_7 u) (fun r75 => Option.bind (f_X3_isGood N ((Int64.toInt32 (((v3 * (48271 : Int64)) - (v3 * (48271 : Int64)) / (2147483647 : Int64) * (2147483647 : Int64)) / (16 : Int64))) &&& (r75 - (1 : Int32))) u) (fun r86 => if r86 = (0 : Int32) then f_X3_lots_L95 N u rec49 v1 ((v3 * (48271 : Int64)) - (v3 * (48271 : Int64)) / (2147483647 : Int64) * (2147483647 : Int64)) v5 v6 else f_X3_lots_L95 N u rec49 v1 ((v3 * (48271 : Int64)) - (v3 * (48271 : Int64)) / (2147483647 : Int64) * (2147483647 : Int64)) (v5 + (1 : Int32)) v6)))
set_option maxRecDepth 20000 in
theorem go_X3_lots_L49b (N : Nat) (u : xN) (rec49 : Int32 → Int64 → Int32 → Int32 → Option Int32) (h49 : ∀ (v1 : Int32) (v3 : Int64) (v5 : Int32) (v6 : Int32), xGm md_X3_lots (rsI (xU u)) (rec49 v1 v3 v5 v6) 49 [(0, .ref 0), (1, .int v1), (3, .long v3), (5, .int v5), (6, .int v6)] [] (xU u)) (v1 : Int32) (v3 : Int64) (v5 : Int32) (v6 : Int32) : xGm md_X3_lots (rsI (xU u)) (f_X3_lots_L49b N u rec49 v1 v3 v5 v6) 49 [(0, .ref 0), (1, .int v1), (3, .long v3), (5, .int v5), (6, .int v6)] [] (xU u) := by
  unfold f_X3_lots_L49b
  refine xm_blk0 (pc' := 52) (lv' := [(0, .ref 0), (1, .int v1), (3, .long v3), (5, .int v5), (6, .int v6)]) (st' := [.int v1, .int v6]) (u' := (xU u)) [(.iload 6, (0, 0, 0), 0, 0), (.iload_n 1, (0, 0, 0), 0, 0)] (by decide +kernel) rfl ?_
  refine xm_icmp_ge (pc := 52) (off := 49) (tgt := 101) (by decide +kernel) (by decide) ?_ ?_
  · refine xm_blk0 (pc' := 103) (lv' := [(0, .ref 0), (1, .int v1), (3, .long v3), (5, .int v5), (6, .int v6)]) (st' := [.int v5]) (u' := (xU u)) [(.iload 5, (0, 0, 0), 0, 0)] (by decide +kernel) rfl ?_
    exact xm_iret (pc := 103) (by decide +kernel) rfl rfl
  · refine xm_blk (bs := [nzl (2147483647 : Int64), nzl (16 : Int64)]) (pc' := 75) (lv' := [(0, .ref 0), (1, .int v1), (3, .long ((v3 * (48271 : Int64)) - (v3 * (48271 : Int64)) / (2147483647 : Int64) * (2147483647 : Int64))), (5, .int v5), (6, .int v6)]) (st' := [.ref 7, .int (Int64.toInt32 (((v3 * (48271 : Int64)) - (v3 * (48271 : Int64)) / (2147483647 : Int64) * (2147483647 : Int64)) / (16 : Int64)))]) (u' := (xU u)) [(.lload_n 3, (0, 0, 0), 0, 0), (.ldc2_w 301, (0, 0, 752), 0, 48271), (.lmul, (0, 0, 0), 0, 0), (.ldc2_w 299, (0, 0, 751), 0, 2147483647), (.lrem, (0, 0, 0), 0, 0), (.lstore_n 3, (0, 0, 0), 0, 0), (.lload_n 3, (0, 0, 0), 0, 0), (.ldc2_w 303, (0, 0, 753), 0, 16), (.ldiv, (0, 0, 0), 0, 0), (.l2i, (0, 0, 0), 0, 0), (.aload_n 0, (0, 0, 0), 0, 0), (.getfield 24, (3, 2, 208), 0, 0)] (by decide +kernel) rfl ?_
    refine xm_Vi (pc := 75) (mz := md_X0_ways_7) (idx := 231) (p1 := 430) (a := 7) (as := []) (st := [.int (Int64.toInt32 (((v3 * (48271 : Int64)) - (v3 * (48271 : Int64)) / (2147483647 : Int64) * (2147483647 : Int64)) / (16 : Int64)))]) (ev_X0_ways_7 u) mw_X0_ways (by decide +kernel) (by decide +kernel) (by decide) rfl rfl (by decide) rfl (Nat.le_of_ble_eq_true rfl) (fun r75 => ?_)
    refine xm_blk0 (pc' := 86) (lv' := [(0, .ref 0), (1, .int v1), (3, .long ((v3 * (48271 : Int64)) - (v3 * (48271 : Int64)) / (2147483647 : Int64) * (2147483647 : Int64))), (5, .int v5), (6, .int v6), (7, .int ((Int64.toInt32 (((v3 * (48271 : Int64)) - (v3 * (48271 : Int64)) / (2147483647 : Int64) * (2147483647 : Int64)) / (16 : Int64))) &&& (r75 - (1 : Int32))))]) (st' := [.int ((Int64.toInt32 (((v3 * (48271 : Int64)) - (v3 * (48271 : Int64)) / (2147483647 : Int64) * (2147483647 : Int64)) / (16 : Int64))) &&& (r75 - (1 : Int32))), .ref 0]) (u' := (xU u)) [(.iconst 1, (0, 0, 0), 1, 0), (.isub, (0, 0, 0), 0, 0), (.iand, (0, 0, 0), 0, 0), (.istore 7, (0, 0, 0), 0, 0), (.aload_n 0, (0, 0, 0), 0, 0), (.iload 7, (0, 0, 0), 0, 0)] (by decide +kernel) rfl ?_
    refine xm_Vi (pc := 86) (mz := md_X3_isGood) (idx := 238) (p1 := 608) (a := 0) (as := [.int ((Int64.toInt32 (((v3 * (48271 : Int64)) - (v3 * (48271 : Int64)) / (2147483647 : Int64) * (2147483647 : Int64)) / (16 : Int64))) &&& (r75 - (1 : Int32)))]) (st := []) (ev_X3_isGood N ((Int64.toInt32 (((v3 * (48271 : Int64)) - (v3 * (48271 : Int64)) / (2147483647 : Int64) * (2147483647 : Int64)) / (16 : Int64))) &&& (r75 - (1 : Int32))) u) mw_X3_isGood (by decide +kernel) (by decide +kernel) (by decide) rfl rfl (by decide) rfl (Nat.le_of_ble_eq_true rfl) (fun r86 => ?_)
    refine xm_if_eq (pc := 89) (off := 6) (tgt := 95) (by decide +kernel) (by decide) ?_ ?_
    · refine xm_wk [0, 1, 2, 3, 4] (lv' := [(0, .ref 0), (1, .int v1), (3, .long ((v3 * (48271 : Int64)) - (v3 * (48271 : Int64)) / (2147483647 : Int64) * (2147483647 : Int64))), (5, .int v5), (6, .int v6)]) rfl ?_
      exact go_X3_lots_L95 N u rec49 h49 v1 ((v3 * (48271 : Int64)) - (v3 * (48271 : Int64)) / (2147483647 : Int64) * (2147483647 : Int64)) v5 v6
    · refine xm_blk0 (pc' := 95) (lv' := [(0, .ref 0), (1, .int v1), (3, .long ((v3 * (48271 : Int64)) - (v3 * (48271 : Int64)) / (2147483647 : Int64) * (2147483647 : Int64))), (5, .int (v5 + (1 : Int32))), (6, .int v6), (7, .int ((Int64.toInt32 (((v3 * (48271 : Int64)) - (v3 * (48271 : Int64)) / (2147483647 : Int64) * (2147483647 : Int64)) / (16 : Int64))) &&& (r75 - (1 : Int32))))]) (st' := []) (u' := (xU u)) [(.iinc 5 1, (0, 0, 0), 1, 0)] (by decide +kernel) rfl ?_
      refine xm_wk [0, 1, 2, 3, 4] (lv' := [(0, .ref 0), (1, .int v1), (3, .long ((v3 * (48271 : Int64)) - (v3 * (48271 : Int64)) / (2147483647 : Int64) * (2147483647 : Int64))), (5, .int (v5 + (1 : Int32))), (6, .int v6)]) rfl ?_
      exact go_X3_lots_L95 N u rec49 h49 v1 ((v3 * (48271 : Int64)) - (v3 * (48271 : Int64)) / (2147483647 : Int64) * (2147483647 : Int64)) (v5 + (1 : Int32)) v6
def f_X3_lots_L49 (N : Nat) (u : xN) : Nat → Int32 → Int64 → Int32 → Int32 → Option Int32
  | 0 => fun _ _ _ _ => none
  | n + 1 => fun v1 v3 v5 v6 => f_X3_lots_L49b N u (f_X3_lots_L49 N u n) v1 v3 v5 v6
theorem go_X3_lots_L49 (N : Nat) (u : xN) : ∀ (n : Nat) (v1 : Int32) (v3 : Int64) (v5 : Int32) (v6 : Int32), xGm md_X3_lots (rsI (xU u)) (f_X3_lots_L49 N u n v1 v3 v5 v6) 49 [(0, .ref 0), (1, .int v1), (3, .long v3), (5, .int v5), (6, .int v6)] [] (xU u) := by
  intro n
  induction n with
  | zero => intro v1 v3 v5 v6; exact xm_none
  | succ n ih => intro v1 v3 v5 v6; exact go_X3_lots_L49b N u _ ih v1 v3 v5 v6
def f_X3_lots (N : Nat) (a1 : Int32) (a2 : Int32) (u : xN) : Option Int32 := if a1 < (1 : Int32) then f_X3_lots_L25 N u else if (40 : Int32) < a1 then f_X3_lots_L25 N u else if a2 < (1 : Int32) then f_X3_lots_L25 N u else if (lg_cmp (Int32.toInt64 a2) (2147483647 : Int64)) < (0 : Int32) then (if (u.1 7 0) = (0 : Int32) then some (-4 : Int32) else f_X3_lots_L49 N u N a1 (Int32.toInt64 a2) (0 : Int32) (0 : Int32)) else f_X3_lots_L25 N u
set_option maxRecDepth 20000 in
theorem go_X3_lots (N : Nat) (a1 : Int32) (a2 : Int32) (u : xN) : xGm md_X3_lots (rsI (xU u)) (f_X3_lots N a1 a2 u) 0 [(0, .ref 0), (1, .int a1), (2, .int a2)] [] (xU u) := by
  unfold f_X3_lots
  refine xm_blk0 (pc' := 2) (lv' := [(0, .ref 0), (1, .int a1), (2, .int a2)]) (st' := [.int (1 : Int32), .int a1]) (u' := (xU u)) [(.iload_n 1, (0, 0, 0), 0, 0), (.iconst 1, (0, 0, 0), 1, 0)] (by decide +kernel) rfl ?_
  refine xm_icmp_lt (pc := 2) (off := 23) (tgt := 25) (by decide +kernel) (by decide) ?_ ?_
  · refine xm_wk [] (lv' := []) rfl ?_
    exact go_X3_lots_L25 N u
  · refine xm_blk0 (pc' := 8) (lv' := [(0, .ref 0), (1, .int a1), (2, .int a2)]) (st' := [.int (40 : Int32), .int a1]) (u' := (xU u)) [(.iload_n 1, (0, 0, 0), 0, 0), (.bipush 40, (0, 0, 0), 40, 0)] (by decide +kernel) rfl ?_
    refine xm_icmp_gt (pc := 8) (off := 17) (tgt := 25) (by decide +kernel) (by decide) ?_ ?_
    · refine xm_wk [] (lv' := []) rfl ?_
      exact go_X3_lots_L25 N u
    · refine xm_blk0 (pc' := 13) (lv' := [(0, .ref 0), (1, .int a1), (2, .int a2)]) (st' := [.int (1 : Int32), .int a2]) (u' := (xU u)) [(.iload_n 2, (0, 0, 0), 0, 0), (.iconst 1, (0, 0, 0), 1, 0)] (by decide +kernel) rfl ?_
      refine xm_icmp_lt (pc := 13) (off := 12) (tgt := 25) (by decide +kernel) (by decide) ?_ ?_
      · refine xm_wk [] (lv' := []) rfl ?_
        exact go_X3_lots_L25 N u
      · refine xm_blk0 (pc' := 22) (lv' := [(0, .ref 0), (1, .int a1), (2, .int a2)]) (st' := [.int (lg_cmp (Int32.toInt64 a2) (2147483647 : Int64))]) (u' := (xU u)) [(.iload_n 2, (0, 0, 0), 0, 0), (.i2l, (0, 0, 0), 0, 0), (.ldc2_w 299, (0, 0, 751), 0, 2147483647), (.lcmp, (0, 0, 0), 0, 0)] (by decide +kernel) rfl ?_
        refine xm_if_lt (pc := 22) (off := 5) (tgt := 27) (by decide +kernel) (by decide) ?_ ?_
        · refine xm_blk0 (pc' := 34) (lv' := [(0, .ref 0), (1, .int a1), (2, .int a2)]) (st' := [.int (u.1 7 0)]) (u' := (xU u)) [(.aload_n 0, (0, 0, 0), 0, 0), (.getfield 24, (3, 2, 208), 0, 0), (.getfield 119, (0, 0, 143), 0, 0)] (by decide +kernel) rfl ?_
          refine xm_if_ne (pc := 34) (off := 6) (tgt := 40) (by decide +kernel) (by decide) ?_ ?_
          · refine xm_blk0 (pc' := 49) (lv' := [(0, .ref 0), (1, .int a1), (2, .int a2), (3, .long (Int32.toInt64 a2)), (5, .int (0 : Int32)), (6, .int (0 : Int32))]) (st' := []) (u' := (xU u)) [(.iload_n 2, (0, 0, 0), 0, 0), (.i2l, (0, 0, 0), 0, 0), (.lstore_n 3, (0, 0, 0), 0, 0), (.iconst 0, (0, 0, 0), 0, 0), (.istore 5, (0, 0, 0), 0, 0), (.iconst 0, (0, 0, 0), 0, 0), (.istore 6, (0, 0, 0), 0, 0)] (by decide +kernel) rfl ?_
            refine xm_wk [0, 1, 3, 4, 5] (lv' := [(0, .ref 0), (1, .int a1), (3, .long (Int32.toInt64 a2)), (5, .int (0 : Int32)), (6, .int (0 : Int32))]) rfl ?_
            exact go_X3_lots_L49 N u N a1 (Int32.toInt64 a2) (0 : Int32) (0 : Int32)
          · refine xm_blk0 (pc' := 39) (lv' := [(0, .ref 0), (1, .int a1), (2, .int a2)]) (st' := [.int (-4 : Int32)]) (u' := (xU u)) [(.bipush (-4), (0, 0, 0), -4, 0)] (by decide +kernel) rfl ?_
            exact xm_iret (pc := 39) (by decide +kernel) rfl rfl
        · refine xm_wk [] (lv' := []) rfl ?_
          exact go_X3_lots_L25 N u
theorem ev_X3_lots (N : Nat) (a1 : Int32) (a2 : Int32) (u : xN) : ∀ r, f_X3_lots N a1 a2 u = some r → xEm md_X3_lots yX3_lots [.ref 0, .int a1, .int a2] (xU u) (some (.int r), (xU u)) := xm_met (res := (rsI (xU u))) (as := [.ref 0, .int a1, .int a2]) (go_X3_lots N a1 a2 u) (by decide) rfl (Nat.le_of_ble_eq_true rfl)
theorem mw_X3_asked : xMv yX3_asked cX3_asked 1 (some .int) 0 := xMv_of (p1 := 757) (p2 := 755) (p3 := 92) (p4 := 756) (by decide +kernel)
/-! NeitherBare.asked()I (0,) -/
abbrev md_X3_asked : xMd := (cX3_asked, RX3, 1, some .int, 1)
def f_X3_asked (u : xN) : Option Int32 := some (u.1 0 10)
set_option maxRecDepth 20000 in
theorem go_X3_asked (u : xN) : xGm md_X3_asked (rsI (xU u)) (f_X3_asked u) 0 [(0, .ref 0)] [] (xU u) := by
  unfold f_X3_asked
  refine xm_blk0 (pc' := 4) (lv' := [(0, .ref 0)]) (st' := [.int (u.1 0 10)]) (u' := (xU u)) [(.aload_n 0, (0, 0, 0), 0, 0), (.getfield 71, (3, 10, 216), 0, 0)] (by decide +kernel) rfl ?_
  exact xm_iret (pc := 4) (by decide +kernel) rfl rfl
theorem ev_X3_asked (u : xN) : ∀ r, f_X3_asked u = some r → xEm md_X3_asked yX3_asked [.ref 0] (xU u) (some (.int r), (xU u)) := xm_met (res := (rsI (xU u))) (as := [.ref 0]) (go_X3_asked u) (by decide) rfl (Nat.le_of_ble_eq_true rfl)
theorem mw_X3_upper : xMv yX3_upper cX3_upper 1 (some .long) 0 := xMv_of (p1 := 761) (p2 := 759) (p3 := 92) (p4 := 760) (by decide +kernel)
/-! NeitherBare.upper()J (0,) -/
abbrev md_X3_upper : xMd := (cX3_upper, RX3, 1, some .long, 1)
def f_X3_upper (u : xN) : Option Int64 := some (u.2 0 11)
set_option maxRecDepth 20000 in
theorem go_X3_upper (u : xN) : xGm md_X3_upper (rsL (xU u)) (f_X3_upper u) 0 [(0, .ref 0)] [] (xU u) := by
  unfold f_X3_upper
  refine xm_blk0 (pc' := 4) (lv' := [(0, .ref 0)]) (st' := [.long (u.2 0 11)]) (u' := (xU u)) [(.aload_n 0, (0, 0, 0), 0, 0), (.getfield 305, (3, 11, 217), 0, 0)] (by decide +kernel) rfl ?_
  exact xm_lret (pc := 4) (by decide +kernel) rfl rfl
theorem ev_X3_upper (u : xN) : ∀ r, f_X3_upper u = some r → xEm md_X3_upper yX3_upper [.ref 0] (xU u) (some (.long r), (xU u)) := xm_met (res := (rsL (xU u))) (as := [.ref 0]) (go_X3_upper u) (by decide) rfl (Nat.le_of_ble_eq_true rfl)
theorem mw_X3_lower : xMv yX3_lower cX3_lower 1 (some .long) 0 := xMv_of (p1 := 765) (p2 := 763) (p3 := 92) (p4 := 764) (by decide +kernel)
/-! NeitherBare.lower()J (0,) -/
abbrev md_X3_lower : xMd := (cX3_lower, RX3, 1, some .long, 1)
def f_X3_lower (u : xN) : Option Int64 := some (u.2 0 12)
set_option maxRecDepth 20000 in
theorem go_X3_lower (u : xN) : xGm md_X3_lower (rsL (xU u)) (f_X3_lower u) 0 [(0, .ref 0)] [] (xU u) := by
  unfold f_X3_lower
  refine xm_blk0 (pc' := 4) (lv' := [(0, .ref 0)]) (st' := [.long (u.2 0 12)]) (u' := (xU u)) [(.aload_n 0, (0, 0, 0), 0, 0), (.getfield 52, (3, 12, 218), 0, 0)] (by decide +kernel) rfl ?_
  exact xm_lret (pc := 4) (by decide +kernel) rfl rfl
theorem ev_X3_lower (u : xN) : ∀ r, f_X3_lower u = some r → xEm md_X3_lower yX3_lower [.ref 0] (xU u) (some (.long r), (xU u)) := xm_met (res := (rsL (xU u))) (as := [.ref 0]) (go_X3_lower u) (by decide) rfl (Nat.le_of_ble_eq_true rfl)
theorem mw_X3_manyKept : xMv yX3_manyKept cX3_manyKept 3 (some .int) 0 := xMv_of (p1 := 786) (p2 := 785) (p3 := 92) (p4 := 38) (by decide +kernel)
/-! NeitherBare.manyKept()I (0,) -/
abbrev md_X3_manyKept : xMd := (cX3_manyKept, RX3, 3, some .int, 1)
def f_X3_manyKept_L24 (N : Nat) (u : xN) (rec4 : Int32 → Int32 → Option Int32) (v1 : Int32) (v2 : Int32) : Option Int32 := rec4 v1 (v2 + (1 : Int32))
set_option maxRecDepth 20000 in
theorem go_X3_manyKept_L24 (N : Nat) (u : xN) (rec4 : Int32 → Int32 → Option Int32) (h4 : ∀ (v1 : Int32) (v2 : Int32), xGm md_X3_manyKept (rsI (xU u)) (rec4 v1 v2) 4 [(0, .ref 0), (1, .int v1), (2, .int v2)] [] (xU u)) (v1 : Int32) (v2 : Int32) : xGm md_X3_manyKept (rsI (xU u)) (f_X3_manyKept_L24 N u rec4 v1 v2) 24 [(0, .ref 0), (1, .int v1), (2, .int v2)] [] (xU u) := by
  unfold f_X3_manyKept_L24
  refine xm_blk0 (pc' := 27) (lv' := [(0, .ref 0), (1, .int v1), (2, .int (v2 + (1 : Int32)))]) (st' := []) (u' := (xU u)) [(.iinc 2 1, (0, 0, 0), 1, 0)] (by decide +kernel) rfl ?_
  refine xm_goto (pc := 27) (off := -23) (tgt := 4) (by decide +kernel) (by decide) ?_
  exact h4 v1 (v2 + (1 : Int32))
def f_X3_manyKept_L4b (N : Nat) (u : xN) (rec4 : Int32 → Int32 → Option Int32) (v1 : Int32) (v2 : Int32) : Option Int32 := if (3 : Int32) ≤ v2 then some v1 else if v2 = (0 : Int32) then (if (u.1 24 0) = (0 : Int32) then f_X3_manyKept_L24 N u rec4 v1 v2 else f_X3_manyKept_L24 N u rec4 (v1 + (1 : Int32)) v2) else if v2 = (1 : Int32) then (if (u.1 28 0) = (0 : Int32) then f_X3_manyKept_L24 N u rec4 v1 v2 else f_X3_manyKept_L24 N u rec4 (v1 + (1 : Int32)) v2) else if v2 = (2 : Int32) then (if (u.1 32 0) = (0 : Int32) then f_X3_manyKept_L24 N u rec4 v1 v2 else f_X3_manyKept_L24 N u rec4 (v1 + (1 : Int32)) v2) else none
set_option maxRecDepth 20000 in
theorem go_X3_manyKept_L4b (N : Nat) (u : xN) (rec4 : Int32 → Int32 → Option Int32) (h4 : ∀ (v1 : Int32) (v2 : Int32), xGm md_X3_manyKept (rsI (xU u)) (rec4 v1 v2) 4 [(0, .ref 0), (1, .int v1), (2, .int v2)] [] (xU u)) (v1 : Int32) (v2 : Int32) : xGm md_X3_manyKept (rsI (xU u)) (f_X3_manyKept_L4b N u rec4 v1 v2) 4 [(0, .ref 0), (1, .int v1), (2, .int v2)] [] (xU u) := by
  unfold f_X3_manyKept_L4b
  refine xm_blk0 (pc' := 6) (lv' := [(0, .ref 0), (1, .int v1), (2, .int v2)]) (st' := [.int (3 : Int32), .int v2]) (u' := (xU u)) [(.iload_n 2, (0, 0, 0), 0, 0), (.iconst 3, (0, 0, 0), 3, 0)] (by decide +kernel) rfl ?_
  refine xm_icmp_ge (pc := 6) (off := 24) (tgt := 30) (by decide +kernel) (by decide) ?_ ?_
  · refine xm_blk0 (pc' := 31) (lv' := [(0, .ref 0), (1, .int v1), (2, .int v2)]) (st' := [.int v1]) (u' := (xU u)) [(.iload_n 1, (0, 0, 0), 0, 0)] (by decide +kernel) rfl ?_
    exact xm_iret (pc := 31) (by decide +kernel) rfl rfl
  · refine xm_blk0 (pc' := 14) (lv' := [(0, .ref 0), (1, .int v1), (2, .int v2)]) (st' := [.int v2, .ref 23]) (u' := (xU u)) [(.aload_n 0, (0, 0, 0), 0, 0), (.getfield 38, (3, 5, 211), 0, 0), (.iload_n 2, (0, 0, 0), 0, 0)] (by decide +kernel) rfl ?_
    refine xm_aald (pc := 14) (by decide +kernel) ?_ ?_ ?_
    · refine xm_blk0 (pc' := 18) (lv' := [(0, .ref 0), (1, .int v1), (2, .int v2)]) (st' := [.int (u.1 24 0)]) (u' := (xU u)) [(.getfield 116, (2, 0, 179), 0, 0)] (by decide +kernel) rfl ?_
      refine xm_if_eq (pc := 18) (off := 6) (tgt := 24) (by decide +kernel) (by decide) ?_ ?_
      · exact go_X3_manyKept_L24 N u rec4 h4 v1 v2
      · refine xm_blk0 (pc' := 24) (lv' := [(0, .ref 0), (1, .int (v1 + (1 : Int32))), (2, .int v2)]) (st' := []) (u' := (xU u)) [(.iinc 1 1, (0, 0, 0), 1, 0)] (by decide +kernel) rfl ?_
        exact go_X3_manyKept_L24 N u rec4 h4 (v1 + (1 : Int32)) v2
    · refine xm_blk0 (pc' := 18) (lv' := [(0, .ref 0), (1, .int v1), (2, .int v2)]) (st' := [.int (u.1 28 0)]) (u' := (xU u)) [(.getfield 116, (2, 0, 179), 0, 0)] (by decide +kernel) rfl ?_
      refine xm_if_eq (pc := 18) (off := 6) (tgt := 24) (by decide +kernel) (by decide) ?_ ?_
      · exact go_X3_manyKept_L24 N u rec4 h4 v1 v2
      · refine xm_blk0 (pc' := 24) (lv' := [(0, .ref 0), (1, .int (v1 + (1 : Int32))), (2, .int v2)]) (st' := []) (u' := (xU u)) [(.iinc 1 1, (0, 0, 0), 1, 0)] (by decide +kernel) rfl ?_
        exact go_X3_manyKept_L24 N u rec4 h4 (v1 + (1 : Int32)) v2
    · refine xm_blk0 (pc' := 18) (lv' := [(0, .ref 0), (1, .int v1), (2, .int v2)]) (st' := [.int (u.1 32 0)]) (u' := (xU u)) [(.getfield 116, (2, 0, 179), 0, 0)] (by decide +kernel) rfl ?_
      refine xm_if_eq (pc := 18) (off := 6) (tgt := 24) (by decide +kernel) (by decide) ?_ ?_
      · exact go_X3_manyKept_L24 N u rec4 h4 v1 v2
      · refine xm_blk0 (pc' := 24) (lv' := [(0, .ref 0), (1, .int (v1 + (1 : Int32))), (2, .int v2)]) (st' := []) (u' := (xU u)) [(.iinc 1 1, (0, 0, 0), 1, 0)] (by decide +kernel) rfl ?_
        exact go_X3_manyKept_L24 N u rec4 h4 (v1 + (1 : Int32)) v2
def f_X3_manyKept_L4 (N : Nat) (u : xN) : Nat → Int32 → Int32 → Option Int32
  | 0 => fun _ _ => none
  | n + 1 => fun v1 v2 => f_X3_manyKept_L4b N u (f_X3_manyKept_L4 N u n) v1 v2
theorem go_X3_manyKept_L4 (N : Nat) (u : xN) : ∀ (n : Nat) (v1 : Int32) (v2 : Int32), xGm md_X3_manyKept (rsI (xU u)) (f_X3_manyKept_L4 N u n v1 v2) 4 [(0, .ref 0), (1, .int v1), (2, .int v2)] [] (xU u) := by
  intro n
  induction n with
  | zero => intro v1 v2; exact xm_none
  | succ n ih => intro v1 v2; exact go_X3_manyKept_L4b N u _ ih v1 v2
def f_X3_manyKept (N : Nat) (u : xN) : Option Int32 := f_X3_manyKept_L4 N u N (0 : Int32) (0 : Int32)
set_option maxRecDepth 20000 in
theorem go_X3_manyKept (N : Nat) (u : xN) : xGm md_X3_manyKept (rsI (xU u)) (f_X3_manyKept N u) 0 [(0, .ref 0)] [] (xU u) := by
  unfold f_X3_manyKept
  refine xm_blk0 (pc' := 4) (lv' := [(0, .ref 0), (1, .int (0 : Int32)), (2, .int (0 : Int32))]) (st' := []) (u' := (xU u)) [(.iconst 0, (0, 0, 0), 0, 0), (.istore_n 1, (0, 0, 0), 0, 0), (.iconst 0, (0, 0, 0), 0, 0), (.istore_n 2, (0, 0, 0), 0, 0)] (by decide +kernel) rfl ?_
  exact go_X3_manyKept_L4 N u N (0 : Int32) (0 : Int32)
theorem ev_X3_manyKept (N : Nat) (u : xN) : ∀ r, f_X3_manyKept N u = some r → xEm md_X3_manyKept yX3_manyKept [.ref 0] (xU u) (some (.int r), (xU u)) := xm_met (res := (rsI (xU u))) (as := [.ref 0]) (go_X3_manyKept N u) (by decide) rfl (Nat.le_of_ble_eq_true rfl)
theorem mw_X3_clausesOf : xMv yX3_clausesOf cX3_clausesOf 4 (some .int) 1 := xMv_of (p1 := 777) (p2 := 776) (p3 := 92) (p4 := 37) (by decide +kernel)
/-! NeitherBare.clausesOf(I)I (0, None) -/
abbrev md_X3_clausesOf : xMd := (cX3_clausesOf, RX3, 4, some .int, 2)
def f_X3_clausesOf_L34 (N : Nat) (u : xN) (rec4 : Int32 → Int32 → Int32 → Option Int32) (v1 : Int32) (v2 : Int32) (v3 : Int32) : Option Int32 := rec4 v1 v2 (v3 + (1 : Int32))
set_option maxRecDepth 20000 in
theorem go_X3_clausesOf_L34 (N : Nat) (u : xN) (rec4 : Int32 → Int32 → Int32 → Option Int32) (h4 : ∀ (v1 : Int32) (v2 : Int32) (v3 : Int32), xGm md_X3_clausesOf (rsI (xU u)) (rec4 v1 v2 v3) 4 [(0, .ref 0), (1, .int v1), (2, .int v2), (3, .int v3)] [] (xU u)) (v1 : Int32) (v2 : Int32) (v3 : Int32) : xGm md_X3_clausesOf (rsI (xU u)) (f_X3_clausesOf_L34 N u rec4 v1 v2 v3) 34 [(0, .ref 0), (1, .int v1), (2, .int v2), (3, .int v3)] [] (xU u) := by
  unfold f_X3_clausesOf_L34
  refine xm_blk0 (pc' := 37) (lv' := [(0, .ref 0), (1, .int v1), (2, .int v2), (3, .int (v3 + (1 : Int32)))]) (st' := []) (u' := (xU u)) [(.iinc 3 1, (0, 0, 0), 1, 0)] (by decide +kernel) rfl ?_
  refine xm_goto (pc := 37) (off := -33) (tgt := 4) (by decide +kernel) (by decide) ?_
  exact h4 v1 v2 (v3 + (1 : Int32))
def f_X3_clausesOf_L4b (N : Nat) (u : xN) (rec4 : Int32 → Int32 → Int32 → Option Int32) (v1 : Int32) (v2 : Int32) (v3 : Int32) : Option Int32 := if (u.1 7 1) ≤ v3 then some v2 else gdl [inb v3 8] (Option.bind (f_X3_isOfKind (u.1 10 (Int32.toNatClampNeg v3)) v1 u) (fun r25 => if r25 = (0 : Int32) then f_X3_clausesOf_L34 N u rec4 v1 v2 v3 else f_X3_clausesOf_L34 N u rec4 v1 (v2 + (1 : Int32)) v3))
set_option maxRecDepth 20000 in
theorem go_X3_clausesOf_L4b (N : Nat) (u : xN) (rec4 : Int32 → Int32 → Int32 → Option Int32) (h4 : ∀ (v1 : Int32) (v2 : Int32) (v3 : Int32), xGm md_X3_clausesOf (rsI (xU u)) (rec4 v1 v2 v3) 4 [(0, .ref 0), (1, .int v1), (2, .int v2), (3, .int v3)] [] (xU u)) (v1 : Int32) (v2 : Int32) (v3 : Int32) : xGm md_X3_clausesOf (rsI (xU u)) (f_X3_clausesOf_L4b N u rec4 v1 v2 v3) 4 [(0, .ref 0), (1, .int v1), (2, .int v2), (3, .int v3)] [] (xU u) := by
  unfold f_X3_clausesOf_L4b
  refine xm_blk0 (pc' := 12) (lv' := [(0, .ref 0), (1, .int v1), (2, .int v2), (3, .int v3)]) (st' := [.int (u.1 7 1), .int v3]) (u' := (xU u)) [(.iload_n 3, (0, 0, 0), 0, 0), (.aload_n 0, (0, 0, 0), 0, 0), (.getfield 24, (3, 2, 208), 0, 0), (.getfield 113, (0, 1, 145), 0, 0)] (by decide +kernel) rfl ?_
  refine xm_icmp_ge (pc := 12) (off := 28) (tgt := 40) (by decide +kernel) (by decide) ?_ ?_
  · refine xm_blk0 (pc' := 41) (lv' := [(0, .ref 0), (1, .int v1), (2, .int v2), (3, .int v3)]) (st' := [.int v2]) (u' := (xU u)) [(.iload_n 2, (0, 0, 0), 0, 0)] (by decide +kernel) rfl ?_
    exact xm_iret (pc := 41) (by decide +kernel) rfl rfl
  · refine xm_blk (bs := [inb v3 8]) (pc' := 25) (lv' := [(0, .ref 0), (1, .int v1), (2, .int v2), (3, .int v3)]) (st' := [.int v1, .int (u.1 10 (Int32.toNatClampNeg v3))]) (u' := (xU u)) [(.aload_n 0, (0, 0, 0), 0, 0), (.getfield 24, (3, 2, 208), 0, 0), (.getfield 131, (0, 5, 151), 0, 0), (.iload_n 3, (0, 0, 0), 0, 0), (.iaload, (0, 0, 0), 0, 0), (.iload_n 1, (0, 0, 0), 0, 0)] (by decide +kernel) rfl ?_
    refine xm_Si (pc := 25) (mz := md_X3_isOfKind) (idx := 134) (p1 := 458) (as := [.int (u.1 10 (Int32.toNatClampNeg v3)), .int v1]) (st := []) (ev_X3_isOfKind (u.1 10 (Int32.toNatClampNeg v3)) v1 u) mw_X3_isOfKind (by decide +kernel) (by decide +kernel) (by decide) rfl (Nat.le_of_ble_eq_true rfl) (fun r25 => ?_)
    refine xm_if_eq (pc := 28) (off := 6) (tgt := 34) (by decide +kernel) (by decide) ?_ ?_
    · exact go_X3_clausesOf_L34 N u rec4 h4 v1 v2 v3
    · refine xm_blk0 (pc' := 34) (lv' := [(0, .ref 0), (1, .int v1), (2, .int (v2 + (1 : Int32))), (3, .int v3)]) (st' := []) (u' := (xU u)) [(.iinc 2 1, (0, 0, 0), 1, 0)] (by decide +kernel) rfl ?_
      exact go_X3_clausesOf_L34 N u rec4 h4 v1 (v2 + (1 : Int32)) v3
def f_X3_clausesOf_L4 (N : Nat) (u : xN) : Nat → Int32 → Int32 → Int32 → Option Int32
  | 0 => fun _ _ _ => none
  | n + 1 => fun v1 v2 v3 => f_X3_clausesOf_L4b N u (f_X3_clausesOf_L4 N u n) v1 v2 v3
theorem go_X3_clausesOf_L4 (N : Nat) (u : xN) : ∀ (n : Nat) (v1 : Int32) (v2 : Int32) (v3 : Int32), xGm md_X3_clausesOf (rsI (xU u)) (f_X3_clausesOf_L4 N u n v1 v2 v3) 4 [(0, .ref 0), (1, .int v1), (2, .int v2), (3, .int v3)] [] (xU u) := by
  intro n
  induction n with
  | zero => intro v1 v2 v3; exact xm_none
  | succ n ih => intro v1 v2 v3; exact go_X3_clausesOf_L4b N u _ ih v1 v2 v3
def f_X3_clausesOf (N : Nat) (a1 : Int32) (u : xN) : Option Int32 := f_X3_clausesOf_L4 N u N a1 (0 : Int32) (0 : Int32)
set_option maxRecDepth 20000 in
theorem go_X3_clausesOf (N : Nat) (a1 : Int32) (u : xN) : xGm md_X3_clausesOf (rsI (xU u)) (f_X3_clausesOf N a1 u) 0 [(0, .ref 0), (1, .int a1)] [] (xU u) := by
  unfold f_X3_clausesOf
  refine xm_blk0 (pc' := 4) (lv' := [(0, .ref 0), (1, .int a1), (2, .int (0 : Int32)), (3, .int (0 : Int32))]) (st' := []) (u' := (xU u)) [(.iconst 0, (0, 0, 0), 0, 0), (.istore_n 2, (0, 0, 0), 0, 0), (.iconst 0, (0, 0, 0), 0, 0), (.istore_n 3, (0, 0, 0), 0, 0)] (by decide +kernel) rfl ?_
  exact go_X3_clausesOf_L4 N u N a1 (0 : Int32) (0 : Int32)
theorem ev_X3_clausesOf (N : Nat) (a1 : Int32) (u : xN) : ∀ r, f_X3_clausesOf N a1 u = some r → xEm md_X3_clausesOf yX3_clausesOf [.ref 0, .int a1] (xU u) (some (.int r), (xU u)) := xm_met (res := (rsI (xU u))) (as := [.ref 0, .int a1]) (go_X3_clausesOf N a1 u) (by decide) rfl (Nat.le_of_ble_eq_true rfl)
theorem mw_X1_manyThere : xMv yX1_manyThere cX1_manyThere 3 (some .int) 0 := xMv_of (p1 := 781) (p2 := 779) (p3 := 93) (p4 := 780) (by decide +kernel)
/-! NeitherBare$Shelf.manyThere()I (1,) -/
abbrev md_X1_manyThere_1 : xMd := (cX1_manyThere, RX1, 3, some .int, 2)
def f_X1_manyThere_1_L23 (N : Nat) (u : xN) (rec4 : Int32 → Int32 → Option Int32) (v1 : Int32) (v2 : Int32) : Option Int32 := rec4 v1 (v2 + (1 : Int32))
set_option maxRecDepth 20000 in
theorem go_X1_manyThere_1_L23 (N : Nat) (u : xN) (rec4 : Int32 → Int32 → Option Int32) (h4 : ∀ (v1 : Int32) (v2 : Int32), xGm md_X1_manyThere_1 (rsI (xU u)) (rec4 v1 v2) 4 [(0, .ref 1), (1, .int v1), (2, .int v2)] [] (xU u)) (v1 : Int32) (v2 : Int32) : xGm md_X1_manyThere_1 (rsI (xU u)) (f_X1_manyThere_1_L23 N u rec4 v1 v2) 23 [(0, .ref 1), (1, .int v1), (2, .int v2)] [] (xU u) := by
  unfold f_X1_manyThere_1_L23
  refine xm_blk0 (pc' := 26) (lv' := [(0, .ref 1), (1, .int v1), (2, .int (v2 + (1 : Int32)))]) (st' := []) (u' := (xU u)) [(.iinc 2 1, (0, 0, 0), 1, 0)] (by decide +kernel) rfl ?_
  refine xm_goto (pc := 26) (off := -22) (tgt := 4) (by decide +kernel) (by decide) ?_
  exact h4 v1 (v2 + (1 : Int32))
def f_X1_manyThere_1_L4b (N : Nat) (u : xN) (rec4 : Int32 → Int32 → Option Int32) (v1 : Int32) (v2 : Int32) : Option Int32 := if (u.1 1 0) ≤ v2 then some v1 else Option.bind (f_X1_isThere_1 v2 u) (fun r14 => if r14 = (0 : Int32) then f_X1_manyThere_1_L23 N u rec4 v1 v2 else f_X1_manyThere_1_L23 N u rec4 (v1 + (1 : Int32)) v2)
set_option maxRecDepth 20000 in
theorem go_X1_manyThere_1_L4b (N : Nat) (u : xN) (rec4 : Int32 → Int32 → Option Int32) (h4 : ∀ (v1 : Int32) (v2 : Int32), xGm md_X1_manyThere_1 (rsI (xU u)) (rec4 v1 v2) 4 [(0, .ref 1), (1, .int v1), (2, .int v2)] [] (xU u)) (v1 : Int32) (v2 : Int32) : xGm md_X1_manyThere_1 (rsI (xU u)) (f_X1_manyThere_1_L4b N u rec4 v1 v2) 4 [(0, .ref 1), (1, .int v1), (2, .int v2)] [] (xU u) := by
  unfold f_X1_manyThere_1_L4b
  refine xm_blk0 (pc' := 9) (lv' := [(0, .ref 1), (1, .int v1), (2, .int v2)]) (st' := [.int (u.1 1 0), .int v2]) (u' := (xU u)) [(.iload_n 2, (0, 0, 0), 0, 0), (.aload_n 0, (0, 0, 0), 0, 0), (.getfield 7, (1, 0, 118), 0, 0)] (by decide +kernel) rfl ?_
  refine xm_icmp_ge (pc := 9) (off := 20) (tgt := 29) (by decide +kernel) (by decide) ?_ ?_
  · refine xm_blk0 (pc' := 30) (lv' := [(0, .ref 1), (1, .int v1), (2, .int v2)]) (st' := [.int v1]) (u' := (xU u)) [(.iload_n 1, (0, 0, 0), 0, 0)] (by decide +kernel) rfl ?_
    exact xm_iret (pc := 30) (by decide +kernel) rfl rfl
  · refine xm_blk0 (pc' := 14) (lv' := [(0, .ref 1), (1, .int v1), (2, .int v2)]) (st' := [.int v2, .ref 1]) (u' := (xU u)) [(.aload_n 0, (0, 0, 0), 0, 0), (.iload_n 2, (0, 0, 0), 0, 0)] (by decide +kernel) rfl ?_
    refine xm_Vi (pc := 14) (mz := md_X1_isThere_1) (idx := 41) (p1 := 782) (a := 1) (as := [.int v2]) (st := []) (ev_X1_isThere_1 v2 u) mw_X1_isThere (by decide +kernel) (by decide +kernel) (by decide) rfl rfl (by decide) rfl (Nat.le_of_ble_eq_true rfl) (fun r14 => ?_)
    refine xm_if_eq (pc := 17) (off := 6) (tgt := 23) (by decide +kernel) (by decide) ?_ ?_
    · exact go_X1_manyThere_1_L23 N u rec4 h4 v1 v2
    · refine xm_blk0 (pc' := 23) (lv' := [(0, .ref 1), (1, .int (v1 + (1 : Int32))), (2, .int v2)]) (st' := []) (u' := (xU u)) [(.iinc 1 1, (0, 0, 0), 1, 0)] (by decide +kernel) rfl ?_
      exact go_X1_manyThere_1_L23 N u rec4 h4 (v1 + (1 : Int32)) v2
def f_X1_manyThere_1_L4 (N : Nat) (u : xN) : Nat → Int32 → Int32 → Option Int32
  | 0 => fun _ _ => none
  | n + 1 => fun v1 v2 => f_X1_manyThere_1_L4b N u (f_X1_manyThere_1_L4 N u n) v1 v2
theorem go_X1_manyThere_1_L4 (N : Nat) (u : xN) : ∀ (n : Nat) (v1 : Int32) (v2 : Int32), xGm md_X1_manyThere_1 (rsI (xU u)) (f_X1_manyThere_1_L4 N u n v1 v2) 4 [(0, .ref 1), (1, .int v1), (2, .int v2)] [] (xU u) := by
  intro n
  induction n with
  | zero => intro v1 v2; exact xm_none
  | succ n ih => intro v1 v2; exact go_X1_manyThere_1_L4b N u _ ih v1 v2
def f_X1_manyThere_1 (N : Nat) (u : xN) : Option Int32 := f_X1_manyThere_1_L4 N u N (0 : Int32) (0 : Int32)
set_option maxRecDepth 20000 in
theorem go_X1_manyThere_1 (N : Nat) (u : xN) : xGm md_X1_manyThere_1 (rsI (xU u)) (f_X1_manyThere_1 N u) 0 [(0, .ref 1)] [] (xU u) := by
  unfold f_X1_manyThere_1
  refine xm_blk0 (pc' := 4) (lv' := [(0, .ref 1), (1, .int (0 : Int32)), (2, .int (0 : Int32))]) (st' := []) (u' := (xU u)) [(.iconst 0, (0, 0, 0), 0, 0), (.istore_n 1, (0, 0, 0), 0, 0), (.iconst 0, (0, 0, 0), 0, 0), (.istore_n 2, (0, 0, 0), 0, 0)] (by decide +kernel) rfl ?_
  exact go_X1_manyThere_1_L4 N u N (0 : Int32) (0 : Int32)
theorem ev_X1_manyThere_1 (N : Nat) (u : xN) : ∀ r, f_X1_manyThere_1 N u = some r → xEm md_X1_manyThere_1 yX1_manyThere [.ref 1] (xU u) (some (.int r), (xU u)) := xm_met (res := (rsI (xU u))) (as := [.ref 1]) (go_X1_manyThere_1 N u) (by decide) rfl (Nat.le_of_ble_eq_true rfl)
/-! NeitherBare$Shelf.manyThere()I (4,) -/
abbrev md_X1_manyThere_4 : xMd := (cX1_manyThere, RX1, 3, some .int, 2)
def f_X1_manyThere_4_L23 (N : Nat) (u : xN) (rec4 : Int32 → Int32 → Option Int32) (v1 : Int32) (v2 : Int32) : Option Int32 := rec4 v1 (v2 + (1 : Int32))
set_option maxRecDepth 20000 in
theorem go_X1_manyThere_4_L23 (N : Nat) (u : xN) (rec4 : Int32 → Int32 → Option Int32) (h4 : ∀ (v1 : Int32) (v2 : Int32), xGm md_X1_manyThere_4 (rsI (xU u)) (rec4 v1 v2) 4 [(0, .ref 4), (1, .int v1), (2, .int v2)] [] (xU u)) (v1 : Int32) (v2 : Int32) : xGm md_X1_manyThere_4 (rsI (xU u)) (f_X1_manyThere_4_L23 N u rec4 v1 v2) 23 [(0, .ref 4), (1, .int v1), (2, .int v2)] [] (xU u) := by
  unfold f_X1_manyThere_4_L23
  refine xm_blk0 (pc' := 26) (lv' := [(0, .ref 4), (1, .int v1), (2, .int (v2 + (1 : Int32)))]) (st' := []) (u' := (xU u)) [(.iinc 2 1, (0, 0, 0), 1, 0)] (by decide +kernel) rfl ?_
  refine xm_goto (pc := 26) (off := -22) (tgt := 4) (by decide +kernel) (by decide) ?_
  exact h4 v1 (v2 + (1 : Int32))
def f_X1_manyThere_4_L4b (N : Nat) (u : xN) (rec4 : Int32 → Int32 → Option Int32) (v1 : Int32) (v2 : Int32) : Option Int32 := if (u.1 4 0) ≤ v2 then some v1 else Option.bind (f_X1_isThere_4 v2 u) (fun r14 => if r14 = (0 : Int32) then f_X1_manyThere_4_L23 N u rec4 v1 v2 else f_X1_manyThere_4_L23 N u rec4 (v1 + (1 : Int32)) v2)
set_option maxRecDepth 20000 in
theorem go_X1_manyThere_4_L4b (N : Nat) (u : xN) (rec4 : Int32 → Int32 → Option Int32) (h4 : ∀ (v1 : Int32) (v2 : Int32), xGm md_X1_manyThere_4 (rsI (xU u)) (rec4 v1 v2) 4 [(0, .ref 4), (1, .int v1), (2, .int v2)] [] (xU u)) (v1 : Int32) (v2 : Int32) : xGm md_X1_manyThere_4 (rsI (xU u)) (f_X1_manyThere_4_L4b N u rec4 v1 v2) 4 [(0, .ref 4), (1, .int v1), (2, .int v2)] [] (xU u) := by
  unfold f_X1_manyThere_4_L4b
  refine xm_blk0 (pc' := 9) (lv' := [(0, .ref 4), (1, .int v1), (2, .int v2)]) (st' := [.int (u.1 4 0), .int v2]) (u' := (xU u)) [(.iload_n 2, (0, 0, 0), 0, 0), (.aload_n 0, (0, 0, 0), 0, 0), (.getfield 7, (1, 0, 118), 0, 0)] (by decide +kernel) rfl ?_
  refine xm_icmp_ge (pc := 9) (off := 20) (tgt := 29) (by decide +kernel) (by decide) ?_ ?_
  · refine xm_blk0 (pc' := 30) (lv' := [(0, .ref 4), (1, .int v1), (2, .int v2)]) (st' := [.int v1]) (u' := (xU u)) [(.iload_n 1, (0, 0, 0), 0, 0)] (by decide +kernel) rfl ?_
    exact xm_iret (pc := 30) (by decide +kernel) rfl rfl
  · refine xm_blk0 (pc' := 14) (lv' := [(0, .ref 4), (1, .int v1), (2, .int v2)]) (st' := [.int v2, .ref 4]) (u' := (xU u)) [(.aload_n 0, (0, 0, 0), 0, 0), (.iload_n 2, (0, 0, 0), 0, 0)] (by decide +kernel) rfl ?_
    refine xm_Vi (pc := 14) (mz := md_X1_isThere_4) (idx := 41) (p1 := 782) (a := 4) (as := [.int v2]) (st := []) (ev_X1_isThere_4 v2 u) mw_X1_isThere (by decide +kernel) (by decide +kernel) (by decide) rfl rfl (by decide) rfl (Nat.le_of_ble_eq_true rfl) (fun r14 => ?_)
    refine xm_if_eq (pc := 17) (off := 6) (tgt := 23) (by decide +kernel) (by decide) ?_ ?_
    · exact go_X1_manyThere_4_L23 N u rec4 h4 v1 v2
    · refine xm_blk0 (pc' := 23) (lv' := [(0, .ref 4), (1, .int (v1 + (1 : Int32))), (2, .int v2)]) (st' := []) (u' := (xU u)) [(.iinc 1 1, (0, 0, 0), 1, 0)] (by decide +kernel) rfl ?_
      exact go_X1_manyThere_4_L23 N u rec4 h4 (v1 + (1 : Int32)) v2
def f_X1_manyThere_4_L4 (N : Nat) (u : xN) : Nat → Int32 → Int32 → Option Int32
  | 0 => fun _ _ => none
  | n + 1 => fun v1 v2 => f_X1_manyThere_4_L4b N u (f_X1_manyThere_4_L4 N u n) v1 v2
theorem go_X1_manyThere_4_L4 (N : Nat) (u : xN) : ∀ (n : Nat) (v1 : Int32) (v2 : Int32), xGm md_X1_manyThere_4 (rsI (xU u)) (f_X1_manyThere_4_L4 N u n v1 v2) 4 [(0, .ref 4), (1, .int v1), (2, .int v2)] [] (xU u) := by
  intro n
  induction n with
  | zero => intro v1 v2; exact xm_none
  | succ n ih => intro v1 v2; exact go_X1_manyThere_4_L4b N u _ ih v1 v2
def f_X1_manyThere_4 (N : Nat) (u : xN) : Option Int32 := f_X1_manyThere_4_L4 N u N (0 : Int32) (0 : Int32)
set_option maxRecDepth 20000 in
theorem go_X1_manyThere_4 (N : Nat) (u : xN) : xGm md_X1_manyThere_4 (rsI (xU u)) (f_X1_manyThere_4 N u) 0 [(0, .ref 4)] [] (xU u) := by
  unfold f_X1_manyThere_4
  refine xm_blk0 (pc' := 4) (lv' := [(0, .ref 4), (1, .int (0 : Int32)), (2, .int (0 : Int32))]) (st' := []) (u' := (xU u)) [(.iconst 0, (0, 0, 0), 0, 0), (.istore_n 1, (0, 0, 0), 0, 0), (.iconst 0, (0, 0, 0), 0, 0), (.istore_n 2, (0, 0, 0), 0, 0)] (by decide +kernel) rfl ?_
  exact go_X1_manyThere_4_L4 N u N (0 : Int32) (0 : Int32)
theorem ev_X1_manyThere_4 (N : Nat) (u : xN) : ∀ r, f_X1_manyThere_4 N u = some r → xEm md_X1_manyThere_4 yX1_manyThere [.ref 4] (xU u) (some (.int r), (xU u)) := xm_met (res := (rsI (xU u))) (as := [.ref 4]) (go_X1_manyThere_4 N u) (by decide) rfl (Nat.le_of_ble_eq_true rfl)
theorem mw_X3_countNumber : xMv yX3_countNumber cX3_countNumber 2 (some .int) 1 := xMv_of (p1 := 773) (p2 := 772) (p3 := 92) (p4 := 36) (by decide +kernel)
/-! NeitherBare.countNumber(I)I (0, None) -/
abbrev md_X3_countNumber : xMd := (cX3_countNumber, RX3, 2, some .int, 3)
def f_X3_countNumber (N : Nat) (a1 : Int32) (u : xN) : Option Int32 := if Int32.toInt a1 < 0 ∨ 7 < Int32.toInt a1 then (Option.bind (f_X3_manyKept N u) (fun r112 => some r112)) else if a1 = (0 : Int32) then (some (u.1 7 0)) else if a1 = (1 : Int32) then (some (u.1 7 1)) else if a1 = (2 : Int32) then (Option.bind (f_J6_bitCount_0f7a4 (u.1 19 1)) (fun r71 => some r71)) else if a1 = (3 : Int32) then (some (u.1 19 2)) else if a1 = (4 : Int32) then (Option.bind (f_X3_clausesOf N (1 : Int32) u) (fun r85 => some r85)) else if a1 = (5 : Int32) then (Option.bind (f_X3_clausesOf N (2 : Int32) u) (fun r91 => some r91)) else if a1 = (6 : Int32) then (Option.bind (f_X1_manyThere_1 N u) (fun r99 => some r99)) else if a1 = (7 : Int32) then (Option.bind (f_X1_manyThere_4 N u) (fun r107 => some r107)) else none
set_option maxRecDepth 20000 in
theorem go_X3_countNumber (N : Nat) (a1 : Int32) (u : xN) : xGm md_X3_countNumber (rsI (xU u)) (f_X3_countNumber N a1 u) 0 [(0, .ref 0), (1, .int a1)] [] (xU u) := by
  unfold f_X3_countNumber
  refine xm_blk0 (pc' := 1) (lv' := [(0, .ref 0), (1, .int a1)]) (st' := [.int a1]) (u' := (xU u)) [(.iload_n 1, (0, 0, 0), 0, 0)] (by decide +kernel) rfl ?_
  refine xm_tout (pc := 1) (tgt := 111) (dflt := 110) (lo := 0) (hi := 7) (offs := #[47, 55, 63, 74, 82, 88, 94, 102]) (len := 47) (by decide +kernel) (by decide) ?_ ?_
  · refine xm_blk0 (pc' := 112) (lv' := [(0, .ref 0), (1, .int a1)]) (st' := [.ref 0]) (u' := (xU u)) [(.aload_n 0, (0, 0, 0), 0, 0)] (by decide +kernel) rfl ?_
    refine xm_Vi (pc := 112) (mz := md_X3_manyKept) (idx := 368) (p1 := 783) (a := 0) (as := []) (st := []) (ev_X3_manyKept N u) mw_X3_manyKept (by decide +kernel) (by decide +kernel) (by decide) rfl rfl (by decide) rfl (Nat.le_of_ble_eq_true rfl) (fun r112 => ?_)
    exact xm_iret (pc := 115) (by decide +kernel) rfl rfl
  · refine xm_tin (pc := 1) (tgt := 48) (off := 47) (dflt := 110) (lo := 0) (hi := 7) (offs := #[47, 55, 63, 74, 82, 88, 94, 102]) (len := 47) (0 : Int32) (by decide +kernel) (by decide) (by decide) (by decide) (by decide) ?_ ?_
    · refine xm_blk0 (pc' := 55) (lv' := [(0, .ref 0), (1, .int a1)]) (st' := [.int (u.1 7 0)]) (u' := (xU u)) [(.aload_n 0, (0, 0, 0), 0, 0), (.getfield 24, (3, 2, 208), 0, 0), (.getfield 119, (0, 0, 143), 0, 0)] (by decide +kernel) rfl ?_
      exact xm_iret (pc := 55) (by decide +kernel) rfl rfl
    refine xm_tin (pc := 1) (tgt := 56) (off := 55) (dflt := 110) (lo := 0) (hi := 7) (offs := #[47, 55, 63, 74, 82, 88, 94, 102]) (len := 47) (1 : Int32) (by decide +kernel) (by decide) (by decide) (by decide) (by decide) ?_ ?_
    · refine xm_blk0 (pc' := 63) (lv' := [(0, .ref 0), (1, .int a1)]) (st' := [.int (u.1 7 1)]) (u' := (xU u)) [(.aload_n 0, (0, 0, 0), 0, 0), (.getfield 24, (3, 2, 208), 0, 0), (.getfield 113, (0, 1, 145), 0, 0)] (by decide +kernel) rfl ?_
      exact xm_iret (pc := 63) (by decide +kernel) rfl rfl
    refine xm_tin (pc := 1) (tgt := 64) (off := 63) (dflt := 110) (lo := 0) (hi := 7) (offs := #[47, 55, 63, 74, 82, 88, 94, 102]) (len := 47) (2 : Int32) (by decide +kernel) (by decide) (by decide) (by decide) (by decide) ?_ ?_
    · refine xm_blk0 (pc' := 71) (lv' := [(0, .ref 0), (1, .int a1)]) (st' := [.int (u.1 19 1)]) (u' := (xU u)) [(.aload_n 0, (0, 0, 0), 0, 0), (.getfield 34, (3, 4, 210), 0, 0), (.getfield 183, (2, 1, 181), 0, 0)] (by decide +kernel) rfl ?_
      refine xm_Si (pc := 71) (mz := md_J6_bitCount_0f7a4) (idx := 186) (p1 := 509) (as := [.int (u.1 19 1)]) (st := []) (ev_J6_bitCount_0f7a4 (u.1 19 1) u) mw_J6_bitCount_0f7a4 (by decide +kernel) (by decide +kernel) (by decide) rfl (Nat.le_of_ble_eq_true rfl) (fun r71 => ?_)
      exact xm_iret (pc := 74) (by decide +kernel) rfl rfl
    refine xm_tin (pc := 1) (tgt := 75) (off := 74) (dflt := 110) (lo := 0) (hi := 7) (offs := #[47, 55, 63, 74, 82, 88, 94, 102]) (len := 47) (3 : Int32) (by decide +kernel) (by decide) (by decide) (by decide) (by decide) ?_ ?_
    · refine xm_blk0 (pc' := 82) (lv' := [(0, .ref 0), (1, .int a1)]) (st' := [.int (u.1 19 2)]) (u' := (xU u)) [(.aload_n 0, (0, 0, 0), 0, 0), (.getfield 34, (3, 4, 210), 0, 0), (.getfield 176, (2, 2, 183), 0, 0)] (by decide +kernel) rfl ?_
      exact xm_iret (pc := 82) (by decide +kernel) rfl rfl
    refine xm_tin (pc := 1) (tgt := 83) (off := 82) (dflt := 110) (lo := 0) (hi := 7) (offs := #[47, 55, 63, 74, 82, 88, 94, 102]) (len := 47) (4 : Int32) (by decide +kernel) (by decide) (by decide) (by decide) (by decide) ?_ ?_
    · refine xm_blk0 (pc' := 85) (lv' := [(0, .ref 0), (1, .int a1)]) (st' := [.int (1 : Int32), .ref 0]) (u' := (xU u)) [(.aload_n 0, (0, 0, 0), 0, 0), (.iconst 1, (0, 0, 0), 1, 0)] (by decide +kernel) rfl ?_
      refine xm_Vi (pc := 85) (mz := md_X3_clausesOf) (idx := 362) (p1 := 774) (a := 0) (as := [.int (1 : Int32)]) (st := []) (ev_X3_clausesOf N (1 : Int32) u) mw_X3_clausesOf (by decide +kernel) (by decide +kernel) (by decide) rfl rfl (by decide) rfl (Nat.le_of_ble_eq_true rfl) (fun r85 => ?_)
      exact xm_iret (pc := 88) (by decide +kernel) rfl rfl
    refine xm_tin (pc := 1) (tgt := 89) (off := 88) (dflt := 110) (lo := 0) (hi := 7) (offs := #[47, 55, 63, 74, 82, 88, 94, 102]) (len := 47) (5 : Int32) (by decide +kernel) (by decide) (by decide) (by decide) (by decide) ?_ ?_
    · refine xm_blk0 (pc' := 91) (lv' := [(0, .ref 0), (1, .int a1)]) (st' := [.int (2 : Int32), .ref 0]) (u' := (xU u)) [(.aload_n 0, (0, 0, 0), 0, 0), (.iconst 2, (0, 0, 0), 2, 0)] (by decide +kernel) rfl ?_
      refine xm_Vi (pc := 91) (mz := md_X3_clausesOf) (idx := 362) (p1 := 774) (a := 0) (as := [.int (2 : Int32)]) (st := []) (ev_X3_clausesOf N (2 : Int32) u) mw_X3_clausesOf (by decide +kernel) (by decide +kernel) (by decide) rfl rfl (by decide) rfl (Nat.le_of_ble_eq_true rfl) (fun r91 => ?_)
      exact xm_iret (pc := 94) (by decide +kernel) rfl rfl
    refine xm_tin (pc := 1) (tgt := 95) (off := 94) (dflt := 110) (lo := 0) (hi := 7) (offs := #[47, 55, 63, 74, 82, 88, 94, 102]) (len := 47) (6 : Int32) (by decide +kernel) (by decide) (by decide) (by decide) (by decide) ?_ ?_
    · refine xm_blk0 (pc' := 99) (lv' := [(0, .ref 0), (1, .int a1)]) (st' := [.ref 1]) (u' := (xU u)) [(.aload_n 0, (0, 0, 0), 0, 0), (.getfield 14, (3, 0, 206), 0, 0)] (by decide +kernel) rfl ?_
      refine xm_Vi (pc := 99) (mz := md_X1_manyThere_1) (idx := 365) (p1 := 778) (a := 1) (as := []) (st := []) (ev_X1_manyThere_1 N u) mw_X1_manyThere (by decide +kernel) (by decide +kernel) (by decide) rfl rfl (by decide) rfl (Nat.le_of_ble_eq_true rfl) (fun r99 => ?_)
      exact xm_iret (pc := 102) (by decide +kernel) rfl rfl
    refine xm_tin (pc := 1) (tgt := 103) (off := 102) (dflt := 110) (lo := 0) (hi := 7) (offs := #[47, 55, 63, 74, 82, 88, 94, 102]) (len := 47) (7 : Int32) (by decide +kernel) (by decide) (by decide) (by decide) (by decide) ?_ ?_
    · refine xm_blk0 (pc' := 107) (lv' := [(0, .ref 0), (1, .int a1)]) (st' := [.ref 4]) (u' := (xU u)) [(.aload_n 0, (0, 0, 0), 0, 0), (.getfield 18, (3, 1, 207), 0, 0)] (by decide +kernel) rfl ?_
      refine xm_Vi (pc := 107) (mz := md_X1_manyThere_4) (idx := 365) (p1 := 778) (a := 4) (as := []) (st := []) (ev_X1_manyThere_4 N u) mw_X1_manyThere (by decide +kernel) (by decide +kernel) (by decide) rfl rfl (by decide) rfl (Nat.le_of_ble_eq_true rfl) (fun r107 => ?_)
      exact xm_iret (pc := 110) (by decide +kernel) rfl rfl
    exact xm_none
theorem ev_X3_countNumber (N : Nat) (a1 : Int32) (u : xN) : ∀ r, f_X3_countNumber N a1 u = some r → xEm md_X3_countNumber yX3_countNumber [.ref 0, .int a1] (xU u) (some (.int r), (xU u)) := xm_met (res := (rsI (xU u))) (as := [.ref 0, .int a1]) (go_X3_countNumber N a1 u) (by decide) rfl (Nat.le_of_ble_eq_true rfl)
theorem mw_X3_count : xMv yX3_count cX3_count 2 (some .int) 1 := xMv_of (p1 := 769) (p2 := 767) (p3 := 92) (p4 := 768) (by decide +kernel)
/-! NeitherBare.count(I)I (0, None) -/
abbrev md_X3_count : xMd := (cX3_count, RX3, 2, some .int, 4)
def f_X3_count_L10 (N : Nat) (u : xN) : Option Int32 := some (-1 : Int32)
set_option maxRecDepth 20000 in
theorem go_X3_count_L10 (N : Nat) (u : xN) : xGm md_X3_count (rsI (xU u)) (f_X3_count_L10 N u) 10 [] [] (xU u) := by
  unfold f_X3_count_L10
  refine xm_blk0 (pc' := 11) (lv' := []) (st' := [.int (-1 : Int32)]) (u' := (xU u)) [(.iconst (-1), (0, 0, 0), -1, 0)] (by decide +kernel) rfl ?_
  exact xm_iret (pc := 11) (by decide +kernel) rfl rfl
def f_X3_count (N : Nat) (a1 : Int32) (u : xN) : Option Int32 := if a1 < (0 : Int32) then f_X3_count_L10 N u else if a1 < (9 : Int32) then Option.bind (f_X3_countNumber N a1 u) (fun r14 => some r14) else f_X3_count_L10 N u
set_option maxRecDepth 20000 in
theorem go_X3_count (N : Nat) (a1 : Int32) (u : xN) : xGm md_X3_count (rsI (xU u)) (f_X3_count N a1 u) 0 [(0, .ref 0), (1, .int a1)] [] (xU u) := by
  unfold f_X3_count
  refine xm_blk0 (pc' := 1) (lv' := [(0, .ref 0), (1, .int a1)]) (st' := [.int a1]) (u' := (xU u)) [(.iload_n 1, (0, 0, 0), 0, 0)] (by decide +kernel) rfl ?_
  refine xm_if_lt (pc := 1) (off := 9) (tgt := 10) (by decide +kernel) (by decide) ?_ ?_
  · refine xm_wk [] (lv' := []) rfl ?_
    exact go_X3_count_L10 N u
  · refine xm_blk0 (pc' := 7) (lv' := [(0, .ref 0), (1, .int a1)]) (st' := [.int (9 : Int32), .int a1]) (u' := (xU u)) [(.iload_n 1, (0, 0, 0), 0, 0), (.bipush 9, (0, 0, 0), 9, 0)] (by decide +kernel) rfl ?_
    refine xm_icmp_lt (pc := 7) (off := 5) (tgt := 12) (by decide +kernel) (by decide) ?_ ?_
    · refine xm_blk0 (pc' := 14) (lv' := [(0, .ref 0), (1, .int a1)]) (st' := [.int a1, .ref 0]) (u' := (xU u)) [(.aload_n 0, (0, 0, 0), 0, 0), (.iload_n 1, (0, 0, 0), 0, 0)] (by decide +kernel) rfl ?_
      refine xm_Vi (pc := 14) (mz := md_X3_countNumber) (idx := 308) (p1 := 770) (a := 0) (as := [.int a1]) (st := []) (ev_X3_countNumber N a1 u) mw_X3_countNumber (by decide +kernel) (by decide +kernel) (by decide) rfl rfl (by decide) rfl (Nat.le_of_ble_eq_true rfl) (fun r14 => ?_)
      exact xm_iret (pc := 17) (by decide +kernel) rfl rfl
    · refine xm_wk [] (lv' := []) rfl ?_
      exact go_X3_count_L10 N u
theorem ev_X3_count (N : Nat) (a1 : Int32) (u : xN) : ∀ r, f_X3_count N a1 u = some r → xEm md_X3_count yX3_count [.ref 0, .int a1] (xU u) (some (.int r), (xU u)) := xm_met (res := (rsI (xU u))) (as := [.ref 0, .int a1]) (go_X3_count N a1 u) (by decide) rfl (Nat.le_of_ble_eq_true rfl)
theorem mw_X3_finding : xMv yX3_finding cX3_finding 1 (some .int) 0 := xMv_of (p1 := 790) (p2 := 788) (p3 := 92) (p4 := 789) (by decide +kernel)
/-! NeitherBare.finding()I (0,) -/
abbrev md_X3_finding : xMd := (cX3_finding, RX3, 1, some .int, 1)
def f_X3_finding (u : xN) : Option Int32 := some (u.1 0 9)
set_option maxRecDepth 20000 in
theorem go_X3_finding (u : xN) : xGm md_X3_finding (rsI (xU u)) (f_X3_finding u) 0 [(0, .ref 0)] [] (xU u) := by
  unfold f_X3_finding
  refine xm_blk0 (pc' := 4) (lv' := [(0, .ref 0)]) (st' := [.int (u.1 0 9)]) (u' := (xU u)) [(.aload_n 0, (0, 0, 0), 0, 0), (.getfield 311, (3, 9, 215), 0, 0)] (by decide +kernel) rfl ?_
  exact xm_iret (pc := 4) (by decide +kernel) rfl rfl
theorem ev_X3_finding (u : xN) : ∀ r, f_X3_finding u = some r → xEm md_X3_finding yX3_finding [.ref 0] (xU u) (some (.int r), (xU u)) := xm_met (res := (rsI (xU u))) (as := [.ref 0]) (go_X3_finding u) (by decide) rfl (Nat.le_of_ble_eq_true rfl)
theorem mw_X3_findings : xMv yX3_findings cX3_findings 2 (some .int) 1 := xMv_of (p1 := 794) (p2 := 792) (p3 := 92) (p4 := 793) (by decide +kernel)
/-! NeitherBare.findings(I)I (0, None) -/
abbrev md_X3_findings : xMd := (cX3_findings, RX3, 2, some .int, 1)
def f_X3_findings_L10 (u : xN) : Option Int32 := some (-1 : Int32)
set_option maxRecDepth 20000 in
theorem go_X3_findings_L10 (u : xN) : xGm md_X3_findings (rsI (xU u)) (f_X3_findings_L10 u) 10 [] [] (xU u) := by
  unfold f_X3_findings_L10
  refine xm_blk0 (pc' := 11) (lv' := []) (st' := [.int (-1 : Int32)]) (u' := (xU u)) [(.iconst (-1), (0, 0, 0), -1, 0)] (by decide +kernel) rfl ?_
  exact xm_iret (pc := 11) (by decide +kernel) rfl rfl
def f_X3_findings (a1 : Int32) (u : xN) : Option Int32 := if a1 < (1 : Int32) then f_X3_findings_L10 u else if a1 ≤ (5 : Int32) then (gdl [inb a1 6] (some (u.1 38 (Int32.toNatClampNeg a1)))) else f_X3_findings_L10 u
set_option maxRecDepth 20000 in
theorem go_X3_findings (a1 : Int32) (u : xN) : xGm md_X3_findings (rsI (xU u)) (f_X3_findings a1 u) 0 [(0, .ref 0), (1, .int a1)] [] (xU u) := by
  unfold f_X3_findings
  refine xm_blk0 (pc' := 2) (lv' := [(0, .ref 0), (1, .int a1)]) (st' := [.int (1 : Int32), .int a1]) (u' := (xU u)) [(.iload_n 1, (0, 0, 0), 0, 0), (.iconst 1, (0, 0, 0), 1, 0)] (by decide +kernel) rfl ?_
  refine xm_icmp_lt (pc := 2) (off := 8) (tgt := 10) (by decide +kernel) (by decide) ?_ ?_
  · refine xm_wk [] (lv' := []) rfl ?_
    exact go_X3_findings_L10 u
  · refine xm_blk0 (pc' := 7) (lv' := [(0, .ref 0), (1, .int a1)]) (st' := [.int (5 : Int32), .int a1]) (u' := (xU u)) [(.iload_n 1, (0, 0, 0), 0, 0), (.iconst 5, (0, 0, 0), 5, 0)] (by decide +kernel) rfl ?_
    refine xm_icmp_le (pc := 7) (off := 5) (tgt := 12) (by decide +kernel) (by decide) ?_ ?_
    · refine xm_blk (bs := [inb a1 6]) (pc' := 18) (lv' := [(0, .ref 0), (1, .int a1)]) (st' := [.int (u.1 38 (Int32.toNatClampNeg a1))]) (u' := (xU u)) [(.aload_n 0, (0, 0, 0), 0, 0), (.getfield 49, (3, 8, 214), 0, 0), (.iload_n 1, (0, 0, 0), 0, 0), (.iaload, (0, 0, 0), 0, 0)] (by decide +kernel) rfl ?_
      exact xm_iret (pc := 18) (by decide +kernel) rfl rfl
    · refine xm_wk [] (lv' := []) rfl ?_
      exact go_X3_findings_L10 u
theorem ev_X3_findings (a1 : Int32) (u : xN) : ∀ r, f_X3_findings a1 u = some r → xEm md_X3_findings yX3_findings [.ref 0, .int a1] (xU u) (some (.int r), (xU u)) := xm_met (res := (rsI (xU u))) (as := [.ref 0, .int a1]) (go_X3_findings a1 u) (by decide) rfl (Nat.le_of_ble_eq_true rfl)
theorem mw_X3_mixed : xMs yX3_mixed cX3_mixed 3 (some .long) 2 := xMs_of (p1 := 802) (p2 := 801) (p3 := 92) (by decide +kernel)
/-! NeitherBare.mixed(JI)J  -/
abbrev md_X3_mixed : xMd := (cX3_mixed, RX3, 3, some .long, 1)
def f_X3_mixed (a0 : Int64) (a2 : Int32) : Option Int64 := some (((31 : Int64) * a0) + (Int32.toInt64 a2))
set_option maxRecDepth 20000 in
theorem go_X3_mixed (a0 : Int64) (a2 : Int32) (u : xN) : xGm md_X3_mixed (rsL (xU u)) (f_X3_mixed a0 a2) 0 [(0, .long a0), (2, .int a2)] [] (xU u) := by
  unfold f_X3_mixed
  refine xm_blk0 (pc' := 8) (lv' := [(0, .long a0), (2, .int a2)]) (st' := [.long (((31 : Int64) * a0) + (Int32.toInt64 a2))]) (u' := (xU u)) [(.ldc2_w 371, (0, 0, 803), 0, 31), (.lload_n 0, (0, 0, 0), 0, 0), (.lmul, (0, 0, 0), 0, 0), (.iload_n 2, (0, 0, 0), 0, 0), (.i2l, (0, 0, 0), 0, 0), (.ladd, (0, 0, 0), 0, 0)] (by decide +kernel) rfl ?_
  exact xm_lret (pc := 8) (by decide +kernel) rfl rfl
theorem ev_X3_mixed (a0 : Int64) (a2 : Int32) (u : xN) : ∀ r, f_X3_mixed a0 a2 = some r → xEm md_X3_mixed yX3_mixed [.long a0, .int a2] (xU u) (some (.long r), (xU u)) := xm_met (res := (rsL (xU u))) (as := [.long a0, .int a2]) (go_X3_mixed a0 a2 u) (by decide) rfl (Nat.le_of_ble_eq_true rfl)
theorem mw_X1_mixInto : xMv yX1_mixInto cX1_mixInto 7 (some .long) 1 := xMv_of (p1 := 807) (p2 := 805) (p3 := 93) (p4 := 806) (by decide +kernel)
/-! NeitherBare$Shelf.mixInto(J)J (1, None) -/
abbrev md_X1_mixInto_1 : xMd := (cX1_mixInto, RX1, 7, some .long, 2)
def f_X1_mixInto_1_L29b (N : Nat) (u : xN) (rec5 : Int64 → Int32 → Option Int64) (rec29 : Int64 → Int32 → Int32 → Option Int64) (v3 : Int64) (v5 : Int32) (v6 : Int32) : Option Int64 := gdl [inb v5 6] (if (u.1 3 (Int32.toNatClampNeg v5)) ≤ v6 then rec5 v3 (v5 + (1 : Int32)) else Option.bind (f_X1_cellOf_1 v5 v6 u) (fun r47 => Option.bind (f_X3_mixed v3 r47) (fun r50 => rec29 r50 v5 (v6 + (1 : Int32)))))
set_option maxRecDepth 20000 in
theorem go_X1_mixInto_1_L29b (N : Nat) (u : xN) (rec5 : Int64 → Int32 → Option Int64) (h5 : ∀ (v3 : Int64) (v5 : Int32), xGm md_X1_mixInto_1 (rsL (xU u)) (rec5 v3 v5) 5 [(0, .ref 1), (3, .long v3), (5, .int v5)] [] (xU u)) (rec29 : Int64 → Int32 → Int32 → Option Int64) (h29 : ∀ (v3 : Int64) (v5 : Int32) (v6 : Int32), xGm md_X1_mixInto_1 (rsL (xU u)) (rec29 v3 v5 v6) 29 [(0, .ref 1), (3, .long v3), (5, .int v5), (6, .int v6)] [] (xU u)) (v3 : Int64) (v5 : Int32) (v6 : Int32) : xGm md_X1_mixInto_1 (rsL (xU u)) (f_X1_mixInto_1_L29b N u rec5 rec29 v3 v5 v6) 29 [(0, .ref 1), (3, .long v3), (5, .int v5), (6, .int v6)] [] (xU u) := by
  unfold f_X1_mixInto_1_L29b
  refine xm_blk (bs := [inb v5 6]) (pc' := 38) (lv' := [(0, .ref 1), (3, .long v3), (5, .int v5), (6, .int v6)]) (st' := [.int (u.1 3 (Int32.toNatClampNeg v5)), .int v6]) (u' := (xU u)) [(.iload 6, (0, 0, 0), 0, 0), (.aload_n 0, (0, 0, 0), 0, 0), (.getfield 23, (1, 4, 123), 0, 0), (.iload 5, (0, 0, 0), 0, 0), (.iaload, (0, 0, 0), 0, 0)] (by decide +kernel) rfl ?_
  refine xm_icmp_ge (pc := 38) (off := 22) (tgt := 60) (by decide +kernel) (by decide) ?_ ?_
  · refine xm_blk0 (pc' := 63) (lv' := [(0, .ref 1), (3, .long v3), (5, .int (v5 + (1 : Int32))), (6, .int v6)]) (st' := []) (u' := (xU u)) [(.iinc 5 1, (0, 0, 0), 1, 0)] (by decide +kernel) rfl ?_
    refine xm_goto (pc := 63) (off := -58) (tgt := 5) (by decide +kernel) (by decide) ?_
    refine xm_wk [0, 1, 2] (lv' := [(0, .ref 1), (3, .long v3), (5, .int (v5 + (1 : Int32)))]) rfl ?_
    exact h5 v3 (v5 + (1 : Int32))
  · refine xm_blk0 (pc' := 47) (lv' := [(0, .ref 1), (3, .long v3), (5, .int v5), (6, .int v6)]) (st' := [.int v6, .int v5, .ref 1, .long v3]) (u' := (xU u)) [(.lload_n 3, (0, 0, 0), 0, 0), (.aload_n 0, (0, 0, 0), 0, 0), (.iload 5, (0, 0, 0), 0, 0), (.iload 6, (0, 0, 0), 0, 0)] (by decide +kernel) rfl ?_
    refine xm_Vi (pc := 47) (mz := md_X1_cellOf_1) (idx := 51) (p1 := 809) (a := 1) (as := [.int v5, .int v6]) (st := [.long v3]) (ev_X1_cellOf_1 v5 v6 u) mw_X1_cellOf (by decide +kernel) (by decide +kernel) (by decide) rfl rfl (by decide) rfl (Nat.le_of_ble_eq_true rfl) (fun r47 => ?_)
    refine xm_Nl (pc := 50) (mz := md_X3_mixed) (idx := 45) (as := [.long v3, .int r47]) (st := []) (ev_X3_mixed v3 r47 u) mw_X3_mixed (by decide +kernel) (fun _ h => h.2.2.2.2) (by decide) rfl (Nat.le_of_ble_eq_true rfl) (fun r50 => ?_)
    refine xm_blk0 (pc' := 57) (lv' := [(0, .ref 1), (3, .long r50), (5, .int v5), (6, .int (v6 + (1 : Int32)))]) (st' := []) (u' := (xU u)) [(.lstore_n 3, (0, 0, 0), 0, 0), (.iinc 6 1, (0, 0, 0), 1, 0)] (by decide +kernel) rfl ?_
    refine xm_goto (pc := 57) (off := -28) (tgt := 29) (by decide +kernel) (by decide) ?_
    exact h29 r50 v5 (v6 + (1 : Int32))
def f_X1_mixInto_1_L29 (N : Nat) (u : xN) (rec5 : Int64 → Int32 → Option Int64) : Nat → Int64 → Int32 → Int32 → Option Int64
  | 0 => fun _ _ _ => none
  | n + 1 => fun v3 v5 v6 => f_X1_mixInto_1_L29b N u rec5 (f_X1_mixInto_1_L29 N u rec5 n) v3 v5 v6
theorem go_X1_mixInto_1_L29 (N : Nat) (u : xN) (rec5 : Int64 → Int32 → Option Int64) (h5 : ∀ (v3 : Int64) (v5 : Int32), xGm md_X1_mixInto_1 (rsL (xU u)) (rec5 v3 v5) 5 [(0, .ref 1), (3, .long v3), (5, .int v5)] [] (xU u)) : ∀ (n : Nat) (v3 : Int64) (v5 : Int32) (v6 : Int32), xGm md_X1_mixInto_1 (rsL (xU u)) (f_X1_mixInto_1_L29 N u rec5 n v3 v5 v6) 29 [(0, .ref 1), (3, .long v3), (5, .int v5), (6, .int v6)] [] (xU u) := by
  intro n
  induction n with
  | zero => intro v3 v5 v6; exact xm_none
  | succ n ih => intro v3 v5 v6; exact go_X1_mixInto_1_L29b N u rec5 h5 _ ih v3 v5 v6
def f_X1_mixInto_1_L5b (N : Nat) (u : xN) (rec5 : Int64 → Int32 → Option Int64) (v3 : Int64) (v5 : Int32) : Option Int64 := if (u.1 1 0) ≤ v5 then some v3 else gdl [inb v5 6] (Option.bind (f_X3_mixed v3 (u.1 3 (Int32.toNatClampNeg v5))) (fun r22 => f_X1_mixInto_1_L29 N u rec5 N r22 v5 (0 : Int32)))
set_option maxRecDepth 20000 in
theorem go_X1_mixInto_1_L5b (N : Nat) (u : xN) (rec5 : Int64 → Int32 → Option Int64) (h5 : ∀ (v3 : Int64) (v5 : Int32), xGm md_X1_mixInto_1 (rsL (xU u)) (rec5 v3 v5) 5 [(0, .ref 1), (3, .long v3), (5, .int v5)] [] (xU u)) (v3 : Int64) (v5 : Int32) : xGm md_X1_mixInto_1 (rsL (xU u)) (f_X1_mixInto_1_L5b N u rec5 v3 v5) 5 [(0, .ref 1), (3, .long v3), (5, .int v5)] [] (xU u) := by
  unfold f_X1_mixInto_1_L5b
  refine xm_blk0 (pc' := 11) (lv' := [(0, .ref 1), (3, .long v3), (5, .int v5)]) (st' := [.int (u.1 1 0), .int v5]) (u' := (xU u)) [(.iload 5, (0, 0, 0), 0, 0), (.aload_n 0, (0, 0, 0), 0, 0), (.getfield 7, (1, 0, 118), 0, 0)] (by decide +kernel) rfl ?_
  refine xm_icmp_ge (pc := 11) (off := 55) (tgt := 66) (by decide +kernel) (by decide) ?_ ?_
  · refine xm_blk0 (pc' := 67) (lv' := [(0, .ref 1), (3, .long v3), (5, .int v5)]) (st' := [.long v3]) (u' := (xU u)) [(.lload_n 3, (0, 0, 0), 0, 0)] (by decide +kernel) rfl ?_
    exact xm_lret (pc := 67) (by decide +kernel) rfl rfl
  · refine xm_blk (bs := [inb v5 6]) (pc' := 22) (lv' := [(0, .ref 1), (3, .long v3), (5, .int v5)]) (st' := [.int (u.1 3 (Int32.toNatClampNeg v5)), .long v3]) (u' := (xU u)) [(.lload_n 3, (0, 0, 0), 0, 0), (.aload_n 0, (0, 0, 0), 0, 0), (.getfield 23, (1, 4, 123), 0, 0), (.iload 5, (0, 0, 0), 0, 0), (.iaload, (0, 0, 0), 0, 0)] (by decide +kernel) rfl ?_
    refine xm_Nl (pc := 22) (mz := md_X3_mixed) (idx := 45) (as := [.long v3, .int (u.1 3 (Int32.toNatClampNeg v5))]) (st := []) (ev_X3_mixed v3 (u.1 3 (Int32.toNatClampNeg v5)) u) mw_X3_mixed (by decide +kernel) (fun _ h => h.2.2.2.2) (by decide) rfl (Nat.le_of_ble_eq_true rfl) (fun r22 => ?_)
    refine xm_blk0 (pc' := 29) (lv' := [(0, .ref 1), (3, .long r22), (5, .int v5), (6, .int (0 : Int32))]) (st' := []) (u' := (xU u)) [(.lstore_n 3, (0, 0, 0), 0, 0), (.iconst 0, (0, 0, 0), 0, 0), (.istore 6, (0, 0, 0), 0, 0)] (by decide +kernel) rfl ?_
    exact go_X1_mixInto_1_L29 N u rec5 h5 N r22 v5 (0 : Int32)
def f_X1_mixInto_1_L5 (N : Nat) (u : xN) : Nat → Int64 → Int32 → Option Int64
  | 0 => fun _ _ => none
  | n + 1 => fun v3 v5 => f_X1_mixInto_1_L5b N u (f_X1_mixInto_1_L5 N u n) v3 v5
theorem go_X1_mixInto_1_L5 (N : Nat) (u : xN) : ∀ (n : Nat) (v3 : Int64) (v5 : Int32), xGm md_X1_mixInto_1 (rsL (xU u)) (f_X1_mixInto_1_L5 N u n v3 v5) 5 [(0, .ref 1), (3, .long v3), (5, .int v5)] [] (xU u) := by
  intro n
  induction n with
  | zero => intro v3 v5; exact xm_none
  | succ n ih => intro v3 v5; exact go_X1_mixInto_1_L5b N u _ ih v3 v5
def f_X1_mixInto_1 (N : Nat) (a1 : Int64) (u : xN) : Option Int64 := f_X1_mixInto_1_L5 N u N a1 (0 : Int32)
set_option maxRecDepth 20000 in
theorem go_X1_mixInto_1 (N : Nat) (a1 : Int64) (u : xN) : xGm md_X1_mixInto_1 (rsL (xU u)) (f_X1_mixInto_1 N a1 u) 0 [(0, .ref 1), (1, .long a1)] [] (xU u) := by
  unfold f_X1_mixInto_1
  refine xm_blk0 (pc' := 5) (lv' := [(0, .ref 1), (1, .long a1), (3, .long a1), (5, .int (0 : Int32))]) (st' := []) (u' := (xU u)) [(.lload_n 1, (0, 0, 0), 0, 0), (.lstore_n 3, (0, 0, 0), 0, 0), (.iconst 0, (0, 0, 0), 0, 0), (.istore 5, (0, 0, 0), 0, 0)] (by decide +kernel) rfl ?_
  refine xm_wk [0, 2, 3] (lv' := [(0, .ref 1), (3, .long a1), (5, .int (0 : Int32))]) rfl ?_
  exact go_X1_mixInto_1_L5 N u N a1 (0 : Int32)
theorem ev_X1_mixInto_1 (N : Nat) (a1 : Int64) (u : xN) : ∀ r, f_X1_mixInto_1 N a1 u = some r → xEm md_X1_mixInto_1 yX1_mixInto [.ref 1, .long a1] (xU u) (some (.long r), (xU u)) := xm_met (res := (rsL (xU u))) (as := [.ref 1, .long a1]) (go_X1_mixInto_1 N a1 u) (by decide) rfl (Nat.le_of_ble_eq_true rfl)
/-! NeitherBare$Shelf.mixInto(J)J (4, None) -/
abbrev md_X1_mixInto_4 : xMd := (cX1_mixInto, RX1, 7, some .long, 2)
def f_X1_mixInto_4_L29b (N : Nat) (u : xN) (rec5 : Int64 → Int32 → Option Int64) (rec29 : Int64 → Int32 → Int32 → Option Int64) (v3 : Int64) (v5 : Int32) (v6 : Int32) : Option Int64 := gdl [inb v5 4] (if (u.1 6 (Int32.toNatClampNeg v5)) ≤ v6 then rec5 v3 (v5 + (1 : Int32)) else Option.bind (f_X1_cellOf_4 v5 v6 u) (fun r47 => Option.bind (f_X3_mixed v3 r47) (fun r50 => rec29 r50 v5 (v6 + (1 : Int32)))))
set_option maxRecDepth 20000 in
theorem go_X1_mixInto_4_L29b (N : Nat) (u : xN) (rec5 : Int64 → Int32 → Option Int64) (h5 : ∀ (v3 : Int64) (v5 : Int32), xGm md_X1_mixInto_4 (rsL (xU u)) (rec5 v3 v5) 5 [(0, .ref 4), (3, .long v3), (5, .int v5)] [] (xU u)) (rec29 : Int64 → Int32 → Int32 → Option Int64) (h29 : ∀ (v3 : Int64) (v5 : Int32) (v6 : Int32), xGm md_X1_mixInto_4 (rsL (xU u)) (rec29 v3 v5 v6) 29 [(0, .ref 4), (3, .long v3), (5, .int v5), (6, .int v6)] [] (xU u)) (v3 : Int64) (v5 : Int32) (v6 : Int32) : xGm md_X1_mixInto_4 (rsL (xU u)) (f_X1_mixInto_4_L29b N u rec5 rec29 v3 v5 v6) 29 [(0, .ref 4), (3, .long v3), (5, .int v5), (6, .int v6)] [] (xU u) := by
  unfold f_X1_mixInto_4_L29b
  refine xm_blk (bs := [inb v5 4]) (pc' := 38) (lv' := [(0, .ref 4), (3, .long v3), (5, .int v5), (6, .int v6)]) (st' := [.int (u.1 6 (Int32.toNatClampNeg v5)), .int v6]) (u' := (xU u)) [(.iload 6, (0, 0, 0), 0, 0), (.aload_n 0, (0, 0, 0), 0, 0), (.getfield 23, (1, 4, 123), 0, 0), (.iload 5, (0, 0, 0), 0, 0), (.iaload, (0, 0, 0), 0, 0)] (by decide +kernel) rfl ?_
  refine xm_icmp_ge (pc := 38) (off := 22) (tgt := 60) (by decide +kernel) (by decide) ?_ ?_
  · refine xm_blk0 (pc' := 63) (lv' := [(0, .ref 4), (3, .long v3), (5, .int (v5 + (1 : Int32))), (6, .int v6)]) (st' := []) (u' := (xU u)) [(.iinc 5 1, (0, 0, 0), 1, 0)] (by decide +kernel) rfl ?_
    refine xm_goto (pc := 63) (off := -58) (tgt := 5) (by decide +kernel) (by decide) ?_
    refine xm_wk [0, 1, 2] (lv' := [(0, .ref 4), (3, .long v3), (5, .int (v5 + (1 : Int32)))]) rfl ?_
    exact h5 v3 (v5 + (1 : Int32))
  · refine xm_blk0 (pc' := 47) (lv' := [(0, .ref 4), (3, .long v3), (5, .int v5), (6, .int v6)]) (st' := [.int v6, .int v5, .ref 4, .long v3]) (u' := (xU u)) [(.lload_n 3, (0, 0, 0), 0, 0), (.aload_n 0, (0, 0, 0), 0, 0), (.iload 5, (0, 0, 0), 0, 0), (.iload 6, (0, 0, 0), 0, 0)] (by decide +kernel) rfl ?_
    refine xm_Vi (pc := 47) (mz := md_X1_cellOf_4) (idx := 51) (p1 := 809) (a := 4) (as := [.int v5, .int v6]) (st := [.long v3]) (ev_X1_cellOf_4 v5 v6 u) mw_X1_cellOf (by decide +kernel) (by decide +kernel) (by decide) rfl rfl (by decide) rfl (Nat.le_of_ble_eq_true rfl) (fun r47 => ?_)
    refine xm_Nl (pc := 50) (mz := md_X3_mixed) (idx := 45) (as := [.long v3, .int r47]) (st := []) (ev_X3_mixed v3 r47 u) mw_X3_mixed (by decide +kernel) (fun _ h => h.2.2.2.2) (by decide) rfl (Nat.le_of_ble_eq_true rfl) (fun r50 => ?_)
    refine xm_blk0 (pc' := 57) (lv' := [(0, .ref 4), (3, .long r50), (5, .int v5), (6, .int (v6 + (1 : Int32)))]) (st' := []) (u' := (xU u)) [(.lstore_n 3, (0, 0, 0), 0, 0), (.iinc 6 1, (0, 0, 0), 1, 0)] (by decide +kernel) rfl ?_
    refine xm_goto (pc := 57) (off := -28) (tgt := 29) (by decide +kernel) (by decide) ?_
    exact h29 r50 v5 (v6 + (1 : Int32))
def f_X1_mixInto_4_L29 (N : Nat) (u : xN) (rec5 : Int64 → Int32 → Option Int64) : Nat → Int64 → Int32 → Int32 → Option Int64
  | 0 => fun _ _ _ => none
  | n + 1 => fun v3 v5 v6 => f_X1_mixInto_4_L29b N u rec5 (f_X1_mixInto_4_L29 N u rec5 n) v3 v5 v6
theorem go_X1_mixInto_4_L29 (N : Nat) (u : xN) (rec5 : Int64 → Int32 → Option Int64) (h5 : ∀ (v3 : Int64) (v5 : Int32), xGm md_X1_mixInto_4 (rsL (xU u)) (rec5 v3 v5) 5 [(0, .ref 4), (3, .long v3), (5, .int v5)] [] (xU u)) : ∀ (n : Nat) (v3 : Int64) (v5 : Int32) (v6 : Int32), xGm md_X1_mixInto_4 (rsL (xU u)) (f_X1_mixInto_4_L29 N u rec5 n v3 v5 v6) 29 [(0, .ref 4), (3, .long v3), (5, .int v5), (6, .int v6)] [] (xU u) := by
  intro n
  induction n with
  | zero => intro v3 v5 v6; exact xm_none
  | succ n ih => intro v3 v5 v6; exact go_X1_mixInto_4_L29b N u rec5 h5 _ ih v3 v5 v6
def f_X1_mixInto_4_L5b (N : Nat) (u : xN) (rec5 : Int64 → Int32 → Option Int64) (v3 : Int64) (v5 : Int32) : Option Int64 := if (u.1 4 0) ≤ v5 then some v3 else gdl [inb v5 4] (Option.bind (f_X3_mixed v3 (u.1 6 (Int32.toNatClampNeg v5))) (fun r22 => f_X1_mixInto_4_L29 N u rec5 N r22 v5 (0 : Int32)))
set_option maxRecDepth 20000 in
theorem go_X1_mixInto_4_L5b (N : Nat) (u : xN) (rec5 : Int64 → Int32 → Option Int64) (h5 : ∀ (v3 : Int64) (v5 : Int32), xGm md_X1_mixInto_4 (rsL (xU u)) (rec5 v3 v5) 5 [(0, .ref 4), (3, .long v3), (5, .int v5)] [] (xU u)) (v3 : Int64) (v5 : Int32) : xGm md_X1_mixInto_4 (rsL (xU u)) (f_X1_mixInto_4_L5b N u rec5 v3 v5) 5 [(0, .ref 4), (3, .long v3), (5, .int v5)] [] (xU u) := by
  unfold f_X1_mixInto_4_L5b
  refine xm_blk0 (pc' := 11) (lv' := [(0, .ref 4), (3, .long v3), (5, .int v5)]) (st' := [.int (u.1 4 0), .int v5]) (u' := (xU u)) [(.iload 5, (0, 0, 0), 0, 0), (.aload_n 0, (0, 0, 0), 0, 0), (.getfield 7, (1, 0, 118), 0, 0)] (by decide +kernel) rfl ?_
  refine xm_icmp_ge (pc := 11) (off := 55) (tgt := 66) (by decide +kernel) (by decide) ?_ ?_
  · refine xm_blk0 (pc' := 67) (lv' := [(0, .ref 4), (3, .long v3), (5, .int v5)]) (st' := [.long v3]) (u' := (xU u)) [(.lload_n 3, (0, 0, 0), 0, 0)] (by decide +kernel) rfl ?_
    exact xm_lret (pc := 67) (by decide +kernel) rfl rfl
  · refine xm_blk (bs := [inb v5 4]) (pc' := 22) (lv' := [(0, .ref 4), (3, .long v3), (5, .int v5)]) (st' := [.int (u.1 6 (Int32.toNatClampNeg v5)), .long v3]) (u' := (xU u)) [(.lload_n 3, (0, 0, 0), 0, 0), (.aload_n 0, (0, 0, 0), 0, 0), (.getfield 23, (1, 4, 123), 0, 0), (.iload 5, (0, 0, 0), 0, 0), (.iaload, (0, 0, 0), 0, 0)] (by decide +kernel) rfl ?_
    refine xm_Nl (pc := 22) (mz := md_X3_mixed) (idx := 45) (as := [.long v3, .int (u.1 6 (Int32.toNatClampNeg v5))]) (st := []) (ev_X3_mixed v3 (u.1 6 (Int32.toNatClampNeg v5)) u) mw_X3_mixed (by decide +kernel) (fun _ h => h.2.2.2.2) (by decide) rfl (Nat.le_of_ble_eq_true rfl) (fun r22 => ?_)
    refine xm_blk0 (pc' := 29) (lv' := [(0, .ref 4), (3, .long r22), (5, .int v5), (6, .int (0 : Int32))]) (st' := []) (u' := (xU u)) [(.lstore_n 3, (0, 0, 0), 0, 0), (.iconst 0, (0, 0, 0), 0, 0), (.istore 6, (0, 0, 0), 0, 0)] (by decide +kernel) rfl ?_
    exact go_X1_mixInto_4_L29 N u rec5 h5 N r22 v5 (0 : Int32)
def f_X1_mixInto_4_L5 (N : Nat) (u : xN) : Nat → Int64 → Int32 → Option Int64
  | 0 => fun _ _ => none
  | n + 1 => fun v3 v5 => f_X1_mixInto_4_L5b N u (f_X1_mixInto_4_L5 N u n) v3 v5
theorem go_X1_mixInto_4_L5 (N : Nat) (u : xN) : ∀ (n : Nat) (v3 : Int64) (v5 : Int32), xGm md_X1_mixInto_4 (rsL (xU u)) (f_X1_mixInto_4_L5 N u n v3 v5) 5 [(0, .ref 4), (3, .long v3), (5, .int v5)] [] (xU u) := by
  intro n
  induction n with
  | zero => intro v3 v5; exact xm_none
  | succ n ih => intro v3 v5; exact go_X1_mixInto_4_L5b N u _ ih v3 v5
def f_X1_mixInto_4 (N : Nat) (a1 : Int64) (u : xN) : Option Int64 := f_X1_mixInto_4_L5 N u N a1 (0 : Int32)
set_option maxRecDepth 20000 in
theorem go_X1_mixInto_4 (N : Nat) (a1 : Int64) (u : xN) : xGm md_X1_mixInto_4 (rsL (xU u)) (f_X1_mixInto_4 N a1 u) 0 [(0, .ref 4), (1, .long a1)] [] (xU u) := by
  unfold f_X1_mixInto_4
  refine xm_blk0 (pc' := 5) (lv' := [(0, .ref 4), (1, .long a1), (3, .long a1), (5, .int (0 : Int32))]) (st' := []) (u' := (xU u)) [(.lload_n 1, (0, 0, 0), 0, 0), (.lstore_n 3, (0, 0, 0), 0, 0), (.iconst 0, (0, 0, 0), 0, 0), (.istore 5, (0, 0, 0), 0, 0)] (by decide +kernel) rfl ?_
  refine xm_wk [0, 2, 3] (lv' := [(0, .ref 4), (3, .long a1), (5, .int (0 : Int32))]) rfl ?_
  exact go_X1_mixInto_4_L5 N u N a1 (0 : Int32)
theorem ev_X1_mixInto_4 (N : Nat) (a1 : Int64) (u : xN) : ∀ r, f_X1_mixInto_4 N a1 u = some r → xEm md_X1_mixInto_4 yX1_mixInto [.ref 4, .long a1] (xU u) (some (.long r), (xU u)) := xm_met (res := (rsL (xU u))) (as := [.ref 4, .long a1]) (go_X1_mixInto_4 N a1 u) (by decide) rfl (Nat.le_of_ble_eq_true rfl)
