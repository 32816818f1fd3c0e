theorem mw_X4_worth : xMv yX4_worth cX4_worth 4 (some .int) 1 := xMv_of (p1 := 1260) (p2 := 1258) (p3 := 97) (p4 := 1259) (by decide +kernel)
/-! NeitherBareModel.worth(I)I (39, None) -/
abbrev md_X4_worth : xMd := (cX4_worth, RX4, 4, some .int, 9)
def f_X4_worth_L105 (N : Nat) (t0 : Int32) (u : xN) : Option (Int32 × xN) := some (t0, u)
set_option maxRecDepth 20000 in
theorem go_X4_worth_L105 (N : Nat) (t0 : Int32) (u : xN) : xGm md_X4_worth rsM (f_X4_worth_L105 N t0 u) 105 [] [.int t0] (xU u) := by
  unfold f_X4_worth_L105
  exact xm_iret (pc := 105) (by decide +kernel) rfl rfl
def f_X4_worth (N : Nat) (a1 : Int32) (u : xN) : Option (Int32 × xN) := Option.bind (f_X4_isClause a1 u) (fun r2 => if r2 = (0 : Int32) then some ((-1 : Int32), u) else if (u.1 39 1) = (0 : Int32) then some ((-4 : Int32), u) else gdl [inb (1 : Int32) 1480] (Option.bind (f_X4_has (u.1 40 (Int32.toNatClampNeg (1 : Int32))) a1) (fun r27 => if r27 = (0 : Int32) then some ((0 : Int32), u) else Option.bind (f_X4_best N (1 : Int32) u) (fun r37 => gdl [inb (1 : Int32) 1480, inb (1 : Int32) 1480] (Option.bind (f_X4_best N (1 : Int32) (mI u 40 (Int32.toNatClampNeg (1 : Int32)) ((u.1 40 (Int32.toNatClampNeg (1 : Int32))) ^^^ ((1 : Int32) <<< (a1 &&& 31))))) (fun r55 => gdl [inb (1 : Int32) 1480, inb (1 : Int32) 1480] (if r55 = (-9 : Int32) then f_X4_worth_L105 N (-9 : Int32) (mI (mI u 40 (Int32.toNatClampNeg (1 : Int32)) ((u.1 40 (Int32.toNatClampNeg (1 : Int32))) ^^^ ((1 : Int32) <<< (a1 &&& 31)))) 40 (Int32.toNatClampNeg (1 : Int32)) (((mI u 40 (Int32.toNatClampNeg (1 : Int32)) ((u.1 40 (Int32.toNatClampNeg (1 : Int32))) ^^^ ((1 : Int32) <<< (a1 &&& 31)))).1 40 (Int32.toNatClampNeg (1 : Int32))) ^^^ ((1 : Int32) <<< (a1 &&& 31)))) else if r37 = (-9 : Int32) then f_X4_worth_L105 N (1000 : Int32) (mI (mI u 40 (Int32.toNatClampNeg (1 : Int32)) ((u.1 40 (Int32.toNatClampNeg (1 : Int32))) ^^^ ((1 : Int32) <<< (a1 &&& 31)))) 40 (Int32.toNatClampNeg (1 : Int32)) (((mI u 40 (Int32.toNatClampNeg (1 : Int32)) ((u.1 40 (Int32.toNatClampNeg (1 : Int32))) ^^^ ((1 : Int32) <<< (a1 &&& 31)))).1 40 (Int32.toNatClampNeg (1 : Int32))) ^^^ ((1 : Int32) <<< (a1 &&& 31)))) else Option.bind (f_X4_costOf N r37 (mI (mI u 40 (Int32.toNatClampNeg (1 : Int32)) ((u.1 40 (Int32.toNatClampNeg (1 : Int32))) ^^^ ((1 : Int32) <<< (a1 &&& 31)))) 40 (Int32.toNatClampNeg (1 : Int32)) (((mI u 40 (Int32.toNatClampNeg (1 : Int32)) ((u.1 40 (Int32.toNatClampNeg (1 : Int32))) ^^^ ((1 : Int32) <<< (a1 &&& 31)))).1 40 (Int32.toNatClampNeg (1 : Int32))) ^^^ ((1 : Int32) <<< (a1 &&& 31))))) (fun r96 => Option.bind (f_X4_costOf N r55 (mI (mI u 40 (Int32.toNatClampNeg (1 : Int32)) ((u.1 40 (Int32.toNatClampNeg (1 : Int32))) ^^^ ((1 : Int32) <<< (a1 &&& 31)))) 40 (Int32.toNatClampNeg (1 : Int32)) (((mI u 40 (Int32.toNatClampNeg (1 : Int32)) ((u.1 40 (Int32.toNatClampNeg (1 : Int32))) ^^^ ((1 : Int32) <<< (a1 &&& 31)))).1 40 (Int32.toNatClampNeg (1 : Int32))) ^^^ ((1 : Int32) <<< (a1 &&& 31))))) (fun r101 => f_X4_worth_L105 N (r96 - r101) (mI (mI u 40 (Int32.toNatClampNeg (1 : Int32)) ((u.1 40 (Int32.toNatClampNeg (1 : Int32))) ^^^ ((1 : Int32) <<< (a1 &&& 31)))) 40 (Int32.toNatClampNeg (1 : Int32)) (((mI u 40 (Int32.toNatClampNeg (1 : Int32)) ((u.1 40 (Int32.toNatClampNeg (1 : Int32))) ^^^ ((1 : Int32) <<< (a1 &&& 31)))).1 40 (Int32.toNatClampNeg (1 : Int32))) ^^^ ((1 : Int32) <<< (a1 &&& 31)))))))))))))
set_option maxRecDepth 20000 in
theorem go_X4_worth (N : Nat) (a1 : Int32) (u : xN) : xGm md_X4_worth rsM (f_X4_worth N a1 u) 0 [(0, .ref 39), (1, .int a1)] [] (xU u) := by
  unfold f_X4_worth
  refine xm_blk0 (pc' := 2) (lv' := [(0, .ref 39), (1, .int a1)]) (st' := [.int a1, .ref 39]) (u' := (xU u)) [(.aload_n 0, (0, 0, 0), 0, 0), (.iload_n 1, (0, 0, 0), 0, 0)] (by decide +kernel) rfl ?_
  refine xm_Vi (pc := 2) (mz := md_X4_isClause) (idx := 194) (p1 := 1008) (a := 39) (as := [.int a1]) (st := []) (ev_X4_isClause a1 u) mw_X4_isClause (by decide +kernel) (by decide +kernel) (by decide) rfl rfl (by decide) rfl (Nat.le_of_ble_eq_true rfl) (fun r2 => ?_)
  refine xm_if_ne (pc := 5) (off := 5) (tgt := 10) (by decide +kernel) (by decide) ?_ ?_
  · refine xm_blk0 (pc' := 14) (lv' := [(0, .ref 39), (1, .int a1)]) (st' := [.int (u.1 39 1)]) (u' := (xU u)) [(.aload_n 0, (0, 0, 0), 0, 0), (.getfield 147, (4, 1, 821), 0, 0)] (by decide +kernel) rfl ?_
    refine xm_if_ne (pc := 14) (off := 6) (tgt := 20) (by decide +kernel) (by decide) ?_ ?_
    · refine xm_blk (bs := [inb (1 : Int32) 1480]) (pc' := 27) (lv' := [(0, .ref 39), (1, .int a1)]) (st' := [.int a1, .int (u.1 40 (Int32.toNatClampNeg (1 : Int32)))]) (u' := (xU u)) [(.aload_n 0, (0, 0, 0), 0, 0), (.getfield 7, (4, 0, 820), 0, 0), (.iconst 1, (0, 0, 0), 1, 0), (.iaload, (0, 0, 0), 0, 0), (.iload_n 1, (0, 0, 0), 0, 0)] (by decide +kernel) rfl ?_
      refine xm_Si (pc := 27) (mz := md_X4_has) (idx := 153) (p1 := 1032) (as := [.int (u.1 40 (Int32.toNatClampNeg (1 : Int32))), .int a1]) (st := []) (ev_X4_has (u.1 40 (Int32.toNatClampNeg (1 : Int32))) a1 u) mw_X4_has (by decide +kernel) (by decide +kernel) (by decide) rfl (Nat.le_of_ble_eq_true rfl) (fun r27 => ?_)
      refine xm_if_ne (pc := 30) (off := 5) (tgt := 35) (by decide +kernel) (by decide) ?_ ?_
      · refine xm_blk0 (pc' := 37) (lv' := [(0, .ref 39), (1, .int a1)]) (st' := [.int (1 : Int32), .ref 39]) (u' := (xU u)) [(.aload_n 0, (0, 0, 0), 0, 0), (.iconst 1, (0, 0, 0), 1, 0)] (by decide +kernel) rfl ?_
        refine xm_Vi (pc := 37) (mz := md_X4_best) (idx := 241) (p1 := 1165) (a := 39) (as := [.int (1 : Int32)]) (st := []) (ev_X4_best N (1 : Int32) u) mw_X4_best (by decide +kernel) (by decide +kernel) (by decide) rfl rfl (by decide) rfl (Nat.le_of_ble_eq_true rfl) (fun r37 => ?_)
        refine xm_blk (bs := [inb (1 : Int32) 1480, inb (1 : Int32) 1480]) (pc' := 55) (lv' := [(0, .ref 39), (1, .int a1), (2, .int r37)]) (st' := [.int (1 : Int32), .ref 39]) (u' := (xU (mI u 40 (Int32.toNatClampNeg (1 : Int32)) ((u.1 40 (Int32.toNatClampNeg (1 : Int32))) ^^^ ((1 : Int32) <<< (a1 &&& 31)))))) [(.istore_n 2, (0, 0, 0), 0, 0), (.aload_n 0, (0, 0, 0), 0, 0), (.getfield 7, (4, 0, 820), 0, 0), (.iconst 1, (0, 0, 0), 1, 0), (.dup2, (0, 0, 0), 0, 0), (.iaload, (0, 0, 0), 0, 0), (.iconst 1, (0, 0, 0), 1, 0), (.iload_n 1, (0, 0, 0), 0, 0), (.ishl, (0, 0, 0), 0, 0), (.ixor, (0, 0, 0), 0, 0), (.iastore, (0, 0, 0), 0, 0), (.aload_n 0, (0, 0, 0), 0, 0), (.iconst 1, (0, 0, 0), 1, 0)] (by decide +kernel) rfl ?_
        refine xm_Vi (pc := 55) (mz := md_X4_best) (idx := 241) (p1 := 1165) (a := 39) (as := [.int (1 : Int32)]) (st := []) (ev_X4_best N (1 : Int32) (mI u 40 (Int32.toNatClampNeg (1 : Int32)) ((u.1 40 (Int32.toNatClampNeg (1 : Int32))) ^^^ ((1 : Int32) <<< (a1 &&& 31))))) mw_X4_best (by decide +kernel) (by decide +kernel) (by decide) rfl rfl (by decide) rfl (Nat.le_of_ble_eq_true rfl) (fun r55 => ?_)
        refine xm_blk (bs := [inb (1 : Int32) 1480, inb (1 : Int32) 1480]) (pc' := 74) (lv' := [(0, .ref 39), (1, .int a1), (2, .int r37), (3, .int r55)]) (st' := [.int (-9 : Int32), .int r55]) (u' := (xU (mI (mI u 40 (Int32.toNatClampNeg (1 : Int32)) ((u.1 40 (Int32.toNatClampNeg (1 : Int32))) ^^^ ((1 : Int32) <<< (a1 &&& 31)))) 40 (Int32.toNatClampNeg (1 : Int32)) (((mI u 40 (Int32.toNatClampNeg (1 : Int32)) ((u.1 40 (Int32.toNatClampNeg (1 : Int32))) ^^^ ((1 : Int32) <<< (a1 &&& 31)))).1 40 (Int32.toNatClampNeg (1 : Int32))) ^^^ ((1 : Int32) <<< (a1 &&& 31)))))) [(.istore_n 3, (0, 0, 0), 0, 0), (.aload_n 0, (0, 0, 0), 0, 0), (.getfield 7, (4, 0, 820), 0, 0), (.iconst 1, (0, 0, 0), 1, 0), (.dup2, (0, 0, 0), 0, 0), (.iaload, (0, 0, 0), 0, 0), (.iconst 1, (0, 0, 0), 1, 0), (.iload_n 1, (0, 0, 0), 0, 0), (.ishl, (0, 0, 0), 0, 0), (.ixor, (0, 0, 0), 0, 0), (.iastore, (0, 0, 0), 0, 0), (.iload_n 3, (0, 0, 0), 0, 0), (.bipush (-9), (0, 0, 0), -9, 0)] (by decide +kernel) rfl ?_
        refine xm_icmp_ne (pc := 74) (off := 8) (tgt := 82) (by decide +kernel) (by decide) ?_ ?_
        · refine xm_blk0 (pc' := 85) (lv' := [(0, .ref 39), (1, .int a1), (2, .int r37), (3, .int r55)]) (st' := [.int (-9 : Int32), .int r37]) (u' := (xU (mI (mI u 40 (Int32.toNatClampNeg (1 : Int32)) ((u.1 40 (Int32.toNatClampNeg (1 : Int32))) ^^^ ((1 : Int32) <<< (a1 &&& 31)))) 40 (Int32.toNatClampNeg (1 : Int32)) (((mI u 40 (Int32.toNatClampNeg (1 : Int32)) ((u.1 40 (Int32.toNatClampNeg (1 : Int32))) ^^^ ((1 : Int32) <<< (a1 &&& 31)))).1 40 (Int32.toNatClampNeg (1 : Int32))) ^^^ ((1 : Int32) <<< (a1 &&& 31)))))) [(.iload_n 2, (0, 0, 0), 0, 0), (.bipush (-9), (0, 0, 0), -9, 0)] (by decide +kernel) rfl ?_
          refine xm_icmp_ne (pc := 85) (off := 9) (tgt := 94) (by decide +kernel) (by decide) ?_ ?_
          · refine xm_blk0 (pc' := 96) (lv' := [(0, .ref 39), (1, .int a1), (2, .int r37), (3, .int r55)]) (st' := [.int r37, .ref 39]) (u' := (xU (mI (mI u 40 (Int32.toNatClampNeg (1 : Int32)) ((u.1 40 (Int32.toNatClampNeg (1 : Int32))) ^^^ ((1 : Int32) <<< (a1 &&& 31)))) 40 (Int32.toNatClampNeg (1 : Int32)) (((mI u 40 (Int32.toNatClampNeg (1 : Int32)) ((u.1 40 (Int32.toNatClampNeg (1 : Int32))) ^^^ ((1 : Int32) <<< (a1 &&& 31)))).1 40 (Int32.toNatClampNeg (1 : Int32))) ^^^ ((1 : Int32) <<< (a1 &&& 31)))))) [(.aload_n 0, (0, 0, 0), 0, 0), (.iload_n 2, (0, 0, 0), 0, 0)] (by decide +kernel) rfl ?_
            refine xm_Vi (pc := 96) (mz := md_X4_costOf) (idx := 232) (p1 := 1133) (a := 39) (as := [.int r37]) (st := []) (ev_X4_costOf N r37 (mI (mI u 40 (Int32.toNatClampNeg (1 : Int32)) ((u.1 40 (Int32.toNatClampNeg (1 : Int32))) ^^^ ((1 : Int32) <<< (a1 &&& 31)))) 40 (Int32.toNatClampNeg (1 : Int32)) (((mI u 40 (Int32.toNatClampNeg (1 : Int32)) ((u.1 40 (Int32.toNatClampNeg (1 : Int32))) ^^^ ((1 : Int32) <<< (a1 &&& 31)))).1 40 (Int32.toNatClampNeg (1 : Int32))) ^^^ ((1 : Int32) <<< (a1 &&& 31))))) mw_X4_costOf (by decide +kernel) (by decide +kernel) (by decide) rfl rfl (by decide) rfl (Nat.le_of_ble_eq_true rfl) (fun r96 => ?_)
            refine xm_blk0 (pc' := 101) (lv' := [(0, .ref 39), (1, .int a1), (2, .int r37), (3, .int r55)]) (st' := [.int r55, .ref 39, .int r96]) (u' := (xU (mI (mI u 40 (Int32.toNatClampNeg (1 : Int32)) ((u.1 40 (Int32.toNatClampNeg (1 : Int32))) ^^^ ((1 : Int32) <<< (a1 &&& 31)))) 40 (Int32.toNatClampNeg (1 : Int32)) (((mI u 40 (Int32.toNatClampNeg (1 : Int32)) ((u.1 40 (Int32.toNatClampNeg (1 : Int32))) ^^^ ((1 : Int32) <<< (a1 &&& 31)))).1 40 (Int32.toNatClampNeg (1 : Int32))) ^^^ ((1 : Int32) <<< (a1 &&& 31)))))) [(.aload_n 0, (0, 0, 0), 0, 0), (.iload_n 3, (0, 0, 0), 0, 0)] (by decide +kernel) rfl ?_
            refine xm_Vi (pc := 101) (mz := md_X4_costOf) (idx := 232) (p1 := 1133) (a := 39) (as := [.int r55]) (st := [.int r96]) (ev_X4_costOf N r55 (mI (mI u 40 (Int32.toNatClampNeg (1 : Int32)) ((u.1 40 (Int32.toNatClampNeg (1 : Int32))) ^^^ ((1 : Int32) <<< (a1 &&& 31)))) 40 (Int32.toNatClampNeg (1 : Int32)) (((mI u 40 (Int32.toNatClampNeg (1 : Int32)) ((u.1 40 (Int32.toNatClampNeg (1 : Int32))) ^^^ ((1 : Int32) <<< (a1 &&& 31)))).1 40 (Int32.toNatClampNeg (1 : Int32))) ^^^ ((1 : Int32) <<< (a1 &&& 31))))) mw_X4_costOf (by decide +kernel) (by decide +kernel) (by decide) rfl rfl (by decide) rfl (Nat.le_of_ble_eq_true rfl) (fun r101 => ?_)
            refine xm_blk0 (pc' := 105) (lv' := [(0, .ref 39), (1, .int a1), (2, .int r37), (3, .int r55)]) (st' := [.int (r96 - r101)]) (u' := (xU (mI (mI u 40 (Int32.toNatClampNeg (1 : Int32)) ((u.1 40 (Int32.toNatClampNeg (1 : Int32))) ^^^ ((1 : Int32) <<< (a1 &&& 31)))) 40 (Int32.toNatClampNeg (1 : Int32)) (((mI u 40 (Int32.toNatClampNeg (1 : Int32)) ((u.1 40 (Int32.toNatClampNeg (1 : Int32))) ^^^ ((1 : Int32) <<< (a1 &&& 31)))).1 40 (Int32.toNatClampNeg (1 : Int32))) ^^^ ((1 : Int32) <<< (a1 &&& 31)))))) [(.isub, (0, 0, 0), 0, 0)] (by decide +kernel) rfl ?_
            refine xm_wk [] (lv' := []) rfl ?_
            exact go_X4_worth_L105 N (r96 - r101) (mI (mI u 40 (Int32.toNatClampNeg (1 : Int32)) ((u.1 40 (Int32.toNatClampNeg (1 : Int32))) ^^^ ((1 : Int32) <<< (a1 &&& 31)))) 40 (Int32.toNatClampNeg (1 : Int32)) (((mI u 40 (Int32.toNatClampNeg (1 : Int32)) ((u.1 40 (Int32.toNatClampNeg (1 : Int32))) ^^^ ((1 : Int32) <<< (a1 &&& 31)))).1 40 (Int32.toNatClampNeg (1 : Int32))) ^^^ ((1 : Int32) <<< (a1 &&& 31))))
          · refine xm_blk0 (pc' := 91) (lv' := [(0, .ref 39), (1, .int a1), (2, .int r37), (3, .int r55)]) (st' := [.int (1000 : Int32)]) (u' := (xU (mI (mI u 40 (Int32.toNatClampNeg (1 : Int32)) ((u.1 40 (Int32.toNatClampNeg (1 : Int32))) ^^^ ((1 : Int32) <<< (a1 &&& 31)))) 40 (Int32.toNatClampNeg (1 : Int32)) (((mI u 40 (Int32.toNatClampNeg (1 : Int32)) ((u.1 40 (Int32.toNatClampNeg (1 : Int32))) ^^^ ((1 : Int32) <<< (a1 &&& 31)))).1 40 (Int32.toNatClampNeg (1 : Int32))) ^^^ ((1 : Int32) <<< (a1 &&& 31)))))) [(.sipush 1000, (0, 0, 0), 1000, 0)] (by decide +kernel) rfl ?_
            refine xm_goto (pc := 91) (off := 14) (tgt := 105) (by decide +kernel) (by decide) ?_
            refine xm_wk [] (lv' := []) rfl ?_
            exact go_X4_worth_L105 N (1000 : Int32) (mI (mI u 40 (Int32.toNatClampNeg (1 : Int32)) ((u.1 40 (Int32.toNatClampNeg (1 : Int32))) ^^^ ((1 : Int32) <<< (a1 &&& 31)))) 40 (Int32.toNatClampNeg (1 : Int32)) (((mI u 40 (Int32.toNatClampNeg (1 : Int32)) ((u.1 40 (Int32.toNatClampNeg (1 : Int32))) ^^^ ((1 : Int32) <<< (a1 &&& 31)))).1 40 (Int32.toNatClampNeg (1 : Int32))) ^^^ ((1 : Int32) <<< (a1 &&& 31))))
        · refine xm_blk0 (pc' := 79) (lv' := [(0, .ref 39), (1, .int a1), (2, .int r37), (3, .int r55)]) (st' := [.int (-9 : Int32)]) (u' := (xU (mI (mI u 40 (Int32.toNatClampNeg (1 : Int32)) ((u.1 40 (Int32.toNatClampNeg (1 : Int32))) ^^^ ((1 : Int32) <<< (a1 &&& 31)))) 40 (Int32.toNatClampNeg (1 : Int32)) (((mI u 40 (Int32.toNatClampNeg (1 : Int32)) ((u.1 40 (Int32.toNatClampNeg (1 : Int32))) ^^^ ((1 : Int32) <<< (a1 &&& 31)))).1 40 (Int32.toNatClampNeg (1 : Int32))) ^^^ ((1 : Int32) <<< (a1 &&& 31)))))) [(.bipush (-9), (0, 0, 0), -9, 0)] (by decide +kernel) rfl ?_
          refine xm_goto (pc := 79) (off := 26) (tgt := 105) (by decide +kernel) (by decide) ?_
          refine xm_wk [] (lv' := []) rfl ?_
          exact go_X4_worth_L105 N (-9 : Int32) (mI (mI u 40 (Int32.toNatClampNeg (1 : Int32)) ((u.1 40 (Int32.toNatClampNeg (1 : Int32))) ^^^ ((1 : Int32) <<< (a1 &&& 31)))) 40 (Int32.toNatClampNeg (1 : Int32)) (((mI u 40 (Int32.toNatClampNeg (1 : Int32)) ((u.1 40 (Int32.toNatClampNeg (1 : Int32))) ^^^ ((1 : Int32) <<< (a1 &&& 31)))).1 40 (Int32.toNatClampNeg (1 : Int32))) ^^^ ((1 : Int32) <<< (a1 &&& 31))))
      · refine xm_blk0 (pc' := 34) (lv' := [(0, .ref 39), (1, .int a1)]) (st' := [.int (0 : Int32)]) (u' := (xU u)) [(.iconst 0, (0, 0, 0), 0, 0)] (by decide +kernel) rfl ?_
        exact xm_iret (pc := 34) (by decide +kernel) rfl rfl
    · refine xm_blk0 (pc' := 19) (lv' := [(0, .ref 39), (1, .int a1)]) (st' := [.int (-4 : Int32)]) (u' := (xU u)) [(.bipush (-4), (0, 0, 0), -4, 0)] (by decide +kernel) rfl ?_
      exact xm_iret (pc := 19) (by decide +kernel) rfl rfl
  · refine xm_blk0 (pc' := 9) (lv' := [(0, .ref 39), (1, .int a1)]) (st' := [.int (-1 : Int32)]) (u' := (xU u)) [(.iconst (-1), (0, 0, 0), -1, 0)] (by decide +kernel) rfl ?_
    exact xm_iret (pc := 9) (by decide +kernel) rfl rfl
theorem ev_X4_worth (N : Nat) (a1 : Int32) (u : xN) : ∀ r, f_X4_worth N a1 u = some r → xEm md_X4_worth yX4_worth [.ref 39, .int a1] (xU u) (some (.int r.1), xU r.2) := xm_met (res := rsM) (as := [.ref 39, .int a1]) (go_X4_worth N a1 u) (by decide) rfl (Nat.le_of_ble_eq_true rfl)
theorem mw_X4_falls : xMv yX4_falls cX4_falls 10 (some .int) 3 := xMv_of (p1 := 1264) (p2 := 1262) (p3 := 97) (p4 := 1263) (by decide +kernel)
/-! NeitherBareModel.falls(III)I (39, None, None, None) -/
abbrev md_X4_falls : xMd := (cX4_falls, RX4, 10, some .int, 8)
def f_X4_falls_L15 (N : Nat) (u : xN) : Option (Int32 × xN) := some ((-1 : Int32), u)
set_option maxRecDepth 20000 in
theorem go_X4_falls_L15 (N : Nat) (u : xN) : xGm md_X4_falls rsM (f_X4_falls_L15 N u) 15 [] [] (xU u) := by
  unfold f_X4_falls_L15
  refine xm_blk0 (pc' := 16) (lv' := []) (st' := [.int (-1 : Int32)]) (u' := (xU u)) [(.iconst (-1), (0, 0, 0), -1, 0)] (by decide +kernel) rfl ?_
  exact xm_iret (pc := 16) (by decide +kernel) rfl rfl
def f_X4_falls_L141 (N : Nat) (rec59 : Int32 → Int32 → Int32 → Int32 → Int32 → xN → Option (Int32 × xN)) (v3 : Int32) (v4 : Int32) (v5 : Int32) (v6 : Int32) (v7 : Int32) (t0 : Int32) (t1 : Int32) (u : xN) : Option (Int32 × xN) := rec59 v3 v4 v5 v6 (v7 + (1 : Int32)) (mI u 39 11 (t1 + t0))
set_option maxRecDepth 20000 in
theorem go_X4_falls_L141 (N : Nat) (rec59 : Int32 → Int32 → Int32 → Int32 → Int32 → xN → Option (Int32 × xN)) (h59 : ∀ (v3 : Int32) (v4 : Int32) (v5 : Int32) (v6 : Int32) (v7 : Int32) (u : xN), xGm md_X4_falls rsM (rec59 v3 v4 v5 v6 v7 u) 59 [(0, .ref 39), (3, .int v3), (4, .int v4), (5, .int v5), (6, .int v6), (7, .int v7)] [] (xU u)) (v3 : Int32) (v4 : Int32) (v5 : Int32) (v6 : Int32) (v7 : Int32) (t0 : Int32) (t1 : Int32) (u : xN) : xGm md_X4_falls rsM (f_X4_falls_L141 N rec59 v3 v4 v5 v6 v7 t0 t1 u) 141 [(0, .ref 39), (3, .int v3), (4, .int v4), (5, .int v5), (6, .int v6), (7, .int v7)] [.int t0, .int t1, .ref 39] (xU u) := by
  unfold f_X4_falls_L141
  refine xm_blk0 (pc' := 148) (lv' := [(0, .ref 39), (3, .int v3), (4, .int v4), (5, .int v5), (6, .int v6), (7, .int (v7 + (1 : Int32)))]) (st' := []) (u' := (xU (mI u 39 11 (t1 + t0)))) [(.iadd, (0, 0, 0), 0, 0), (.putfield 67, (4, 11, 831), 0, 0), (.iinc 7 1, (0, 0, 0), 1, 0)] (by decide +kernel) rfl ?_
  refine xm_goto (pc := 148) (off := -89) (tgt := 59) (by decide +kernel) (by decide) ?_
  exact h59 v3 v4 v5 v6 (v7 + (1 : Int32)) (mI u 39 11 (t1 + t0))
def f_X4_falls_L140 (N : Nat) (rec59 : Int32 → Int32 → Int32 → Int32 → Int32 → xN → Option (Int32 × xN)) (v3 : Int32) (v4 : Int32) (v5 : Int32) (v6 : Int32) (v7 : Int32) (t0 : Int32) (u : xN) : Option (Int32 × xN) := f_X4_falls_L141 N rec59 v3 v4 v5 v6 v7 (0 : Int32) t0 u
set_option maxRecDepth 20000 in
theorem go_X4_falls_L140 (N : Nat) (rec59 : Int32 → Int32 → Int32 → Int32 → Int32 → xN → Option (Int32 × xN)) (h59 : ∀ (v3 : Int32) (v4 : Int32) (v5 : Int32) (v6 : Int32) (v7 : Int32) (u : xN), xGm md_X4_falls rsM (rec59 v3 v4 v5 v6 v7 u) 59 [(0, .ref 39), (3, .int v3), (4, .int v4), (5, .int v5), (6, .int v6), (7, .int v7)] [] (xU u)) (v3 : Int32) (v4 : Int32) (v5 : Int32) (v6 : Int32) (v7 : Int32) (t0 : Int32) (u : xN) : xGm md_X4_falls rsM (f_X4_falls_L140 N rec59 v3 v4 v5 v6 v7 t0 u) 140 [(0, .ref 39), (3, .int v3), (4, .int v4), (5, .int v5), (6, .int v6), (7, .int v7)] [.int t0, .ref 39] (xU u) := by
  unfold f_X4_falls_L140
  refine xm_blk0 (pc' := 141) (lv' := [(0, .ref 39), (3, .int v3), (4, .int v4), (5, .int v5), (6, .int v6), (7, .int v7)]) (st' := [.int (0 : Int32), .int t0, .ref 39]) (u' := (xU u)) [(.iconst 0, (0, 0, 0), 0, 0)] (by decide +kernel) rfl ?_
  exact go_X4_falls_L141 N rec59 h59 v3 v4 v5 v6 v7 (0 : Int32) t0 u
def f_X4_falls_L118 (N : Nat) (rec59 : Int32 → Int32 → Int32 → Int32 → Int32 → xN → Option (Int32 × xN)) (v3 : Int32) (v4 : Int32) (v5 : Int32) (v7 : Int32) (v8 : Int32) (v9 : Int32) (t0 : Int32) (t1 : Int32) (u : xN) : Option (Int32 × xN) := if v8 = (0 : Int32) then (if v9 = (0 : Int32) then f_X4_falls_L140 N rec59 v3 v4 v5 (t1 + t0) v7 (u.1 39 11) u else f_X4_falls_L141 N rec59 v3 v4 v5 (t1 + t0) v7 (1 : Int32) (u.1 39 11) u) else f_X4_falls_L140 N rec59 v3 v4 v5 (t1 + t0) v7 (u.1 39 11) u
set_option maxRecDepth 20000 in
theorem go_X4_falls_L118 (N : Nat) (rec59 : Int32 → Int32 → Int32 → Int32 → Int32 → xN → Option (Int32 × xN)) (h59 : ∀ (v3 : Int32) (v4 : Int32) (v5 : Int32) (v6 : Int32) (v7 : Int32) (u : xN), xGm md_X4_falls rsM (rec59 v3 v4 v5 v6 v7 u) 59 [(0, .ref 39), (3, .int v3), (4, .int v4), (5, .int v5), (6, .int v6), (7, .int v7)] [] (xU u)) (v3 : Int32) (v4 : Int32) (v5 : Int32) (v7 : Int32) (v8 : Int32) (v9 : Int32) (t0 : Int32) (t1 : Int32) (u : xN) : xGm md_X4_falls rsM (f_X4_falls_L118 N rec59 v3 v4 v5 v7 v8 v9 t0 t1 u) 118 [(0, .ref 39), (3, .int v3), (4, .int v4), (5, .int v5), (7, .int v7), (8, .int v8), (9, .int v9)] [.int t0, .int t1] (xU u) := by
  unfold f_X4_falls_L118
  refine xm_blk0 (pc' := 128) (lv' := [(0, .ref 39), (3, .int v3), (4, .int v4), (5, .int v5), (6, .int (t1 + t0)), (7, .int v7), (8, .int v8), (9, .int v9)]) (st' := [.int v8, .int (u.1 39 11), .ref 39]) (u' := (xU u)) [(.iadd, (0, 0, 0), 0, 0), (.istore 6, (0, 0, 0), 0, 0), (.aload_n 0, (0, 0, 0), 0, 0), (.dup, (0, 0, 0), 0, 0), (.getfield 67, (4, 11, 831), 0, 0), (.iload 8, (0, 0, 0), 0, 0)] (by decide +kernel) rfl ?_
  refine xm_if_ne (pc := 128) (off := 12) (tgt := 140) (by decide +kernel) (by decide) ?_ ?_
  · refine xm_wk [0, 1, 2, 3, 4, 5] (lv' := [(0, .ref 39), (3, .int v3), (4, .int v4), (5, .int v5), (6, .int (t1 + t0)), (7, .int v7)]) rfl ?_
    exact go_X4_falls_L140 N rec59 h59 v3 v4 v5 (t1 + t0) v7 (u.1 39 11) u
  · refine xm_blk0 (pc' := 133) (lv' := [(0, .ref 39), (3, .int v3), (4, .int v4), (5, .int v5), (6, .int (t1 + t0)), (7, .int v7), (8, .int v8), (9, .int v9)]) (st' := [.int v9, .int (u.1 39 11), .ref 39]) (u' := (xU u)) [(.iload 9, (0, 0, 0), 0, 0)] (by decide +kernel) rfl ?_
    refine xm_if_eq (pc := 133) (off := 7) (tgt := 140) (by decide +kernel) (by decide) ?_ ?_
    · refine xm_wk [0, 1, 2, 3, 4, 5] (lv' := [(0, .ref 39), (3, .int v3), (4, .int v4), (5, .int v5), (6, .int (t1 + t0)), (7, .int v7)]) rfl ?_
      exact go_X4_falls_L140 N rec59 h59 v3 v4 v5 (t1 + t0) v7 (u.1 39 11) u
    · refine xm_blk0 (pc' := 137) (lv' := [(0, .ref 39), (3, .int v3), (4, .int v4), (5, .int v5), (6, .int (t1 + t0)), (7, .int v7), (8, .int v8), (9, .int v9)]) (st' := [.int (1 : Int32), .int (u.1 39 11), .ref 39]) (u' := (xU u)) [(.iconst 1, (0, 0, 0), 1, 0)] (by decide +kernel) rfl ?_
      refine xm_goto (pc := 137) (off := 4) (tgt := 141) (by decide +kernel) (by decide) ?_
      refine xm_wk [0, 1, 2, 3, 4, 5] (lv' := [(0, .ref 39), (3, .int v3), (4, .int v4), (5, .int v5), (6, .int (t1 + t0)), (7, .int v7)]) rfl ?_
      exact go_X4_falls_L141 N rec59 h59 v3 v4 v5 (t1 + t0) v7 (1 : Int32) (u.1 39 11) u
def f_X4_falls_L117 (N : Nat) (rec59 : Int32 → Int32 → Int32 → Int32 → Int32 → xN → Option (Int32 × xN)) (v3 : Int32) (v4 : Int32) (v5 : Int32) (v7 : Int32) (v8 : Int32) (v9 : Int32) (t0 : Int32) (u : xN) : Option (Int32 × xN) := f_X4_falls_L118 N rec59 v3 v4 v5 v7 v8 v9 (0 : Int32) t0 u
set_option maxRecDepth 20000 in
theorem go_X4_falls_L117 (N : Nat) (rec59 : Int32 → Int32 → Int32 → Int32 → Int32 → xN → Option (Int32 × xN)) (h59 : ∀ (v3 : Int32) (v4 : Int32) (v5 : Int32) (v6 : Int32) (v7 : Int32) (u : xN), xGm md_X4_falls rsM (rec59 v3 v4 v5 v6 v7 u) 59 [(0, .ref 39), (3, .int v3), (4, .int v4), (5, .int v5), (6, .int v6), (7, .int v7)] [] (xU u)) (v3 : Int32) (v4 : Int32) (v5 : Int32) (v7 : Int32) (v8 : Int32) (v9 : Int32) (t0 : Int32) (u : xN) : xGm md_X4_falls rsM (f_X4_falls_L117 N rec59 v3 v4 v5 v7 v8 v9 t0 u) 117 [(0, .ref 39), (3, .int v3), (4, .int v4), (5, .int v5), (7, .int v7), (8, .int v8), (9, .int v9)] [.int t0] (xU u) := by
  unfold f_X4_falls_L117
  refine xm_blk0 (pc' := 118) (lv' := [(0, .ref 39), (3, .int v3), (4, .int v4), (5, .int v5), (7, .int v7), (8, .int v8), (9, .int v9)]) (st' := [.int (0 : Int32), .int t0]) (u' := (xU u)) [(.iconst 0, (0, 0, 0), 0, 0)] (by decide +kernel) rfl ?_
  exact go_X4_falls_L118 N rec59 h59 v3 v4 v5 v7 v8 v9 (0 : Int32) t0 u
def f_X4_falls_L59b (N : Nat) (rec59 : Int32 → Int32 → Int32 → Int32 → Int32 → xN → Option (Int32 × xN)) (v3 : Int32) (v4 : Int32) (v5 : Int32) (v6 : Int32) (v7 : Int32) (u : xN) : Option (Int32 × xN) := Option.bind (f_X4_ways u) (fun r62 => if r62 ≤ v7 then some (v6, u) else Option.bind (f_X4_isGood N v7 u) (fun r71 => gdl [inb v4 1480] (Option.bind (f_X4_isGood N v7 (mI u 40 (Int32.toNatClampNeg v4) v3)) (fun r87 => gdl [inb v4 1480] (if r71 = (0 : Int32) then f_X4_falls_L117 N rec59 v3 v4 v5 v7 r71 r87 v6 (mI (mI u 40 (Int32.toNatClampNeg v4) v3) 40 (Int32.toNatClampNeg v4) v5) else if r87 = (0 : Int32) then f_X4_falls_L118 N rec59 v3 v4 v5 v7 r71 r87 (1 : Int32) v6 (mI (mI u 40 (Int32.toNatClampNeg v4) v3) 40 (Int32.toNatClampNeg v4) v5) else f_X4_falls_L117 N rec59 v3 v4 v5 v7 r71 r87 v6 (mI (mI u 40 (Int32.toNatClampNeg v4) v3) 40 (Int32.toNatClampNeg v4) v5))))))
set_option maxRecDepth 20000 in
theorem go_X4_falls_L59b (N : Nat) (rec59 : Int32 → Int32 → Int32 → Int32 → Int32 → xN → Option (Int32 × xN)) (h59 : ∀ (v3 : Int32) (v4 : Int32) (v5 : Int32) (v6 : Int32) (v7 : Int32) (u : xN), xGm md_X4_falls rsM (rec59 v3 v4 v5 v6 v7 u) 59 [(0, .ref 39), (3, .int v3), (4, .int v4), (5, .int v5), (6, .int v6), (7, .int v7)] [] (xU u)) (v3 : Int32) (v4 : Int32) (v5 : Int32) (v6 : Int32) (v7 : Int32) (u : xN) : xGm md_X4_falls rsM (f_X4_falls_L59b N rec59 v3 v4 v5 v6 v7 u) 59 [(0, .ref 39), (3, .int v3), (4, .int v4), (5, .int v5), (6, .int v6), (7, .int v7)] [] (xU u) := by
  unfold f_X4_falls_L59b
  refine xm_blk0 (pc' := 62) (lv' := [(0, .ref 39), (3, .int v3), (4, .int v4), (5, .int v5), (6, .int v6), (7, .int v7)]) (st' := [.ref 39, .int v7]) (u' := (xU u)) [(.iload 7, (0, 0, 0), 0, 0), (.aload_n 0, (0, 0, 0), 0, 0)] (by decide +kernel) rfl ?_
  refine xm_Vi (pc := 62) (mz := md_X4_ways) (idx := 150) (p1 := 1020) (a := 39) (as := []) (st := [.int v7]) (ev_X4_ways u) mw_X4_ways (by decide +kernel) (by decide +kernel) (by decide) rfl rfl (by decide) rfl (Nat.le_of_ble_eq_true rfl) (fun r62 => ?_)
  refine xm_icmp_ge (pc := 65) (off := 86) (tgt := 151) (by decide +kernel) (by decide) ?_ ?_
  · refine xm_blk0 (pc' := 153) (lv' := [(0, .ref 39), (3, .int v3), (4, .int v4), (5, .int v5), (6, .int v6), (7, .int v7)]) (st' := [.int v6]) (u' := (xU u)) [(.iload 6, (0, 0, 0), 0, 0)] (by decide +kernel) rfl ?_
    exact xm_iret (pc := 153) (by decide +kernel) rfl rfl
  · refine xm_blk0 (pc' := 71) (lv' := [(0, .ref 39), (3, .int v3), (4, .int v4), (5, .int v5), (6, .int v6), (7, .int v7)]) (st' := [.int v7, .ref 39]) (u' := (xU u)) [(.aload_n 0, (0, 0, 0), 0, 0), (.iload 7, (0, 0, 0), 0, 0)] (by decide +kernel) rfl ?_
    refine xm_Vi (pc := 71) (mz := md_X4_isGood) (idx := 235) (p1 := 1141) (a := 39) (as := [.int v7]) (st := []) (ev_X4_isGood N v7 u) mw_X4_isGood (by decide +kernel) (by decide +kernel) (by decide) rfl rfl (by decide) rfl (Nat.le_of_ble_eq_true rfl) (fun r71 => ?_)
    refine xm_blk (bs := [inb v4 1480]) (pc' := 87) (lv' := [(0, .ref 39), (3, .int v3), (4, .int v4), (5, .int v5), (6, .int v6), (7, .int v7), (8, .int r71)]) (st' := [.int v7, .ref 39]) (u' := (xU (mI u 40 (Int32.toNatClampNeg v4) v3))) [(.istore 8, (0, 0, 0), 0, 0), (.aload_n 0, (0, 0, 0), 0, 0), (.getfield 7, (4, 0, 820), 0, 0), (.iload 4, (0, 0, 0), 0, 0), (.iload_n 3, (0, 0, 0), 0, 0), (.iastore, (0, 0, 0), 0, 0), (.aload_n 0, (0, 0, 0), 0, 0), (.iload 7, (0, 0, 0), 0, 0)] (by decide +kernel) rfl ?_
    refine xm_Vi (pc := 87) (mz := md_X4_isGood) (idx := 235) (p1 := 1141) (a := 39) (as := [.int v7]) (st := []) (ev_X4_isGood N v7 (mI u 40 (Int32.toNatClampNeg v4) v3)) mw_X4_isGood (by decide +kernel) (by decide +kernel) (by decide) rfl rfl (by decide) rfl (Nat.le_of_ble_eq_true rfl) (fun r87 => ?_)
    refine xm_blk (bs := [inb v4 1480]) (pc' := 105) (lv' := [(0, .ref 39), (3, .int v3), (4, .int v4), (5, .int v5), (6, .int v6), (7, .int v7), (8, .int r71), (9, .int r87)]) (st' := [.int r71, .int v6]) (u' := (xU (mI (mI u 40 (Int32.toNatClampNeg v4) v3) 40 (Int32.toNatClampNeg v4) v5))) [(.istore 9, (0, 0, 0), 0, 0), (.aload_n 0, (0, 0, 0), 0, 0), (.getfield 7, (4, 0, 820), 0, 0), (.iload 4, (0, 0, 0), 0, 0), (.iload 5, (0, 0, 0), 0, 0), (.iastore, (0, 0, 0), 0, 0), (.iload 6, (0, 0, 0), 0, 0), (.iload 8, (0, 0, 0), 0, 0)] (by decide +kernel) rfl ?_
    refine xm_if_eq (pc := 105) (off := 12) (tgt := 117) (by decide +kernel) (by decide) ?_ ?_
    · refine xm_wk [0, 1, 2, 3, 5, 6, 7] (lv' := [(0, .ref 39), (3, .int v3), (4, .int v4), (5, .int v5), (7, .int v7), (8, .int r71), (9, .int r87)]) rfl ?_
      exact go_X4_falls_L117 N rec59 h59 v3 v4 v5 v7 r71 r87 v6 (mI (mI u 40 (Int32.toNatClampNeg v4) v3) 40 (Int32.toNatClampNeg v4) v5)
    · refine xm_blk0 (pc' := 110) (lv' := [(0, .ref 39), (3, .int v3), (4, .int v4), (5, .int v5), (6, .int v6), (7, .int v7), (8, .int r71), (9, .int r87)]) (st' := [.int r87, .int v6]) (u' := (xU (mI (mI u 40 (Int32.toNatClampNeg v4) v3) 40 (Int32.toNatClampNeg v4) v5))) [(.iload 9, (0, 0, 0), 0, 0)] (by decide +kernel) rfl ?_
      refine xm_if_ne (pc := 110) (off := 7) (tgt := 117) (by decide +kernel) (by decide) ?_ ?_
      · refine xm_wk [0, 1, 2, 3, 5, 6, 7] (lv' := [(0, .ref 39), (3, .int v3), (4, .int v4), (5, .int v5), (7, .int v7), (8, .int r71), (9, .int r87)]) rfl ?_
        exact go_X4_falls_L117 N rec59 h59 v3 v4 v5 v7 r71 r87 v6 (mI (mI u 40 (Int32.toNatClampNeg v4) v3) 40 (Int32.toNatClampNeg v4) v5)
      · refine xm_blk0 (pc' := 114) (lv' := [(0, .ref 39), (3, .int v3), (4, .int v4), (5, .int v5), (6, .int v6), (7, .int v7), (8, .int r71), (9, .int r87)]) (st' := [.int (1 : Int32), .int v6]) (u' := (xU (mI (mI u 40 (Int32.toNatClampNeg v4) v3) 40 (Int32.toNatClampNeg v4) v5))) [(.iconst 1, (0, 0, 0), 1, 0)] (by decide +kernel) rfl ?_
        refine xm_goto (pc := 114) (off := 4) (tgt := 118) (by decide +kernel) (by decide) ?_
        refine xm_wk [0, 1, 2, 3, 5, 6, 7] (lv' := [(0, .ref 39), (3, .int v3), (4, .int v4), (5, .int v5), (7, .int v7), (8, .int r71), (9, .int r87)]) rfl ?_
        exact go_X4_falls_L118 N rec59 h59 v3 v4 v5 v7 r71 r87 (1 : Int32) v6 (mI (mI u 40 (Int32.toNatClampNeg v4) v3) 40 (Int32.toNatClampNeg v4) v5)
def f_X4_falls_L59 (N : Nat) : Nat → Int32 → Int32 → Int32 → Int32 → Int32 → xN → Option (Int32 × xN)
  | 0 => fun _ _ _ _ _ _ => none
  | n + 1 => fun v3 v4 v5 v6 v7 u => f_X4_falls_L59b N (f_X4_falls_L59 N n) v3 v4 v5 v6 v7 u
theorem go_X4_falls_L59 (N : Nat) : ∀ (n : Nat) (v3 : Int32) (v4 : Int32) (v5 : Int32) (v6 : Int32) (v7 : Int32) (u : xN), xGm md_X4_falls rsM (f_X4_falls_L59 N n v3 v4 v5 v6 v7 u) 59 [(0, .ref 39), (3, .int v3), (4, .int v4), (5, .int v5), (6, .int v6), (7, .int v7)] [] (xU u) := by
  intro n
  induction n with
  | zero => intro v3 v4 v5 v6 v7 u; exact xm_none
  | succ n ih => intro v3 v4 v5 v6 v7 u; exact go_X4_falls_L59b N _ ih v3 v4 v5 v6 v7 u
def f_X4_falls (N : Nat) (a1 : Int32) (a2 : Int32) (a3 : Int32) (u : xN) : Option (Int32 × xN) := Option.bind (f_X4_isTrait a1) (fun r1 => if r1 = (0 : Int32) then f_X4_falls_L15 N u else Option.bind (f_X4_isBorder a2 a3) (fun r9 => if r9 = (0 : Int32) then f_X4_falls_L15 N u else Option.bind (f_X4_isBelow a1 a2 a3 u) (fun r21 => if r21 = (0 : Int32) then some ((-4 : Int32), u) else gdl [inb (((2 : Int32) + ((2 : Int32) * a1)) + a2) 1480] (f_X4_falls_L59 N N a3 (((2 : Int32) + ((2 : Int32) * a1)) + a2) (u.1 40 (Int32.toNatClampNeg (((2 : Int32) + ((2 : Int32) * a1)) + a2))) (0 : Int32) (0 : Int32) (mI u 39 11 (0 : Int32))))))
set_option maxRecDepth 20000 in
theorem go_X4_falls (N : Nat) (a1 : Int32) (a2 : Int32) (a3 : Int32) (u : xN) : xGm md_X4_falls rsM (f_X4_falls N a1 a2 a3 u) 0 [(0, .ref 39), (1, .int a1), (2, .int a2), (3, .int a3)] [] (xU u) := by
  unfold f_X4_falls
  refine xm_blk0 (pc' := 1) (lv' := [(0, .ref 39), (1, .int a1), (2, .int a2), (3, .int a3)]) (st' := [.int a1]) (u' := (xU u)) [(.iload_n 1, (0, 0, 0), 0, 0)] (by decide +kernel) rfl ?_
  refine xm_Si (pc := 1) (mz := md_X4_isTrait) (idx := 209) (p1 := 1079) (as := [.int a1]) (st := []) (ev_X4_isTrait a1 u) mw_X4_isTrait (by decide +kernel) (by decide +kernel) (by decide) rfl (Nat.le_of_ble_eq_true rfl) (fun r1 => ?_)
  refine xm_if_eq (pc := 4) (off := 11) (tgt := 15) (by decide +kernel) (by decide) ?_ ?_
  · refine xm_wk [] (lv' := []) rfl ?_
    exact go_X4_falls_L15 N u
  · refine xm_blk0 (pc' := 9) (lv' := [(0, .ref 39), (1, .int a1), (2, .int a2), (3, .int a3)]) (st' := [.int a3, .int a2]) (u' := (xU u)) [(.iload_n 2, (0, 0, 0), 0, 0), (.iload_n 3, (0, 0, 0), 0, 0)] (by decide +kernel) rfl ?_
    refine xm_Si (pc := 9) (mz := md_X4_isBorder) (idx := 218) (p1 := 1097) (as := [.int a2, .int a3]) (st := []) (ev_X4_isBorder a2 a3 u) mw_X4_isBorder (by decide +kernel) (by decide +kernel) (by decide) rfl (Nat.le_of_ble_eq_true rfl) (fun r9 => ?_)
    refine xm_if_ne (pc := 12) (off := 5) (tgt := 17) (by decide +kernel) (by decide) ?_ ?_
    · refine xm_blk0 (pc' := 21) (lv' := [(0, .ref 39), (1, .int a1), (2, .int a2), (3, .int a3)]) (st' := [.int a3, .int a2, .int a1, .ref 39]) (u' := (xU u)) [(.aload_n 0, (0, 0, 0), 0, 0), (.iload_n 1, (0, 0, 0), 0, 0), (.iload_n 2, (0, 0, 0), 0, 0), (.iload_n 3, (0, 0, 0), 0, 0)] (by decide +kernel) rfl ?_
      refine xm_Vi (pc := 21) (mz := md_X4_isBelow) (idx := 221) (p1 := 1100) (a := 39) (as := [.int a1, .int a2, .int a3]) (st := []) (ev_X4_isBelow a1 a2 a3 u) mw_X4_isBelow (by decide +kernel) (by decide +kernel) (by decide) rfl rfl (by decide) rfl (Nat.le_of_ble_eq_true rfl) (fun r21 => ?_)
      refine xm_if_ne (pc := 24) (off := 6) (tgt := 30) (by decide +kernel) (by decide) ?_ ?_
      · refine xm_blk (bs := [inb (((2 : Int32) + ((2 : Int32) * a1)) + a2) 1480]) (pc' := 59) (lv' := [(0, .ref 39), (1, .int a1), (2, .int a2), (3, .int a3), (4, .int (((2 : Int32) + ((2 : Int32) * a1)) + a2)), (5, .int (u.1 40 (Int32.toNatClampNeg (((2 : Int32) + ((2 : Int32) * a1)) + a2)))), (6, .int (0 : Int32)), (7, .int (0 : Int32))]) (st' := []) (u' := (xU (mI u 39 11 (0 : Int32)))) [(.iconst 2, (0, 0, 0), 2, 0), (.iconst 2, (0, 0, 0), 2, 0), (.iload_n 1, (0, 0, 0), 0, 0), (.imul, (0, 0, 0), 0, 0), (.iadd, (0, 0, 0), 0, 0), (.iload_n 2, (0, 0, 0), 0, 0), (.iadd, (0, 0, 0), 0, 0), (.istore 4, (0, 0, 0), 0, 0), (.aload_n 0, (0, 0, 0), 0, 0), (.getfield 7, (4, 0, 820), 0, 0), (.iload 4, (0, 0, 0), 0, 0), (.iaload, (0, 0, 0), 0, 0), (.istore 5, (0, 0, 0), 0, 0), (.iconst 0, (0, 0, 0), 0, 0), (.istore 6, (0, 0, 0), 0, 0), (.aload_n 0, (0, 0, 0), 0, 0), (.iconst 0, (0, 0, 0), 0, 0), (.putfield 67, (4, 11, 831), 0, 0), (.iconst 0, (0, 0, 0), 0, 0), (.istore 7, (0, 0, 0), 0, 0)] (by decide +kernel) rfl ?_
        refine xm_wk [0, 3, 4, 5, 6, 7] (lv' := [(0, .ref 39), (3, .int a3), (4, .int (((2 : Int32) + ((2 : Int32) * a1)) + a2)), (5, .int (u.1 40 (Int32.toNatClampNeg (((2 : Int32) + ((2 : Int32) * a1)) + a2)))), (6, .int (0 : Int32)), (7, .int (0 : Int32))]) rfl ?_
        exact go_X4_falls_L59 N N a3 (((2 : Int32) + ((2 : Int32) * a1)) + a2) (u.1 40 (Int32.toNatClampNeg (((2 : Int32) + ((2 : Int32) * a1)) + a2))) (0 : Int32) (0 : Int32) (mI u 39 11 (0 : Int32))
      · refine xm_blk0 (pc' := 29) (lv' := [(0, .ref 39), (1, .int a1), (2, .int a2), (3, .int a3)]) (st' := [.int (-4 : Int32)]) (u' := (xU u)) [(.bipush (-4), (0, 0, 0), -4, 0)] (by decide +kernel) rfl ?_
        exact xm_iret (pc := 29) (by decide +kernel) rfl rfl
    · refine xm_wk [] (lv' := []) rfl ?_
      exact go_X4_falls_L15 N u
theorem ev_X4_falls (N : Nat) (a1 : Int32) (a2 : Int32) (a3 : Int32) (u : xN) : ∀ r, f_X4_falls N a1 a2 a3 u = some r → xEm md_X4_falls yX4_falls [.ref 39, .int a1, .int a2, .int a3] (xU u) (some (.int r.1), xU r.2) := xm_met (res := rsM) (as := [.ref 39, .int a1, .int a2, .int a3]) (go_X4_falls N a1 a2 a3 u) (by decide) rfl (Nat.le_of_ble_eq_true rfl)
theorem mw_X4_kinds : xMv yX4_kinds cX4_kinds 6 (some .int) 2 := xMv_of (p1 := 1268) (p2 := 1266) (p3 := 97) (p4 := 1267) (by decide +kernel)
/-! NeitherBareModel.kinds(II)I (39, None, None) -/
abbrev md_X4_kinds : xMd := (cX4_kinds, RX4, 6, some .int, 6)
def f_X4_kinds_L20 (N : Nat) (u : xN) : Option Int32 := some (-1 : Int32)
set_option maxRecDepth 20000 in
theorem go_X4_kinds_L20 (N : Nat) (u : xN) : xGm md_X4_kinds (rsI (xU u)) (f_X4_kinds_L20 N u) 20 [] [] (xU u) := by
  unfold f_X4_kinds_L20
  refine xm_blk0 (pc' := 21) (lv' := []) (st' := [.int (-1 : Int32)]) (u' := (xU u)) [(.iconst (-1), (0, 0, 0), -1, 0)] (by decide +kernel) rfl ?_
  exact xm_iret (pc := 21) (by decide +kernel) rfl rfl
def f_X4_kinds_L93 (N : Nat) (u : xN) (rec59 : Int32 → Int32 → Int32 → Int32 → Int32 → Option Int32) (v1 : Int32) (v2 : Int32) (v3 : Int32) (v5 : Int32) (t0 : Int32) (t1 : Int32) : Option Int32 := rec59 v1 v2 v3 (t1 ||| t0) (v5 + (1 : Int32))
set_option maxRecDepth 20000 in
theorem go_X4_kinds_L93 (N : Nat) (u : xN) (rec59 : Int32 → Int32 → Int32 → Int32 → Int32 → Option Int32) (h59 : ∀ (v1 : Int32) (v2 : Int32) (v3 : Int32) (v4 : Int32) (v5 : Int32), xGm md_X4_kinds (rsI (xU u)) (rec59 v1 v2 v3 v4 v5) 59 [(0, .ref 39), (1, .int v1), (2, .int v2), (3, .int v3), (4, .int v4), (5, .int v5)] [] (xU u)) (v1 : Int32) (v2 : Int32) (v3 : Int32) (v5 : Int32) (t0 : Int32) (t1 : Int32) : xGm md_X4_kinds (rsI (xU u)) (f_X4_kinds_L93 N u rec59 v1 v2 v3 v5 t0 t1) 93 [(0, .ref 39), (1, .int v1), (2, .int v2), (3, .int v3), (5, .int v5)] [.int t0, .int t1] (xU u) := by
  unfold f_X4_kinds_L93
  refine xm_blk0 (pc' := 99) (lv' := [(0, .ref 39), (1, .int v1), (2, .int v2), (3, .int v3), (4, .int (t1 ||| t0)), (5, .int (v5 + (1 : Int32)))]) (st' := []) (u' := (xU u)) [(.ior, (0, 0, 0), 0, 0), (.istore 4, (0, 0, 0), 0, 0), (.iinc 5 1, (0, 0, 0), 1, 0)] (by decide +kernel) rfl ?_
  refine xm_goto (pc := 99) (off := -40) (tgt := 59) (by decide +kernel) (by decide) ?_
  exact h59 v1 v2 v3 (t1 ||| t0) (v5 + (1 : Int32))
def f_X4_kinds_L59b (N : Nat) (u : xN) (rec59 : Int32 → Int32 → Int32 → Int32 → Int32 → Option Int32) (v1 : Int32) (v2 : Int32) (v3 : Int32) (v4 : Int32) (v5 : Int32) : Option Int32 := if (6 : Int32) ≤ v5 then some v4 else gdl [inb v1 8] (Option.bind (f_X4_heldMany N v5 (u.1 43 (Int32.toNatClampNeg v1)) v3 u) (fun r78 => if r78 = v2 then f_X4_kinds_L93 N u rec59 v1 v2 v3 v5 ((1 : Int32) <<< (v5 &&& 31)) v4 else f_X4_kinds_L93 N u rec59 v1 v2 v3 v5 (0 : Int32) v4))
set_option maxRecDepth 20000 in
theorem go_X4_kinds_L59b (N : Nat) (u : xN) (rec59 : Int32 → Int32 → Int32 → Int32 → Int32 → Option Int32) (h59 : ∀ (v1 : Int32) (v2 : Int32) (v3 : Int32) (v4 : Int32) (v5 : Int32), xGm md_X4_kinds (rsI (xU u)) (rec59 v1 v2 v3 v4 v5) 59 [(0, .ref 39), (1, .int v1), (2, .int v2), (3, .int v3), (4, .int v4), (5, .int v5)] [] (xU u)) (v1 : Int32) (v2 : Int32) (v3 : Int32) (v4 : Int32) (v5 : Int32) : xGm md_X4_kinds (rsI (xU u)) (f_X4_kinds_L59b N u rec59 v1 v2 v3 v4 v5) 59 [(0, .ref 39), (1, .int v1), (2, .int v2), (3, .int v3), (4, .int v4), (5, .int v5)] [] (xU u) := by
  unfold f_X4_kinds_L59b
  refine xm_blk0 (pc' := 63) (lv' := [(0, .ref 39), (1, .int v1), (2, .int v2), (3, .int v3), (4, .int v4), (5, .int v5)]) (st' := [.int (6 : Int32), .int v5]) (u' := (xU u)) [(.iload 5, (0, 0, 0), 0, 0), (.bipush 6, (0, 0, 0), 6, 0)] (by decide +kernel) rfl ?_
  refine xm_icmp_ge (pc := 63) (off := 39) (tgt := 102) (by decide +kernel) (by decide) ?_ ?_
  · refine xm_blk0 (pc' := 104) (lv' := [(0, .ref 39), (1, .int v1), (2, .int v2), (3, .int v3), (4, .int v4), (5, .int v5)]) (st' := [.int v4]) (u' := (xU u)) [(.iload 4, (0, 0, 0), 0, 0)] (by decide +kernel) rfl ?_
    exact xm_iret (pc := 104) (by decide +kernel) rfl rfl
  · refine xm_blk (bs := [inb v1 8]) (pc' := 78) (lv' := [(0, .ref 39), (1, .int v1), (2, .int v2), (3, .int v3), (4, .int v4), (5, .int v5)]) (st' := [.int v3, .int (u.1 43 (Int32.toNatClampNeg v1)), .int v5, .ref 39, .int v4]) (u' := (xU u)) [(.iload 4, (0, 0, 0), 0, 0), (.aload_n 0, (0, 0, 0), 0, 0), (.iload 5, (0, 0, 0), 0, 0), (.aload_n 0, (0, 0, 0), 0, 0), (.getfield 19, (4, 5, 825), 0, 0), (.iload_n 1, (0, 0, 0), 0, 0), (.iaload, (0, 0, 0), 0, 0), (.iload_n 3, (0, 0, 0), 0, 0)] (by decide +kernel) rfl ?_
    refine xm_Vi (pc := 78) (mz := md_X4_heldMany) (idx := 190) (p1 := 1016) (a := 39) (as := [.int v5, .int (u.1 43 (Int32.toNatClampNeg v1)), .int v3]) (st := [.int v4]) (ev_X4_heldMany N v5 (u.1 43 (Int32.toNatClampNeg v1)) v3 u) mw_X4_heldMany (by decide +kernel) (by decide +kernel) (by decide) rfl rfl (by decide) rfl (Nat.le_of_ble_eq_true rfl) (fun r78 => ?_)
    refine xm_blk0 (pc' := 82) (lv' := [(0, .ref 39), (1, .int v1), (2, .int v2), (3, .int v3), (4, .int v4), (5, .int v5)]) (st' := [.int v2, .int r78, .int v4]) (u' := (xU u)) [(.iload_n 2, (0, 0, 0), 0, 0)] (by decide +kernel) rfl ?_
    refine xm_icmp_ne (pc := 82) (off := 10) (tgt := 92) (by decide +kernel) (by decide) ?_ ?_
    · refine xm_blk0 (pc' := 93) (lv' := [(0, .ref 39), (1, .int v1), (2, .int v2), (3, .int v3), (4, .int v4), (5, .int v5)]) (st' := [.int (0 : Int32), .int v4]) (u' := (xU u)) [(.iconst 0, (0, 0, 0), 0, 0)] (by decide +kernel) rfl ?_
      refine xm_wk [0, 1, 2, 3, 5] (lv' := [(0, .ref 39), (1, .int v1), (2, .int v2), (3, .int v3), (5, .int v5)]) rfl ?_
      exact go_X4_kinds_L93 N u rec59 h59 v1 v2 v3 v5 (0 : Int32) v4
    · refine xm_blk0 (pc' := 89) (lv' := [(0, .ref 39), (1, .int v1), (2, .int v2), (3, .int v3), (4, .int v4), (5, .int v5)]) (st' := [.int ((1 : Int32) <<< (v5 &&& 31)), .int v4]) (u' := (xU u)) [(.iconst 1, (0, 0, 0), 1, 0), (.iload 5, (0, 0, 0), 0, 0), (.ishl, (0, 0, 0), 0, 0)] (by decide +kernel) rfl ?_
      refine xm_goto (pc := 89) (off := 4) (tgt := 93) (by decide +kernel) (by decide) ?_
      refine xm_wk [0, 1, 2, 3, 5] (lv' := [(0, .ref 39), (1, .int v1), (2, .int v2), (3, .int v3), (5, .int v5)]) rfl ?_
      exact go_X4_kinds_L93 N u rec59 h59 v1 v2 v3 v5 ((1 : Int32) <<< (v5 &&& 31)) v4
def f_X4_kinds_L59 (N : Nat) (u : xN) : Nat → Int32 → Int32 → Int32 → Int32 → Int32 → Option Int32
  | 0 => fun _ _ _ _ _ => none
  | n + 1 => fun v1 v2 v3 v4 v5 => f_X4_kinds_L59b N u (f_X4_kinds_L59 N u n) v1 v2 v3 v4 v5
theorem go_X4_kinds_L59 (N : Nat) (u : xN) : ∀ (n : Nat) (v1 : Int32) (v2 : Int32) (v3 : Int32) (v4 : Int32) (v5 : Int32), xGm md_X4_kinds (rsI (xU u)) (f_X4_kinds_L59 N u n v1 v2 v3 v4 v5) 59 [(0, .ref 39), (1, .int v1), (2, .int v2), (3, .int v3), (4, .int v4), (5, .int v5)] [] (xU u) := by
  intro n
  induction n with
  | zero => intro v1 v2 v3 v4 v5; exact xm_none
  | succ n ih => intro v1 v2 v3 v4 v5; exact go_X4_kinds_L59b N u _ ih v1 v2 v3 v4 v5
def f_X4_kinds_L52 (N : Nat) (u : xN) (v1 : Int32) (v2 : Int32) (t0 : Int32) : Option Int32 := f_X4_kinds_L59 N u N v1 v2 t0 (0 : Int32) (0 : Int32)
set_option maxRecDepth 20000 in
theorem go_X4_kinds_L52 (N : Nat) (u : xN) (v1 : Int32) (v2 : Int32) (t0 : Int32) : xGm md_X4_kinds (rsI (xU u)) (f_X4_kinds_L52 N u v1 v2 t0) 52 [(0, .ref 39), (1, .int v1), (2, .int v2)] [.int t0] (xU u) := by
  unfold f_X4_kinds_L52
  refine xm_blk0 (pc' := 59) (lv' := [(0, .ref 39), (1, .int v1), (2, .int v2), (3, .int t0), (4, .int (0 : Int32)), (5, .int (0 : Int32))]) (st' := []) (u' := (xU u)) [(.istore_n 3, (0, 0, 0), 0, 0), (.iconst 0, (0, 0, 0), 0, 0), (.istore 4, (0, 0, 0), 0, 0), (.iconst 0, (0, 0, 0), 0, 0), (.istore 5, (0, 0, 0), 0, 0)] (by decide +kernel) rfl ?_
  exact go_X4_kinds_L59 N u N v1 v2 t0 (0 : Int32) (0 : Int32)
def f_X4_kinds (N : Nat) (a1 : Int32) (a2 : Int32) (u : xN) : Option Int32 := Option.bind (f_X4_isClause a1 u) (fun r2 => if r2 = (0 : Int32) then f_X4_kinds_L20 N u else Option.bind (f_X4_in (Int32.toInt64 a2) (0 : Int64) (64 : Int64)) (fun r14 => if r14 = (0 : Int32) then f_X4_kinds_L20 N u else gdl [inb a1 8] (if (u.1 44 (Int32.toNatClampNeg a1)) = (-9 : Int32) then (gdl [inb a1 8, nzi (4 : Int32)] (f_X4_kinds_L52 N u a1 a2 (((u.1 43 (Int32.toNatClampNeg a1)) + (1 : Int32)) - ((u.1 43 (Int32.toNatClampNeg a1)) + (1 : Int32)) / (4 : Int32) * (4 : Int32)))) else gdl [inb a1 8] (f_X4_kinds_L52 N u a1 a2 (u.1 44 (Int32.toNatClampNeg a1))))))
set_option maxRecDepth 20000 in
theorem go_X4_kinds (N : Nat) (a1 : Int32) (a2 : Int32) (u : xN) : xGm md_X4_kinds (rsI (xU u)) (f_X4_kinds N a1 a2 u) 0 [(0, .ref 39), (1, .int a1), (2, .int a2)] [] (xU u) := by
  unfold f_X4_kinds
  refine xm_blk0 (pc' := 2) (lv' := [(0, .ref 39), (1, .int a1), (2, .int a2)]) (st' := [.int a1, .ref 39]) (u' := (xU u)) [(.aload_n 0, (0, 0, 0), 0, 0), (.iload_n 1, (0, 0, 0), 0, 0)] (by decide +kernel) rfl ?_
  refine xm_Vi (pc := 2) (mz := md_X4_isClause) (idx := 194) (p1 := 1008) (a := 39) (as := [.int a1]) (st := []) (ev_X4_isClause a1 u) mw_X4_isClause (by decide +kernel) (by decide +kernel) (by decide) rfl rfl (by decide) rfl (Nat.le_of_ble_eq_true rfl) (fun r2 => ?_)
  refine xm_if_eq (pc := 5) (off := 15) (tgt := 20) (by decide +kernel) (by decide) ?_ ?_
  · refine xm_wk [] (lv' := []) rfl ?_
    exact go_X4_kinds_L20 N u
  · refine xm_blk0 (pc' := 14) (lv' := [(0, .ref 39), (1, .int a1), (2, .int a2)]) (st' := [.long (64 : Int64), .long (0 : Int64), .long (Int32.toInt64 a2)]) (u' := (xU u)) [(.iload_n 2, (0, 0, 0), 0, 0), (.i2l, (0, 0, 0), 0, 0), (.lconst 0, (0, 0, 0), 0, 0), (.ldc2_w 273, (0, 0, 1269), 0, 64)] (by decide +kernel) rfl ?_
    refine xm_Si (pc := 14) (mz := md_X4_in) (idx := 72) (p1 := 905) (as := [.long (Int32.toInt64 a2), .long (0 : Int64), .long (64 : Int64)]) (st := []) (ev_X4_in (Int32.toInt64 a2) (0 : Int64) (64 : Int64) u) mw_X4_in (by decide +kernel) (by decide +kernel) (by decide) rfl (Nat.le_of_ble_eq_true rfl) (fun r14 => ?_)
    refine xm_if_ne (pc := 17) (off := 5) (tgt := 22) (by decide +kernel) (by decide) ?_ ?_
    · refine xm_blk (bs := [inb a1 8]) (pc' := 30) (lv' := [(0, .ref 39), (1, .int a1), (2, .int a2)]) (st' := [.int (-9 : Int32), .int (u.1 44 (Int32.toNatClampNeg a1))]) (u' := (xU u)) [(.aload_n 0, (0, 0, 0), 0, 0), (.getfield 22, (4, 6, 826), 0, 0), (.iload_n 1, (0, 0, 0), 0, 0), (.iaload, (0, 0, 0), 0, 0), (.bipush (-9), (0, 0, 0), -9, 0)] (by decide +kernel) rfl ?_
      refine xm_icmp_ne (pc := 30) (off := 16) (tgt := 46) (by decide +kernel) (by decide) ?_ ?_
      · refine xm_blk (bs := [inb a1 8]) (pc' := 52) (lv' := [(0, .ref 39), (1, .int a1), (2, .int a2)]) (st' := [.int (u.1 44 (Int32.toNatClampNeg a1))]) (u' := (xU u)) [(.aload_n 0, (0, 0, 0), 0, 0), (.getfield 22, (4, 6, 826), 0, 0), (.iload_n 1, (0, 0, 0), 0, 0), (.iaload, (0, 0, 0), 0, 0)] (by decide +kernel) rfl ?_
        exact go_X4_kinds_L52 N u a1 a2 (u.1 44 (Int32.toNatClampNeg a1))
      · refine xm_blk (bs := [inb a1 8, nzi (4 : Int32)]) (pc' := 43) (lv' := [(0, .ref 39), (1, .int a1), (2, .int a2)]) (st' := [.int (((u.1 43 (Int32.toNatClampNeg a1)) + (1 : Int32)) - ((u.1 43 (Int32.toNatClampNeg a1)) + (1 : Int32)) / (4 : Int32) * (4 : Int32))]) (u' := (xU u)) [(.aload_n 0, (0, 0, 0), 0, 0), (.getfield 19, (4, 5, 825), 0, 0), (.iload_n 1, (0, 0, 0), 0, 0), (.iaload, (0, 0, 0), 0, 0), (.iconst 1, (0, 0, 0), 1, 0), (.iadd, (0, 0, 0), 0, 0), (.iconst 4, (0, 0, 0), 4, 0), (.irem, (0, 0, 0), 0, 0)] (by decide +kernel) rfl ?_
        refine xm_goto (pc := 43) (off := 9) (tgt := 52) (by decide +kernel) (by decide) ?_
        exact go_X4_kinds_L52 N u a1 a2 (((u.1 43 (Int32.toNatClampNeg a1)) + (1 : Int32)) - ((u.1 43 (Int32.toNatClampNeg a1)) + (1 : Int32)) / (4 : Int32) * (4 : Int32))
    · refine xm_wk [] (lv' := []) rfl ?_
      exact go_X4_kinds_L20 N u
theorem ev_X4_kinds (N : Nat) (a1 : Int32) (a2 : Int32) (u : xN) : ∀ r, f_X4_kinds N a1 a2 u = some r → xEm md_X4_kinds yX4_kinds [.ref 39, .int a1, .int a2] (xU u) (some (.int r), (xU u)) := xm_met (res := (rsI (xU u))) (as := [.ref 39, .int a1, .int a2]) (go_X4_kinds N a1 a2 u) (by decide) rfl (Nat.le_of_ble_eq_true rfl)
theorem mw_X4_areJudged : xMv yX4_areJudged cX4_areJudged 4 (some .boolean) 1 := xMv_of (p1 := 1277) (p2 := 1276) (p3 := 97) (p4 := 85) (by decide +kernel)
/-! NeitherBareModel.areJudged(I)Z (39, None) -/
abbrev md_X4_areJudged : xMd := (cX4_areJudged, RX4, 4, some .boolean, 3)
def f_X4_areJudged_L63 (N : Nat) (u : xN) (rec4 : Int32 → Int32 → Int32 → Option Int32) (v1 : Int32) (v3 : Int32) (t0 : Int32) : Option Int32 := rec4 v1 t0 (v3 + (2 : Int32))
set_option maxRecDepth 20000 in
theorem go_X4_areJudged_L63 (N : Nat) (u : xN) (rec4 : Int32 → Int32 → Int32 → Option Int32) (h4 : ∀ (v1 : Int32) (v2 : Int32) (v3 : Int32), xGm md_X4_areJudged (rsI (xU u)) (rec4 v1 v2 v3) 4 [(0, .ref 39), (1, .int v1), (2, .int v2), (3, .int v3)] [] (xU u)) (v1 : Int32) (v3 : Int32) (t0 : Int32) : xGm md_X4_areJudged (rsI (xU u)) (f_X4_areJudged_L63 N u rec4 v1 v3 t0) 63 [(0, .ref 39), (1, .int v1), (3, .int v3)] [.int t0] (xU u) := by
  unfold f_X4_areJudged_L63
  refine xm_blk0 (pc' := 67) (lv' := [(0, .ref 39), (1, .int v1), (2, .int t0), (3, .int (v3 + (2 : Int32)))]) (st' := []) (u' := (xU u)) [(.istore_n 2, (0, 0, 0), 0, 0), (.iinc 3 2, (0, 0, 0), 2, 0)] (by decide +kernel) rfl ?_
  refine xm_goto (pc := 67) (off := -63) (tgt := 4) (by decide +kernel) (by decide) ?_
  exact h4 v1 t0 (v3 + (2 : Int32))
def f_X4_areJudged_L62 (N : Nat) (u : xN) (rec4 : Int32 → Int32 → Int32 → Option Int32) (v1 : Int32) (v3 : Int32) : Option Int32 := f_X4_areJudged_L63 N u rec4 v1 v3 (0 : Int32)
set_option maxRecDepth 20000 in
theorem go_X4_areJudged_L62 (N : Nat) (u : xN) (rec4 : Int32 → Int32 → Int32 → Option Int32) (h4 : ∀ (v1 : Int32) (v2 : Int32) (v3 : Int32), xGm md_X4_areJudged (rsI (xU u)) (rec4 v1 v2 v3) 4 [(0, .ref 39), (1, .int v1), (2, .int v2), (3, .int v3)] [] (xU u)) (v1 : Int32) (v3 : Int32) : xGm md_X4_areJudged (rsI (xU u)) (f_X4_areJudged_L62 N u rec4 v1 v3) 62 [(0, .ref 39), (1, .int v1), (3, .int v3)] [] (xU u) := by
  unfold f_X4_areJudged_L62
  refine xm_blk0 (pc' := 63) (lv' := [(0, .ref 39), (1, .int v1), (3, .int v3)]) (st' := [.int (0 : Int32)]) (u' := (xU u)) [(.iconst 0, (0, 0, 0), 0, 0)] (by decide +kernel) rfl ?_
  exact go_X4_areJudged_L63 N u rec4 h4 v1 v3 (0 : Int32)
def f_X4_areJudged_L4b (N : Nat) (u : xN) (rec4 : Int32 → Int32 → Int32 → Option Int32) (v1 : Int32) (v2 : Int32) (v3 : Int32) : Option Int32 := gdl [inb v1 6] (if (u.1 45 (Int32.toNatClampNeg v1)) ≤ v3 then (gdl [isb v2] (some v2)) else if v2 = (0 : Int32) then f_X4_areJudged_L62 N u rec4 v1 v3 else gdl [inb (((40 : Int32) * v1) + v3) 240] (Option.bind (f_X4_isWay (u.1 46 (Int32.toNatClampNeg (((40 : Int32) * v1) + v3))) u) (fun r30 => if r30 = (0 : Int32) then f_X4_areJudged_L62 N u rec4 v1 v3 else gdl [inb ((((40 : Int32) * v1) + v3) + (1 : Int32)) 240] (Option.bind (f_X4_in (Int32.toInt64 (u.1 46 (Int32.toNatClampNeg ((((40 : Int32) * v1) + v3) + (1 : Int32))))) (0 : Int64) (1 : Int64)) (fun r52 => if r52 = (0 : Int32) then f_X4_areJudged_L62 N u rec4 v1 v3 else f_X4_areJudged_L63 N u rec4 v1 v3 (1 : Int32))))))
set_option maxRecDepth 20000 in
theorem go_X4_areJudged_L4b (N : Nat) (u : xN) (rec4 : Int32 → Int32 → Int32 → Option Int32) (h4 : ∀ (v1 : Int32) (v2 : Int32) (v3 : Int32), xGm md_X4_areJudged (rsI (xU u)) (rec4 v1 v2 v3) 4 [(0, .ref 39), (1, .int v1), (2, .int v2), (3, .int v3)] [] (xU u)) (v1 : Int32) (v2 : Int32) (v3 : Int32) : xGm md_X4_areJudged (rsI (xU u)) (f_X4_areJudged_L4b N u rec4 v1 v2 v3) 4 [(0, .ref 39), (1, .int v1), (2, .int v2), (3, .int v3)] [] (xU u) := by
  unfold f_X4_areJudged_L4b
  refine xm_blk (bs := [inb v1 6]) (pc' := 11) (lv' := [(0, .ref 39), (1, .int v1), (2, .int v2), (3, .int v3)]) (st' := [.int (u.1 45 (Int32.toNatClampNeg v1)), .int v3]) (u' := (xU u)) [(.iload_n 3, (0, 0, 0), 0, 0), (.aload_n 0, (0, 0, 0), 0, 0), (.getfield 25, (4, 7, 827), 0, 0), (.iload_n 1, (0, 0, 0), 0, 0), (.iaload, (0, 0, 0), 0, 0)] (by decide +kernel) rfl ?_
  refine xm_icmp_ge (pc := 11) (off := 59) (tgt := 70) (by decide +kernel) (by decide) ?_ ?_
  · refine xm_blk0 (pc' := 71) (lv' := [(0, .ref 39), (1, .int v1), (2, .int v2), (3, .int v3)]) (st' := [.int v2]) (u' := (xU u)) [(.iload_n 2, (0, 0, 0), 0, 0)] (by decide +kernel) rfl ?_
    exact xm_zret (pc := 71) (by decide +kernel) rfl rfl
  · refine xm_blk0 (pc' := 15) (lv' := [(0, .ref 39), (1, .int v1), (2, .int v2), (3, .int v3)]) (st' := [.int v2]) (u' := (xU u)) [(.iload_n 2, (0, 0, 0), 0, 0)] (by decide +kernel) rfl ?_
    refine xm_if_eq (pc := 15) (off := 47) (tgt := 62) (by decide +kernel) (by decide) ?_ ?_
    · refine xm_wk [0, 1, 3] (lv' := [(0, .ref 39), (1, .int v1), (3, .int v3)]) rfl ?_
      exact go_X4_areJudged_L62 N u rec4 h4 v1 v3
    · refine xm_blk (bs := [inb (((40 : Int32) * v1) + v3) 240]) (pc' := 30) (lv' := [(0, .ref 39), (1, .int v1), (2, .int v2), (3, .int v3)]) (st' := [.int (u.1 46 (Int32.toNatClampNeg (((40 : Int32) * v1) + v3))), .ref 39]) (u' := (xU u)) [(.aload_n 0, (0, 0, 0), 0, 0), (.aload_n 0, (0, 0, 0), 0, 0), (.getfield 28, (4, 8, 828), 0, 0), (.bipush 40, (0, 0, 0), 40, 0), (.iload_n 1, (0, 0, 0), 0, 0), (.imul, (0, 0, 0), 0, 0), (.iload_n 3, (0, 0, 0), 0, 0), (.iadd, (0, 0, 0), 0, 0), (.iaload, (0, 0, 0), 0, 0)] (by decide +kernel) rfl ?_
      refine xm_Vi (pc := 30) (mz := md_X4_isWay) (idx := 229) (p1 := 1125) (a := 39) (as := [.int (u.1 46 (Int32.toNatClampNeg (((40 : Int32) * v1) + v3)))]) (st := []) (ev_X4_isWay (u.1 46 (Int32.toNatClampNeg (((40 : Int32) * v1) + v3))) u) mw_X4_isWay (by decide +kernel) (by decide +kernel) (by decide) rfl rfl (by decide) rfl (Nat.le_of_ble_eq_true rfl) (fun r30 => ?_)
      refine xm_if_eq (pc := 33) (off := 29) (tgt := 62) (by decide +kernel) (by decide) ?_ ?_
      · refine xm_wk [0, 1, 3] (lv' := [(0, .ref 39), (1, .int v1), (3, .int v3)]) rfl ?_
        exact go_X4_areJudged_L62 N u rec4 h4 v1 v3
      · refine xm_blk (bs := [inb ((((40 : Int32) * v1) + v3) + (1 : Int32)) 240]) (pc' := 52) (lv' := [(0, .ref 39), (1, .int v1), (2, .int v2), (3, .int v3)]) (st' := [.long (1 : Int64), .long (0 : Int64), .long (Int32.toInt64 (u.1 46 (Int32.toNatClampNeg ((((40 : Int32) * v1) + v3) + (1 : Int32)))))]) (u' := (xU u)) [(.aload_n 0, (0, 0, 0), 0, 0), (.getfield 28, (4, 8, 828), 0, 0), (.bipush 40, (0, 0, 0), 40, 0), (.iload_n 1, (0, 0, 0), 0, 0), (.imul, (0, 0, 0), 0, 0), (.iload_n 3, (0, 0, 0), 0, 0), (.iadd, (0, 0, 0), 0, 0), (.iconst 1, (0, 0, 0), 1, 0), (.iadd, (0, 0, 0), 0, 0), (.iaload, (0, 0, 0), 0, 0), (.i2l, (0, 0, 0), 0, 0), (.lconst 0, (0, 0, 0), 0, 0), (.lconst 1, (0, 0, 0), 0, 1)] (by decide +kernel) rfl ?_
        refine xm_Si (pc := 52) (mz := md_X4_in) (idx := 72) (p1 := 905) (as := [.long (Int32.toInt64 (u.1 46 (Int32.toNatClampNeg ((((40 : Int32) * v1) + v3) + (1 : Int32))))), .long (0 : Int64), .long (1 : Int64)]) (st := []) (ev_X4_in (Int32.toInt64 (u.1 46 (Int32.toNatClampNeg ((((40 : Int32) * v1) + v3) + (1 : Int32))))) (0 : Int64) (1 : Int64) u) mw_X4_in (by decide +kernel) (by decide +kernel) (by decide) rfl (Nat.le_of_ble_eq_true rfl) (fun r52 => ?_)
        refine xm_if_eq (pc := 55) (off := 7) (tgt := 62) (by decide +kernel) (by decide) ?_ ?_
        · refine xm_wk [0, 1, 3] (lv' := [(0, .ref 39), (1, .int v1), (3, .int v3)]) rfl ?_
          exact go_X4_areJudged_L62 N u rec4 h4 v1 v3
        · refine xm_blk0 (pc' := 59) (lv' := [(0, .ref 39), (1, .int v1), (2, .int v2), (3, .int v3)]) (st' := [.int (1 : Int32)]) (u' := (xU u)) [(.iconst 1, (0, 0, 0), 1, 0)] (by decide +kernel) rfl ?_
          refine xm_goto (pc := 59) (off := 4) (tgt := 63) (by decide +kernel) (by decide) ?_
          refine xm_wk [0, 1, 3] (lv' := [(0, .ref 39), (1, .int v1), (3, .int v3)]) rfl ?_
          exact go_X4_areJudged_L63 N u rec4 h4 v1 v3 (1 : Int32)
def f_X4_areJudged_L4 (N : Nat) (u : xN) : Nat → Int32 → Int32 → Int32 → Option Int32
  | 0 => fun _ _ _ => none
  | n + 1 => fun v1 v2 v3 => f_X4_areJudged_L4b N u (f_X4_areJudged_L4 N u n) v1 v2 v3
theorem go_X4_areJudged_L4 (N : Nat) (u : xN) : ∀ (n : Nat) (v1 : Int32) (v2 : Int32) (v3 : Int32), xGm md_X4_areJudged (rsI (xU u)) (f_X4_areJudged_L4 N u n v1 v2 v3) 4 [(0, .ref 39), (1, .int v1), (2, .int v2), (3, .int v3)] [] (xU u) := by
  intro n
  induction n with
  | zero => intro v1 v2 v3; exact xm_none
  | succ n ih => intro v1 v2 v3; exact go_X4_areJudged_L4b N u _ ih v1 v2 v3
def f_X4_areJudged (N : Nat) (a1 : Int32) (u : xN) : Option Int32 := f_X4_areJudged_L4 N u N a1 (1 : Int32) (0 : Int32)
set_option maxRecDepth 20000 in
theorem go_X4_areJudged (N : Nat) (a1 : Int32) (u : xN) : xGm md_X4_areJudged (rsI (xU u)) (f_X4_areJudged N a1 u) 0 [(0, .ref 39), (1, .int a1)] [] (xU u) := by
  unfold f_X4_areJudged
  refine xm_blk0 (pc' := 4) (lv' := [(0, .ref 39), (1, .int a1), (2, .int (1 : Int32)), (3, .int (0 : Int32))]) (st' := []) (u' := (xU u)) [(.iconst 1, (0, 0, 0), 1, 0), (.istore_n 2, (0, 0, 0), 0, 0), (.iconst 0, (0, 0, 0), 0, 0), (.istore_n 3, (0, 0, 0), 0, 0)] (by decide +kernel) rfl ?_
  exact go_X4_areJudged_L4 N u N a1 (1 : Int32) (0 : Int32)
theorem ev_X4_areJudged (N : Nat) (a1 : Int32) (u : xN) : ∀ r, f_X4_areJudged N a1 u = some r → xEm md_X4_areJudged yX4_areJudged [.ref 39, .int a1] (xU u) (some (.int r), (xU u)) := xm_met (res := (rsI (xU u))) (as := [.ref 39, .int a1]) (go_X4_areJudged N a1 u) (by decide) rfl (Nat.le_of_ble_eq_true rfl)
theorem mw_X4_isJudged : xMv yX4_isJudged cX4_isJudged 5 (some .boolean) 2 := xMv_of (p1 := 1281) (p2 := 1280) (p3 := 97) (p4 := 86) (by decide +kernel)
/-! NeitherBareModel.isJudged(II)Z (39, None, None) -/
abbrev md_X4_isJudged : xMd := (cX4_isJudged, RX4, 5, some .boolean, 6)
def f_X4_isJudged_L68 (N : Nat) (u : xN) (rec5 : Int32 → Int32 → Int32 → Int32 → Option Int32) (v1 : Int32) (v2 : Int32) (v4 : Int32) (t0 : Int32) : Option Int32 := rec5 v1 v2 t0 (v4 + (2 : Int32))
set_option maxRecDepth 20000 in
theorem go_X4_isJudged_L68 (N : Nat) (u : xN) (rec5 : Int32 → Int32 → Int32 → Int32 → Option Int32) (h5 : ∀ (v1 : Int32) (v2 : Int32) (v3 : Int32) (v4 : Int32), xGm md_X4_isJudged (rsI (xU u)) (rec5 v1 v2 v3 v4) 5 [(0, .ref 39), (1, .int v1), (2, .int v2), (3, .int v3), (4, .int v4)] [] (xU u)) (v1 : Int32) (v2 : Int32) (v4 : Int32) (t0 : Int32) : xGm md_X4_isJudged (rsI (xU u)) (f_X4_isJudged_L68 N u rec5 v1 v2 v4 t0) 68 [(0, .ref 39), (1, .int v1), (2, .int v2), (4, .int v4)] [.int t0] (xU u) := by
  unfold f_X4_isJudged_L68
  refine xm_blk0 (pc' := 72) (lv' := [(0, .ref 39), (1, .int v1), (2, .int v2), (3, .int t0), (4, .int (v4 + (2 : Int32)))]) (st' := []) (u' := (xU u)) [(.istore_n 3, (0, 0, 0), 0, 0), (.iinc 4 2, (0, 0, 0), 2, 0)] (by decide +kernel) rfl ?_
  refine xm_goto (pc := 72) (off := -67) (tgt := 5) (by decide +kernel) (by decide) ?_
  exact h5 v1 v2 t0 (v4 + (2 : Int32))
def f_X4_isJudged_L67 (N : Nat) (u : xN) (rec5 : Int32 → Int32 → Int32 → Int32 → Option Int32) (v1 : Int32) (v2 : Int32) (v4 : Int32) : Option Int32 := f_X4_isJudged_L68 N u rec5 v1 v2 v4 (0 : Int32)
set_option maxRecDepth 20000 in
theorem go_X4_isJudged_L67 (N : Nat) (u : xN) (rec5 : Int32 → Int32 → Int32 → Int32 → Option Int32) (h5 : ∀ (v1 : Int32) (v2 : Int32) (v3 : Int32) (v4 : Int32), xGm md_X4_isJudged (rsI (xU u)) (rec5 v1 v2 v3 v4) 5 [(0, .ref 39), (1, .int v1), (2, .int v2), (3, .int v3), (4, .int v4)] [] (xU u)) (v1 : Int32) (v2 : Int32) (v4 : Int32) : xGm md_X4_isJudged (rsI (xU u)) (f_X4_isJudged_L67 N u rec5 v1 v2 v4) 67 [(0, .ref 39), (1, .int v1), (2, .int v2), (4, .int v4)] [] (xU u) := by
  unfold f_X4_isJudged_L67
  refine xm_blk0 (pc' := 68) (lv' := [(0, .ref 39), (1, .int v1), (2, .int v2), (4, .int v4)]) (st' := [.int (0 : Int32)]) (u' := (xU u)) [(.iconst 0, (0, 0, 0), 0, 0)] (by decide +kernel) rfl ?_
  exact go_X4_isJudged_L68 N u rec5 h5 v1 v2 v4 (0 : Int32)
def f_X4_isJudged_L60 (N : Nat) (u : xN) (rec5 : Int32 → Int32 → Int32 → Int32 → Option Int32) (v1 : Int32) (v2 : Int32) (v4 : Int32) (t0 : Int32) (t1 : Int32) : Option Int32 := if t1 = t0 then f_X4_isJudged_L68 N u rec5 v1 v2 v4 (1 : Int32) else f_X4_isJudged_L67 N u rec5 v1 v2 v4
set_option maxRecDepth 20000 in
theorem go_X4_isJudged_L60 (N : Nat) (u : xN) (rec5 : Int32 → Int32 → Int32 → Int32 → Option Int32) (h5 : ∀ (v1 : Int32) (v2 : Int32) (v3 : Int32) (v4 : Int32), xGm md_X4_isJudged (rsI (xU u)) (rec5 v1 v2 v3 v4) 5 [(0, .ref 39), (1, .int v1), (2, .int v2), (3, .int v3), (4, .int v4)] [] (xU u)) (v1 : Int32) (v2 : Int32) (v4 : Int32) (t0 : Int32) (t1 : Int32) : xGm md_X4_isJudged (rsI (xU u)) (f_X4_isJudged_L60 N u rec5 v1 v2 v4 t0 t1) 60 [(0, .ref 39), (1, .int v1), (2, .int v2), (4, .int v4)] [.int t0, .int t1] (xU u) := by
  unfold f_X4_isJudged_L60
  refine xm_icmp_ne (pc := 60) (off := 7) (tgt := 67) (by decide +kernel) (by decide) ?_ ?_
  · exact go_X4_isJudged_L67 N u rec5 h5 v1 v2 v4
  · refine xm_blk0 (pc' := 64) (lv' := [(0, .ref 39), (1, .int v1), (2, .int v2), (4, .int v4)]) (st' := [.int (1 : Int32)]) (u' := (xU u)) [(.iconst 1, (0, 0, 0), 1, 0)] (by decide +kernel) rfl ?_
    refine xm_goto (pc := 64) (off := 4) (tgt := 68) (by decide +kernel) (by decide) ?_
    exact go_X4_isJudged_L68 N u rec5 h5 v1 v2 v4 (1 : Int32)
def f_X4_isJudged_L5b (N : Nat) (u : xN) (rec5 : Int32 → Int32 → Int32 → Int32 → Option Int32) (v1 : Int32) (v2 : Int32) (v3 : Int32) (v4 : Int32) : Option Int32 := gdl [inb v2 6] (if (u.1 45 (Int32.toNatClampNeg v2)) ≤ v4 then (gdl [isb v3] (some v3)) else if v3 = (0 : Int32) then f_X4_isJudged_L67 N u rec5 v1 v2 v4 else gdl [inb (((40 : Int32) * v2) + v4) 240] (Option.bind (f_X4_holdsIn N v1 (u.1 46 (Int32.toNatClampNeg (((40 : Int32) * v2) + v4))) u) (fun r34 => gdl [inb ((((40 : Int32) * v2) + v4) + (1 : Int32)) 240] (if (u.1 46 (Int32.toNatClampNeg ((((40 : Int32) * v2) + v4) + (1 : Int32)))) = (1 : Int32) then f_X4_isJudged_L60 N u rec5 v1 v2 v4 (1 : Int32) r34 else f_X4_isJudged_L60 N u rec5 v1 v2 v4 (0 : Int32) r34))))
set_option maxRecDepth 20000 in
theorem go_X4_isJudged_L5b (N : Nat) (u : xN) (rec5 : Int32 → Int32 → Int32 → Int32 → Option Int32) (h5 : ∀ (v1 : Int32) (v2 : Int32) (v3 : Int32) (v4 : Int32), xGm md_X4_isJudged (rsI (xU u)) (rec5 v1 v2 v3 v4) 5 [(0, .ref 39), (1, .int v1), (2, .int v2), (3, .int v3), (4, .int v4)] [] (xU u)) (v1 : Int32) (v2 : Int32) (v3 : Int32) (v4 : Int32) : xGm md_X4_isJudged (rsI (xU u)) (f_X4_isJudged_L5b N u rec5 v1 v2 v3 v4) 5 [(0, .ref 39), (1, .int v1), (2, .int v2), (3, .int v3), (4, .int v4)] [] (xU u) := by
  unfold f_X4_isJudged_L5b
  refine xm_blk (bs := [inb v2 6]) (pc' := 13) (lv' := [(0, .ref 39), (1, .int v1), (2, .int v2), (3, .int v3), (4, .int v4)]) (st' := [.int (u.1 45 (Int32.toNatClampNeg v2)), .int v4]) (u' := (xU u)) [(.iload 4, (0, 0, 0), 0, 0), (.aload_n 0, (0, 0, 0), 0, 0), (.getfield 25, (4, 7, 827), 0, 0), (.iload_n 2, (0, 0, 0), 0, 0), (.iaload, (0, 0, 0), 0, 0)] (by decide +kernel) rfl ?_
  refine xm_icmp_ge (pc := 13) (off := 62) (tgt := 75) (by decide +kernel) (by decide) ?_ ?_
  · refine xm_blk0 (pc' := 76) (lv' := [(0, .ref 39), (1, .int v1), (2, .int v2), (3, .int v3), (4, .int v4)]) (st' := [.int v3]) (u' := (xU u)) [(.iload_n 3, (0, 0, 0), 0, 0)] (by decide +kernel) rfl ?_
    exact xm_zret (pc := 76) (by decide +kernel) rfl rfl
  · refine xm_blk0 (pc' := 17) (lv' := [(0, .ref 39), (1, .int v1), (2, .int v2), (3, .int v3), (4, .int v4)]) (st' := [.int v3]) (u' := (xU u)) [(.iload_n 3, (0, 0, 0), 0, 0)] (by decide +kernel) rfl ?_
    refine xm_if_eq (pc := 17) (off := 50) (tgt := 67) (by decide +kernel) (by decide) ?_ ?_
    · refine xm_wk [0, 1, 2, 4] (lv' := [(0, .ref 39), (1, .int v1), (2, .int v2), (4, .int v4)]) rfl ?_
      exact go_X4_isJudged_L67 N u rec5 h5 v1 v2 v4
    · refine xm_blk (bs := [inb (((40 : Int32) * v2) + v4) 240]) (pc' := 34) (lv' := [(0, .ref 39), (1, .int v1), (2, .int v2), (3, .int v3), (4, .int v4)]) (st' := [.int (u.1 46 (Int32.toNatClampNeg (((40 : Int32) * v2) + v4))), .int v1, .ref 39]) (u' := (xU u)) [(.aload_n 0, (0, 0, 0), 0, 0), (.iload_n 1, (0, 0, 0), 0, 0), (.aload_n 0, (0, 0, 0), 0, 0), (.getfield 28, (4, 8, 828), 0, 0), (.bipush 40, (0, 0, 0), 40, 0), (.iload_n 2, (0, 0, 0), 0, 0), (.imul, (0, 0, 0), 0, 0), (.iload 4, (0, 0, 0), 0, 0), (.iadd, (0, 0, 0), 0, 0), (.iaload, (0, 0, 0), 0, 0)] (by decide +kernel) rfl ?_
      refine xm_Vi (pc := 34) (mz := md_X4_holdsIn) (idx := 182) (p1 := 1149) (a := 39) (as := [.int v1, .int (u.1 46 (Int32.toNatClampNeg (((40 : Int32) * v2) + v4)))]) (st := []) (ev_X4_holdsIn N v1 (u.1 46 (Int32.toNatClampNeg (((40 : Int32) * v2) + v4))) u) mw_X4_holdsIn (by decide +kernel) (by decide +kernel) (by decide) rfl rfl (by decide) rfl (Nat.le_of_ble_eq_true rfl) (fun r34 => ?_)
      refine xm_blk (bs := [inb ((((40 : Int32) * v2) + v4) + (1 : Int32)) 240]) (pc' := 52) (lv' := [(0, .ref 39), (1, .int v1), (2, .int v2), (3, .int v3), (4, .int v4)]) (st' := [.int (1 : Int32), .int (u.1 46 (Int32.toNatClampNeg ((((40 : Int32) * v2) + v4) + (1 : Int32)))), .int r34]) (u' := (xU u)) [(.aload_n 0, (0, 0, 0), 0, 0), (.getfield 28, (4, 8, 828), 0, 0), (.bipush 40, (0, 0, 0), 40, 0), (.iload_n 2, (0, 0, 0), 0, 0), (.imul, (0, 0, 0), 0, 0), (.iload 4, (0, 0, 0), 0, 0), (.iadd, (0, 0, 0), 0, 0), (.iconst 1, (0, 0, 0), 1, 0), (.iadd, (0, 0, 0), 0, 0), (.iaload, (0, 0, 0), 0, 0), (.iconst 1, (0, 0, 0), 1, 0)] (by decide +kernel) rfl ?_
      refine xm_icmp_ne (pc := 52) (off := 7) (tgt := 59) (by decide +kernel) (by decide) ?_ ?_
      · refine xm_blk0 (pc' := 60) (lv' := [(0, .ref 39), (1, .int v1), (2, .int v2), (3, .int v3), (4, .int v4)]) (st' := [.int (0 : Int32), .int r34]) (u' := (xU u)) [(.iconst 0, (0, 0, 0), 0, 0)] (by decide +kernel) rfl ?_
        refine xm_wk [0, 1, 2, 4] (lv' := [(0, .ref 39), (1, .int v1), (2, .int v2), (4, .int v4)]) rfl ?_
        exact go_X4_isJudged_L60 N u rec5 h5 v1 v2 v4 (0 : Int32) r34
      · refine xm_blk0 (pc' := 56) (lv' := [(0, .ref 39), (1, .int v1), (2, .int v2), (3, .int v3), (4, .int v4)]) (st' := [.int (1 : Int32), .int r34]) (u' := (xU u)) [(.iconst 1, (0, 0, 0), 1, 0)] (by decide +kernel) rfl ?_
        refine xm_goto (pc := 56) (off := 4) (tgt := 60) (by decide +kernel) (by decide) ?_
        refine xm_wk [0, 1, 2, 4] (lv' := [(0, .ref 39), (1, .int v1), (2, .int v2), (4, .int v4)]) rfl ?_
        exact go_X4_isJudged_L60 N u rec5 h5 v1 v2 v4 (1 : Int32) r34
def f_X4_isJudged_L5 (N : Nat) (u : xN) : Nat → Int32 → Int32 → Int32 → Int32 → Option Int32
  | 0 => fun _ _ _ _ => none
  | n + 1 => fun v1 v2 v3 v4 => f_X4_isJudged_L5b N u (f_X4_isJudged_L5 N u n) v1 v2 v3 v4
theorem go_X4_isJudged_L5 (N : Nat) (u : xN) : ∀ (n : Nat) (v1 : Int32) (v2 : Int32) (v3 : Int32) (v4 : Int32), xGm md_X4_isJudged (rsI (xU u)) (f_X4_isJudged_L5 N u n v1 v2 v3 v4) 5 [(0, .ref 39), (1, .int v1), (2, .int v2), (3, .int v3), (4, .int v4)] [] (xU u) := by
  intro n
  induction n with
  | zero => intro v1 v2 v3 v4; exact xm_none
  | succ n ih => intro v1 v2 v3 v4; exact go_X4_isJudged_L5b N u _ ih v1 v2 v3 v4
def f_X4_isJudged (N : Nat) (a1 : Int32) (a2 : Int32) (u : xN) : Option Int32 := f_X4_isJudged_L5 N u N a1 a2 (1 : Int32) (0 : Int32)
set_option maxRecDepth 20000 in
theorem go_X4_isJudged (N : Nat) (a1 : Int32) (a2 : Int32) (u : xN) : xGm md_X4_isJudged (rsI (xU u)) (f_X4_isJudged N a1 a2 u) 0 [(0, .ref 39), (1, .int a1), (2, .int a2)] [] (xU u) := by
  unfold f_X4_isJudged
  refine xm_blk0 (pc' := 5) (lv' := [(0, .ref 39), (1, .int a1), (2, .int a2), (3, .int (1 : Int32)), (4, .int (0 : Int32))]) (st' := []) (u' := (xU u)) [(.iconst 1, (0, 0, 0), 1, 0), (.istore_n 3, (0, 0, 0), 0, 0), (.iconst 0, (0, 0, 0), 0, 0), (.istore 4, (0, 0, 0), 0, 0)] (by decide +kernel) rfl ?_
  exact go_X4_isJudged_L5 N u N a1 a2 (1 : Int32) (0 : Int32)
theorem ev_X4_isJudged (N : Nat) (a1 : Int32) (a2 : Int32) (u : xN) : ∀ r, f_X4_isJudged N a1 a2 u = some r → xEm md_X4_isJudged yX4_isJudged [.ref 39, .int a1, .int a2] (xU u) (some (.int r), (xU u)) := xm_met (res := (rsI (xU u))) (as := [.ref 39, .int a1, .int a2]) (go_X4_isJudged N a1 a2 u) (by decide) rfl (Nat.le_of_ble_eq_true rfl)
theorem mw_X4_judged : xMv yX4_judged cX4_judged 10 (some .int) 2 := xMv_of (p1 := 1273) (p2 := 1271) (p3 := 97) (p4 := 1272) (by decide +kernel)
/-! NeitherBareModel.judged(II)I (39, None, None) -/
abbrev md_X4_judged : xMd := (cX4_judged, RX4, 10, some .int, 7)
def f_X4_judged_L15 (N : Nat) (u : xN) : Option (Int32 × xN) := some ((-1 : Int32), u)
set_option maxRecDepth 20000 in
theorem go_X4_judged_L15 (N : Nat) (u : xN) : xGm md_X4_judged rsM (f_X4_judged_L15 N u) 15 [] [] (xU u) := by
  unfold f_X4_judged_L15
  refine xm_blk0 (pc' := 16) (lv' := []) (st' := [.int (-1 : Int32)]) (u' := (xU u)) [(.iconst (-1), (0, 0, 0), -1, 0)] (by decide +kernel) rfl ?_
  exact xm_iret (pc := 16) (by decide +kernel) rfl rfl
def f_X4_judged_L190 (N : Nat) (rec104 : Int32 → Int32 → Int32 → Int32 → Int32 → Int32 → Int32 → xN → Option (Int32 × xN)) (rec116 : Int32 → Int32 → Int32 → Int32 → Int32 → Int32 → Int32 → Int32 → xN → Option (Int32 × xN)) (v1 : Int32) (v2 : Int32) (v3 : Int32) (v4 : Int32) (v5 : Int32) (v7 : Int32) (v8 : Int32) (t0 : Int32) (t1 : Int32) (u : xN) : Option (Int32 × xN) := rec116 v1 v2 v3 v4 v5 (t1 + t0) v7 (v8 + (1 : Int32)) u
set_option maxRecDepth 20000 in
theorem go_X4_judged_L190 (N : Nat) (rec104 : Int32 → Int32 → Int32 → Int32 → Int32 → Int32 → Int32 → xN → Option (Int32 × xN)) (h104 : ∀ (v1 : Int32) (v2 : Int32) (v3 : Int32) (v4 : Int32) (v5 : Int32) (v6 : Int32) (v7 : Int32) (u : xN), xGm md_X4_judged rsM (rec104 v1 v2 v3 v4 v5 v6 v7 u) 104 [(0, .ref 39), (1, .int v1), (2, .int v2), (3, .int v3), (4, .int v4), (5, .int v5), (6, .int v6), (7, .int v7)] [] (xU u)) (rec116 : Int32 → Int32 → Int32 → Int32 → Int32 → Int32 → Int32 → Int32 → xN → Option (Int32 × xN)) (h116 : ∀ (v1 : Int32) (v2 : Int32) (v3 : Int32) (v4 : Int32) (v5 : Int32) (v6 : Int32) (v7 : Int32) (v8 : Int32) (u : xN), xGm md_X4_judged rsM (rec116 v1 v2 v3 v4 v5 v6 v7 v8 u) 116 [(0, .ref 39), (1, .int v1), (2, .int v2), (3, .int v3), (4, .int v4), (5, .int v5), (6, .int v6), (7, .int v7), (8, .int v8)] [] (xU u)) (v1 : Int32) (v2 : Int32) (v3 : Int32) (v4 : Int32) (v5 : Int32) (v7 : Int32) (v8 : Int32) (t0 : Int32) (t1 : Int32) (u : xN) : xGm md_X4_judged rsM (f_X4_judged_L190 N rec104 rec116 v1 v2 v3 v4 v5 v7 v8 t0 t1 u) 190 [(0, .ref 39), (1, .int v1), (2, .int v2), (3, .int v3), (4, .int v4), (5, .int v5), (7, .int v7), (8, .int v8)] [.int t0, .int t1] (xU u) := by
  unfold f_X4_judged_L190
  refine xm_blk0 (pc' := 196) (lv' := [(0, .ref 39), (1, .int v1), (2, .int v2), (3, .int v3), (4, .int v4), (5, .int v5), (6, .int (t1 + t0)), (7, .int v7), (8, .int (v8 + (1 : Int32)))]) (st' := []) (u' := (xU u)) [(.iadd, (0, 0, 0), 0, 0), (.istore 6, (0, 0, 0), 0, 0), (.iinc 8 1, (0, 0, 0), 1, 0)] (by decide +kernel) rfl ?_
  refine xm_goto (pc := 196) (off := -80) (tgt := 116) (by decide +kernel) (by decide) ?_
  exact h116 v1 v2 v3 v4 v5 (t1 + t0) v7 (v8 + (1 : Int32)) u
def f_X4_judged_L175 (N : Nat) (rec104 : Int32 → Int32 → Int32 → Int32 → Int32 → Int32 → Int32 → xN → Option (Int32 × xN)) (rec116 : Int32 → Int32 → Int32 → Int32 → Int32 → Int32 → Int32 → Int32 → xN → Option (Int32 × xN)) (v1 : Int32) (v2 : Int32) (v3 : Int32) (v4 : Int32) (v5 : Int32) (v6 : Int32) (v7 : Int32) (v8 : Int32) (v9 : Int32) (t0 : Int32) (u : xN) : Option (Int32 × xN) := if v9 = (0 : Int32) then f_X4_judged_L190 N rec104 rec116 v1 v2 v3 v4 v5 v7 v8 (0 : Int32) v6 (mI u 39 11 t0) else f_X4_judged_L190 N rec104 rec116 v1 v2 v3 v4 v5 v7 v8 (1 : Int32) v6 (mI u 39 11 t0)
set_option maxRecDepth 20000 in
theorem go_X4_judged_L175 (N : Nat) (rec104 : Int32 → Int32 → Int32 → Int32 → Int32 → Int32 → Int32 → xN → Option (Int32 × xN)) (h104 : ∀ (v1 : Int32) (v2 : Int32) (v3 : Int32) (v4 : Int32) (v5 : Int32) (v6 : Int32) (v7 : Int32) (u : xN), xGm md_X4_judged rsM (rec104 v1 v2 v3 v4 v5 v6 v7 u) 104 [(0, .ref 39), (1, .int v1), (2, .int v2), (3, .int v3), (4, .int v4), (5, .int v5), (6, .int v6), (7, .int v7)] [] (xU u)) (rec116 : Int32 → Int32 → Int32 → Int32 → Int32 → Int32 → Int32 → Int32 → xN → Option (Int32 × xN)) (h116 : ∀ (v1 : Int32) (v2 : Int32) (v3 : Int32) (v4 : Int32) (v5 : Int32) (v6 : Int32) (v7 : Int32) (v8 : Int32) (u : xN), xGm md_X4_judged rsM (rec116 v1 v2 v3 v4 v5 v6 v7 v8 u) 116 [(0, .ref 39), (1, .int v1), (2, .int v2), (3, .int v3), (4, .int v4), (5, .int v5), (6, .int v6), (7, .int v7), (8, .int v8)] [] (xU u)) (v1 : Int32) (v2 : Int32) (v3 : Int32) (v4 : Int32) (v5 : Int32) (v6 : Int32) (v7 : Int32) (v8 : Int32) (v9 : Int32) (t0 : Int32) (u : xN) : xGm md_X4_judged rsM (f_X4_judged_L175 N rec104 rec116 v1 v2 v3 v4 v5 v6 v7 v8 v9 t0 u) 175 [(0, .ref 39), (1, .int v1), (2, .int v2), (3, .int v3), (4, .int v4), (5, .int v5), (6, .int v6), (7, .int v7), (8, .int v8), (9, .int v9)] [.int t0, .ref 39] (xU u) := by
  unfold f_X4_judged_L175
  refine xm_blk0 (pc' := 182) (lv' := [(0, .ref 39), (1, .int v1), (2, .int v2), (3, .int v3), (4, .int v4), (5, .int v5), (6, .int v6), (7, .int v7), (8, .int v8), (9, .int v9)]) (st' := [.int v9, .int v6]) (u' := (xU (mI u 39 11 t0))) [(.putfield 67, (4, 11, 831), 0, 0), (.iload 6, (0, 0, 0), 0, 0), (.iload 9, (0, 0, 0), 0, 0)] (by decide +kernel) rfl ?_
  refine xm_if_eq (pc := 182) (off := 7) (tgt := 189) (by decide +kernel) (by decide) ?_ ?_
  · refine xm_blk0 (pc' := 190) (lv' := [(0, .ref 39), (1, .int v1), (2, .int v2), (3, .int v3), (4, .int v4), (5, .int v5), (6, .int v6), (7, .int v7), (8, .int v8), (9, .int v9)]) (st' := [.int (0 : Int32), .int v6]) (u' := (xU (mI u 39 11 t0))) [(.iconst 0, (0, 0, 0), 0, 0)] (by decide +kernel) rfl ?_
    refine xm_wk [0, 1, 2, 3, 4, 5, 7, 8] (lv' := [(0, .ref 39), (1, .int v1), (2, .int v2), (3, .int v3), (4, .int v4), (5, .int v5), (7, .int v7), (8, .int v8)]) rfl ?_
    exact go_X4_judged_L190 N rec104 h104 rec116 h116 v1 v2 v3 v4 v5 v7 v8 (0 : Int32) v6 (mI u 39 11 t0)
  · refine xm_blk0 (pc' := 186) (lv' := [(0, .ref 39), (1, .int v1), (2, .int v2), (3, .int v3), (4, .int v4), (5, .int v5), (6, .int v6), (7, .int v7), (8, .int v8), (9, .int v9)]) (st' := [.int (1 : Int32), .int v6]) (u' := (xU (mI u 39 11 t0))) [(.iconst 1, (0, 0, 0), 1, 0)] (by decide +kernel) rfl ?_
    refine xm_goto (pc := 186) (off := 4) (tgt := 190) (by decide +kernel) (by decide) ?_
    refine xm_wk [0, 1, 2, 3, 4, 5, 7, 8] (lv' := [(0, .ref 39), (1, .int v1), (2, .int v2), (3, .int v3), (4, .int v4), (5, .int v5), (7, .int v7), (8, .int v8)]) rfl ?_
    exact go_X4_judged_L190 N rec104 h104 rec116 h116 v1 v2 v3 v4 v5 v7 v8 (1 : Int32) v6 (mI u 39 11 t0)
def f_X4_judged_L171 (N : Nat) (rec104 : Int32 → Int32 → Int32 → Int32 → Int32 → Int32 → Int32 → xN → Option (Int32 × xN)) (rec116 : Int32 → Int32 → Int32 → Int32 → Int32 → Int32 → Int32 → Int32 → xN → Option (Int32 × xN)) (v1 : Int32) (v2 : Int32) (v3 : Int32) (v4 : Int32) (v5 : Int32) (v6 : Int32) (v7 : Int32) (v8 : Int32) (v9 : Int32) (u : xN) : Option (Int32 × xN) := f_X4_judged_L175 N rec104 rec116 v1 v2 v3 v4 v5 v6 v7 v8 v9 (u.1 39 11) u
set_option maxRecDepth 20000 in
theorem go_X4_judged_L171 (N : Nat) (rec104 : Int32 → Int32 → Int32 → Int32 → Int32 → Int32 → Int32 → xN → Option (Int32 × xN)) (h104 : ∀ (v1 : Int32) (v2 : Int32) (v3 : Int32) (v4 : Int32) (v5 : Int32) (v6 : Int32) (v7 : Int32) (u : xN), xGm md_X4_judged rsM (rec104 v1 v2 v3 v4 v5 v6 v7 u) 104 [(0, .ref 39), (1, .int v1), (2, .int v2), (3, .int v3), (4, .int v4), (5, .int v5), (6, .int v6), (7, .int v7)] [] (xU u)) (rec116 : Int32 → Int32 → Int32 → Int32 → Int32 → Int32 → Int32 → Int32 → xN → Option (Int32 × xN)) (h116 : ∀ (v1 : Int32) (v2 : Int32) (v3 : Int32) (v4 : Int32) (v5 : Int32) (v6 : Int32) (v7 : Int32) (v8 : Int32) (u : xN), xGm md_X4_judged rsM (rec116 v1 v2 v3 v4 v5 v6 v7 v8 u) 116 [(0, .ref 39), (1, .int v1), (2, .int v2), (3, .int v3), (4, .int v4), (5, .int v5), (6, .int v6), (7, .int v7), (8, .int v8)] [] (xU u)) (v1 : Int32) (v2 : Int32) (v3 : Int32) (v4 : Int32) (v5 : Int32) (v6 : Int32) (v7 : Int32) (v8 : Int32) (v9 : Int32) (u : xN) : xGm md_X4_judged rsM (f_X4_judged_L171 N rec104 rec116 v1 v2 v3 v4 v5 v6 v7 v8 v9 u) 171 [(0, .ref 39), (1, .int v1), (2, .int v2), (3, .int v3), (4, .int v4), (5, .int v5), (6, .int v6), (7, .int v7), (8, .int v8), (9, .int v9)] [.ref 39] (xU u) := by
  unfold f_X4_judged_L171
  refine xm_blk0 (pc' := 175) (lv' := [(0, .ref 39), (1, .int v1), (2, .int v2), (3, .int v3), (4, .int v4), (5, .int v5), (6, .int v6), (7, .int v7), (8, .int v8), (9, .int v9)]) (st' := [.int (u.1 39 11), .ref 39]) (u' := (xU u)) [(.aload_n 0, (0, 0, 0), 0, 0), (.getfield 67, (4, 11, 831), 0, 0)] (by decide +kernel) rfl ?_
  exact go_X4_judged_L175 N rec104 h104 rec116 h116 v1 v2 v3 v4 v5 v6 v7 v8 v9 (u.1 39 11) u
def f_X4_judged_L116b (N : Nat) (rec104 : Int32 → Int32 → Int32 → Int32 → Int32 → Int32 → Int32 → xN → Option (Int32 × xN)) (rec116 : Int32 → Int32 → Int32 → Int32 → Int32 → Int32 → Int32 → Int32 → xN → Option (Int32 × xN)) (v1 : Int32) (v2 : Int32) (v3 : Int32) (v4 : Int32) (v5 : Int32) (v6 : Int32) (v7 : Int32) (v8 : Int32) (u : xN) : Option (Int32 × xN) := if (6 : Int32) ≤ v8 then rec104 v1 v2 v3 v4 v5 v6 (v7 + (1 : Int32)) u else gdl [inb v3 1480, inb (v3 + (1 : Int32)) 1480] (Option.bind (f_X4_isJudged N v1 v2 (mI (mI u 40 (Int32.toNatClampNeg v3) v7) 40 (Int32.toNatClampNeg (v3 + (1 : Int32))) v8)) (fun r144 => if r144 = (0 : Int32) then f_X4_judged_L171 N rec104 rec116 v1 v2 v3 v4 v5 v6 v7 v8 r144 (mI (mI u 40 (Int32.toNatClampNeg v3) v7) 40 (Int32.toNatClampNeg (v3 + (1 : Int32))) v8) else if v6 = (0 : Int32) then f_X4_judged_L175 N rec104 rec116 v1 v2 v3 v4 v5 v6 v7 v8 r144 (((10 : Int32) * v7) + v8) (mI (mI u 40 (Int32.toNatClampNeg v3) v7) 40 (Int32.toNatClampNeg (v3 + (1 : Int32))) v8) else f_X4_judged_L171 N rec104 rec116 v1 v2 v3 v4 v5 v6 v7 v8 r144 (mI (mI u 40 (Int32.toNatClampNeg v3) v7) 40 (Int32.toNatClampNeg (v3 + (1 : Int32))) v8)))
set_option maxRecDepth 20000 in
theorem go_X4_judged_L116b (N : Nat) (rec104 : Int32 → Int32 → Int32 → Int32 → Int32 → Int32 → Int32 → xN → Option (Int32 × xN)) (h104 : ∀ (v1 : Int32) (v2 : Int32) (v3 : Int32) (v4 : Int32) (v5 : Int32) (v6 : Int32) (v7 : Int32) (u : xN), xGm md_X4_judged rsM (rec104 v1 v2 v3 v4 v5 v6 v7 u) 104 [(0, .ref 39), (1, .int v1), (2, .int v2), (3, .int v3), (4, .int v4), (5, .int v5), (6, .int v6), (7, .int v7)] [] (xU u)) (rec116 : Int32 → Int32 → Int32 → Int32 → Int32 → Int32 → Int32 → Int32 → xN → Option (Int32 × xN)) (h116 : ∀ (v1 : Int32) (v2 : Int32) (v3 : Int32) (v4 : Int32) (v5 : Int32) (v6 : Int32) (v7 : Int32) (v8 : Int32) (u : xN), xGm md_X4_judged rsM (rec116 v1 v2 v3 v4 v5 v6 v7 v8 u) 116 [(0, .ref 39), (1, .int v1), (2, .int v2), (3, .int v3), (4, .int v4), (5, .int v5), (6, .int v6), (7, .int v7), (8, .int v8)] [] (xU u)) (v1 : Int32) (v2 : Int32) (v3 : Int32) (v4 : Int32) (v5 : Int32) (v6 : Int32) (v7 : Int32) (v8 : Int32) (u : xN) : xGm md_X4_judged rsM (f_X4_judged_L116b N rec104 rec116 v1 v2 v3 v4 v5 v6 v7 v8 u) 116 [(0, .ref 39), (1, .int v1), (2, .int v2), (3, .int v3), (4, .int v4), (5, .int v5), (6, .int v6), (7, .int v7), (8, .int v8)] [] (xU u) := by
  unfold f_X4_judged_L116b
  refine xm_blk0 (pc' := 120) (lv' := [(0, .ref 39), (1, .int v1), (2, .int v2), (3, .int v3), (4, .int v4), (5, .int v5), (6, .int v6), (7, .int v7), (8, .int v8)]) (st' := [.int (6 : Int32), .int v8]) (u' := (xU u)) [(.iload 8, (0, 0, 0), 0, 0), (.bipush 6, (0, 0, 0), 6, 0)] (by decide +kernel) rfl ?_
  refine xm_icmp_ge (pc := 120) (off := 79) (tgt := 199) (by decide +kernel) (by decide) ?_ ?_
  · refine xm_blk0 (pc' := 202) (lv' := [(0, .ref 39), (1, .int v1), (2, .int v2), (3, .int v3), (4, .int v4), (5, .int v5), (6, .int v6), (7, .int (v7 + (1 : Int32))), (8, .int v8)]) (st' := []) (u' := (xU u)) [(.iinc 7 1, (0, 0, 0), 1, 0)] (by decide +kernel) rfl ?_
    refine xm_goto (pc := 202) (off := -98) (tgt := 104) (by decide +kernel) (by decide) ?_
    refine xm_wk [0, 1, 2, 3, 4, 5, 6, 7] (lv' := [(0, .ref 39), (1, .int v1), (2, .int v2), (3, .int v3), (4, .int v4), (5, .int v5), (6, .int v6), (7, .int (v7 + (1 : Int32)))]) rfl ?_
    exact h104 v1 v2 v3 v4 v5 v6 (v7 + (1 : Int32)) u
  · refine xm_blk (bs := [inb v3 1480, inb (v3 + (1 : Int32)) 1480]) (pc' := 144) (lv' := [(0, .ref 39), (1, .int v1), (2, .int v2), (3, .int v3), (4, .int v4), (5, .int v5), (6, .int v6), (7, .int v7), (8, .int v8)]) (st' := [.int v2, .int v1, .ref 39]) (u' := (xU (mI (mI u 40 (Int32.toNatClampNeg v3) v7) 40 (Int32.toNatClampNeg (v3 + (1 : Int32))) v8))) [(.aload_n 0, (0, 0, 0), 0, 0), (.getfield 7, (4, 0, 820), 0, 0), (.iload_n 3, (0, 0, 0), 0, 0), (.iload 7, (0, 0, 0), 0, 0), (.iastore, (0, 0, 0), 0, 0), (.aload_n 0, (0, 0, 0), 0, 0), (.getfield 7, (4, 0, 820), 0, 0), (.iload_n 3, (0, 0, 0), 0, 0), (.iconst 1, (0, 0, 0), 1, 0), (.iadd, (0, 0, 0), 0, 0), (.iload 8, (0, 0, 0), 0, 0), (.iastore, (0, 0, 0), 0, 0), (.aload_n 0, (0, 0, 0), 0, 0), (.iload_n 1, (0, 0, 0), 0, 0), (.iload_n 2, (0, 0, 0), 0, 0)] (by decide +kernel) rfl ?_
    refine xm_Vi (pc := 144) (mz := md_X4_isJudged) (idx := 278) (p1 := 1278) (a := 39) (as := [.int v1, .int v2]) (st := []) (ev_X4_isJudged N v1 v2 (mI (mI u 40 (Int32.toNatClampNeg v3) v7) 40 (Int32.toNatClampNeg (v3 + (1 : Int32))) v8)) mw_X4_isJudged (by decide +kernel) (by decide +kernel) (by decide) rfl rfl (by decide) rfl (Nat.le_of_ble_eq_true rfl) (fun r144 => ?_)
    refine xm_blk0 (pc' := 152) (lv' := [(0, .ref 39), (1, .int v1), (2, .int v2), (3, .int v3), (4, .int v4), (5, .int v5), (6, .int v6), (7, .int v7), (8, .int v8), (9, .int r144)]) (st' := [.int r144, .ref 39]) (u' := (xU (mI (mI u 40 (Int32.toNatClampNeg v3) v7) 40 (Int32.toNatClampNeg (v3 + (1 : Int32))) v8))) [(.istore 9, (0, 0, 0), 0, 0), (.aload_n 0, (0, 0, 0), 0, 0), (.iload 9, (0, 0, 0), 0, 0)] (by decide +kernel) rfl ?_
    refine xm_if_eq (pc := 152) (off := 19) (tgt := 171) (by decide +kernel) (by decide) ?_ ?_
    · exact go_X4_judged_L171 N rec104 h104 rec116 h116 v1 v2 v3 v4 v5 v6 v7 v8 r144 (mI (mI u 40 (Int32.toNatClampNeg v3) v7) 40 (Int32.toNatClampNeg (v3 + (1 : Int32))) v8)
    · refine xm_blk0 (pc' := 157) (lv' := [(0, .ref 39), (1, .int v1), (2, .int v2), (3, .int v3), (4, .int v4), (5, .int v5), (6, .int v6), (7, .int v7), (8, .int v8), (9, .int r144)]) (st' := [.int v6, .ref 39]) (u' := (xU (mI (mI u 40 (Int32.toNatClampNeg v3) v7) 40 (Int32.toNatClampNeg (v3 + (1 : Int32))) v8))) [(.iload 6, (0, 0, 0), 0, 0)] (by decide +kernel) rfl ?_
      refine xm_if_ne (pc := 157) (off := 14) (tgt := 171) (by decide +kernel) (by decide) ?_ ?_
      · exact go_X4_judged_L171 N rec104 h104 rec116 h116 v1 v2 v3 v4 v5 v6 v7 v8 r144 (mI (mI u 40 (Int32.toNatClampNeg v3) v7) 40 (Int32.toNatClampNeg (v3 + (1 : Int32))) v8)
      · refine xm_blk0 (pc' := 168) (lv' := [(0, .ref 39), (1, .int v1), (2, .int v2), (3, .int v3), (4, .int v4), (5, .int v5), (6, .int v6), (7, .int v7), (8, .int v8), (9, .int r144)]) (st' := [.int (((10 : Int32) * v7) + v8), .ref 39]) (u' := (xU (mI (mI u 40 (Int32.toNatClampNeg v3) v7) 40 (Int32.toNatClampNeg (v3 + (1 : Int32))) v8))) [(.bipush 10, (0, 0, 0), 10, 0), (.iload 7, (0, 0, 0), 0, 0), (.imul, (0, 0, 0), 0, 0), (.iload 8, (0, 0, 0), 0, 0), (.iadd, (0, 0, 0), 0, 0)] (by decide +kernel) rfl ?_
        refine xm_goto (pc := 168) (off := 7) (tgt := 175) (by decide +kernel) (by decide) ?_
        exact go_X4_judged_L175 N rec104 h104 rec116 h116 v1 v2 v3 v4 v5 v6 v7 v8 r144 (((10 : Int32) * v7) + v8) (mI (mI u 40 (Int32.toNatClampNeg v3) v7) 40 (Int32.toNatClampNeg (v3 + (1 : Int32))) v8)
def f_X4_judged_L116 (N : Nat) (rec104 : Int32 → Int32 → Int32 → Int32 → Int32 → Int32 → Int32 → xN → Option (Int32 × xN)) : Nat → Int32 → Int32 → Int32 → Int32 → Int32 → Int32 → Int32 → Int32 → xN → Option (Int32 × xN)
  | 0 => fun _ _ _ _ _ _ _ _ _ => none
  | n + 1 => fun v1 v2 v3 v4 v5 v6 v7 v8 u => f_X4_judged_L116b N rec104 (f_X4_judged_L116 N rec104 n) v1 v2 v3 v4 v5 v6 v7 v8 u
theorem go_X4_judged_L116 (N : Nat) (rec104 : Int32 → Int32 → Int32 → Int32 → Int32 → Int32 → Int32 → xN → Option (Int32 × xN)) (h104 : ∀ (v1 : Int32) (v2 : Int32) (v3 : Int32) (v4 : Int32) (v5 : Int32) (v6 : Int32) (v7 : Int32) (u : xN), xGm md_X4_judged rsM (rec104 v1 v2 v3 v4 v5 v6 v7 u) 104 [(0, .ref 39), (1, .int v1), (2, .int v2), (3, .int v3), (4, .int v4), (5, .int v5), (6, .int v6), (7, .int v7)] [] (xU u)) : ∀ (n : Nat) (v1 : Int32) (v2 : Int32) (v3 : Int32) (v4 : Int32) (v5 : Int32) (v6 : Int32) (v7 : Int32) (v8 : Int32) (u : xN), xGm md_X4_judged rsM (f_X4_judged_L116 N rec104 n v1 v2 v3 v4 v5 v6 v7 v8 u) 116 [(0, .ref 39), (1, .int v1), (2, .int v2), (3, .int v3), (4, .int v4), (5, .int v5), (6, .int v6), (7, .int v7), (8, .int v8)] [] (xU u) := by
  intro n
  induction n with
  | zero => intro v1 v2 v3 v4 v5 v6 v7 v8 u; exact xm_none
  | succ n ih => intro v1 v2 v3 v4 v5 v6 v7 v8 u; exact go_X4_judged_L116b N rec104 h104 _ ih v1 v2 v3 v4 v5 v6 v7 v8 u
def f_X4_judged_L104b (N : Nat) (rec104 : Int32 → Int32 → Int32 → Int32 → Int32 → Int32 → Int32 → xN → Option (Int32 × xN)) (v1 : Int32) (v2 : Int32) (v3 : Int32) (v4 : Int32) (v5 : Int32) (v6 : Int32) (v7 : Int32) (u : xN) : Option (Int32 × xN) := if (5 : Int32) ≤ v7 then (gdl [inb v3 1480, inb (v3 + (1 : Int32)) 1480] (some (v6, mI (mI u 40 (Int32.toNatClampNeg v3) v4) 40 (Int32.toNatClampNeg (v3 + (1 : Int32))) v5))) else f_X4_judged_L116 N rec104 N v1 v2 v3 v4 v5 v6 v7 (v7 + (1 : Int32)) u
set_option maxRecDepth 20000 in
theorem go_X4_judged_L104b (N : Nat) (rec104 : Int32 → Int32 → Int32 → Int32 → Int32 → Int32 → Int32 → xN → Option (Int32 × xN)) (h104 : ∀ (v1 : Int32) (v2 : Int32) (v3 : Int32) (v4 : Int32) (v5 : Int32) (v6 : Int32) (v7 : Int32) (u : xN), xGm md_X4_judged rsM (rec104 v1 v2 v3 v4 v5 v6 v7 u) 104 [(0, .ref 39), (1, .int v1), (2, .int v2), (3, .int v3), (4, .int v4), (5, .int v5), (6, .int v6), (7, .int v7)] [] (xU u)) (v1 : Int32) (v2 : Int32) (v3 : Int32) (v4 : Int32) (v5 : Int32) (v6 : Int32) (v7 : Int32) (u : xN) : xGm md_X4_judged rsM (f_X4_judged_L104b N rec104 v1 v2 v3 v4 v5 v6 v7 u) 104 [(0, .ref 39), (1, .int v1), (2, .int v2), (3, .int v3), (4, .int v4), (5, .int v5), (6, .int v6), (7, .int v7)] [] (xU u) := by
  unfold f_X4_judged_L104b
  refine xm_blk0 (pc' := 107) (lv' := [(0, .ref 39), (1, .int v1), (2, .int v2), (3, .int v3), (4, .int v4), (5, .int v5), (6, .int v6), (7, .int v7)]) (st' := [.int (5 : Int32), .int v7]) (u' := (xU u)) [(.iload 7, (0, 0, 0), 0, 0), (.iconst 5, (0, 0, 0), 5, 0)] (by decide +kernel) rfl ?_
  refine xm_icmp_ge (pc := 107) (off := 98) (tgt := 205) (by decide +kernel) (by decide) ?_ ?_
  · refine xm_blk (bs := [inb v3 1480, inb (v3 + (1 : Int32)) 1480]) (pc' := 225) (lv' := [(0, .ref 39), (1, .int v1), (2, .int v2), (3, .int v3), (4, .int v4), (5, .int v5), (6, .int v6), (7, .int v7)]) (st' := [.int v6]) (u' := (xU (mI (mI u 40 (Int32.toNatClampNeg v3) v4) 40 (Int32.toNatClampNeg (v3 + (1 : Int32))) v5))) [(.aload_n 0, (0, 0, 0), 0, 0), (.getfield 7, (4, 0, 820), 0, 0), (.iload_n 3, (0, 0, 0), 0, 0), (.iload 4, (0, 0, 0), 0, 0), (.iastore, (0, 0, 0), 0, 0), (.aload_n 0, (0, 0, 0), 0, 0), (.getfield 7, (4, 0, 820), 0, 0), (.iload_n 3, (0, 0, 0), 0, 0), (.iconst 1, (0, 0, 0), 1, 0), (.iadd, (0, 0, 0), 0, 0), (.iload 5, (0, 0, 0), 0, 0), (.iastore, (0, 0, 0), 0, 0), (.iload 6, (0, 0, 0), 0, 0)] (by decide +kernel) rfl ?_
    exact xm_iret (pc := 225) (by decide +kernel) rfl rfl
  · refine xm_blk0 (pc' := 116) (lv' := [(0, .ref 39), (1, .int v1), (2, .int v2), (3, .int v3), (4, .int v4), (5, .int v5), (6, .int v6), (7, .int v7), (8, .int (v7 + (1 : Int32)))]) (st' := []) (u' := (xU u)) [(.iload 7, (0, 0, 0), 0, 0), (.iconst 1, (0, 0, 0), 1, 0), (.iadd, (0, 0, 0), 0, 0), (.istore 8, (0, 0, 0), 0, 0)] (by decide +kernel) rfl ?_
    exact go_X4_judged_L116 N rec104 h104 N v1 v2 v3 v4 v5 v6 v7 (v7 + (1 : Int32)) u
def f_X4_judged_L104 (N : Nat) : Nat → Int32 → Int32 → Int32 → Int32 → Int32 → Int32 → Int32 → xN → Option (Int32 × xN)
  | 0 => fun _ _ _ _ _ _ _ _ => none
  | n + 1 => fun v1 v2 v3 v4 v5 v6 v7 u => f_X4_judged_L104b N (f_X4_judged_L104 N n) v1 v2 v3 v4 v5 v6 v7 u
theorem go_X4_judged_L104 (N : Nat) : ∀ (n : Nat) (v1 : Int32) (v2 : Int32) (v3 : Int32) (v4 : Int32) (v5 : Int32) (v6 : Int32) (v7 : Int32) (u : xN), xGm md_X4_judged rsM (f_X4_judged_L104 N n v1 v2 v3 v4 v5 v6 v7 u) 104 [(0, .ref 39), (1, .int v1), (2, .int v2), (3, .int v3), (4, .int v4), (5, .int v5), (6, .int v6), (7, .int v7)] [] (xU u) := by
  intro n
  induction n with
  | zero => intro v1 v2 v3 v4 v5 v6 v7 u; exact xm_none
  | succ n ih => intro v1 v2 v3 v4 v5 v6 v7 u; exact go_X4_judged_L104b N _ ih v1 v2 v3 v4 v5 v6 v7 u
def f_X4_judged (N : Nat) (a1 : Int32) (a2 : Int32) (u : xN) : Option (Int32 × xN) := Option.bind (f_X4_isClause a1 u) (fun r2 => if r2 = (0 : Int32) then f_X4_judged_L15 N u else Option.bind (f_X4_isRow a2) (fun r9 => if r9 = (0 : Int32) then f_X4_judged_L15 N u else gdl [inb a2 6] (if (0 : Int32) ≤ (u.1 45 (Int32.toNatClampNeg a2)) then (gdl [inb a2 6, nzi (2 : Int32)] (if ((u.1 45 (Int32.toNatClampNeg a2)) - (u.1 45 (Int32.toNatClampNeg a2)) / (2 : Int32) * (2 : Int32)) = (0 : Int32) then Option.bind (f_X4_areJudged N a2 u) (fun r51 => if r51 = (0 : Int32) then Option.bind (f_X4_find (3 : Int32) u) (fun r59 => some (r59.1, r59.2)) else gdl [inb a1 8, inb ((2 : Int32) + ((2 : Int32) * (u.1 43 (Int32.toNatClampNeg a1)))) 1480, inb (((2 : Int32) + ((2 : Int32) * (u.1 43 (Int32.toNatClampNeg a1)))) + (1 : Int32)) 1480] (f_X4_judged_L104 N N a1 a2 ((2 : Int32) + ((2 : Int32) * (u.1 43 (Int32.toNatClampNeg a1)))) (u.1 40 (Int32.toNatClampNeg ((2 : Int32) + ((2 : Int32) * (u.1 43 (Int32.toNatClampNeg a1)))))) (u.1 40 (Int32.toNatClampNeg (((2 : Int32) + ((2 : Int32) * (u.1 43 (Int32.toNatClampNeg a1)))) + (1 : Int32)))) (0 : Int32) (0 : Int32) (mI u 39 11 (-9 : Int32)))) else Option.bind (f_X4_find (5 : Int32) u) (fun r45 => some (r45.1, r45.2)))) else Option.bind (f_X4_find (1 : Int32) u) (fun r28 => some (r28.1, r28.2)))))
set_option maxRecDepth 20000 in
theorem go_X4_judged (N : Nat) (a1 : Int32) (a2 : Int32) (u : xN) : xGm md_X4_judged rsM (f_X4_judged N a1 a2 u) 0 [(0, .ref 39), (1, .int a1), (2, .int a2)] [] (xU u) := by
  unfold f_X4_judged
  refine xm_blk0 (pc' := 2) (lv' := [(0, .ref 39), (1, .int a1), (2, .int a2)]) (st' := [.int a1, .ref 39]) (u' := (xU u)) [(.aload_n 0, (0, 0, 0), 0, 0), (.iload_n 1, (0, 0, 0), 0, 0)] (by decide +kernel) rfl ?_
  refine xm_Vi (pc := 2) (mz := md_X4_isClause) (idx := 194) (p1 := 1008) (a := 39) (as := [.int a1]) (st := []) (ev_X4_isClause a1 u) mw_X4_isClause (by decide +kernel) (by decide +kernel) (by decide) rfl rfl (by decide) rfl (Nat.le_of_ble_eq_true rfl) (fun r2 => ?_)
  refine xm_if_eq (pc := 5) (off := 10) (tgt := 15) (by decide +kernel) (by decide) ?_ ?_
  · refine xm_wk [] (lv' := []) rfl ?_
    exact go_X4_judged_L15 N u
  · refine xm_blk0 (pc' := 9) (lv' := [(0, .ref 39), (1, .int a1), (2, .int a2)]) (st' := [.int a2]) (u' := (xU u)) [(.iload_n 2, (0, 0, 0), 0, 0)] (by decide +kernel) rfl ?_
    refine xm_Si (pc := 9) (mz := md_X4_isRow) (idx := 78) (p1 := 901) (as := [.int a2]) (st := []) (ev_X4_isRow a2 u) mw_X4_isRow (by decide +kernel) (by decide +kernel) (by decide) rfl (Nat.le_of_ble_eq_true rfl) (fun r9 => ?_)
    refine xm_if_ne (pc := 12) (off := 5) (tgt := 17) (by decide +kernel) (by decide) ?_ ?_
    · refine xm_blk (bs := [inb a2 6]) (pc' := 23) (lv' := [(0, .ref 39), (1, .int a1), (2, .int a2)]) (st' := [.int (u.1 45 (Int32.toNatClampNeg a2))]) (u' := (xU u)) [(.aload_n 0, (0, 0, 0), 0, 0), (.getfield 25, (4, 7, 827), 0, 0), (.iload_n 2, (0, 0, 0), 0, 0), (.iaload, (0, 0, 0), 0, 0)] (by decide +kernel) rfl ?_
      refine xm_if_ge (pc := 23) (off := 9) (tgt := 32) (by decide +kernel) (by decide) ?_ ?_
      · refine xm_blk (bs := [inb a2 6, nzi (2 : Int32)]) (pc' := 40) (lv' := [(0, .ref 39), (1, .int a1), (2, .int a2)]) (st' := [.int ((u.1 45 (Int32.toNatClampNeg a2)) - (u.1 45 (Int32.toNatClampNeg a2)) / (2 : Int32) * (2 : Int32))]) (u' := (xU u)) [(.aload_n 0, (0, 0, 0), 0, 0), (.getfield 25, (4, 7, 827), 0, 0), (.iload_n 2, (0, 0, 0), 0, 0), (.iaload, (0, 0, 0), 0, 0), (.iconst 2, (0, 0, 0), 2, 0), (.irem, (0, 0, 0), 0, 0)] (by decide +kernel) rfl ?_
        refine xm_if_eq (pc := 40) (off := 9) (tgt := 49) (by decide +kernel) (by decide) ?_ ?_
        · refine xm_blk0 (pc' := 51) (lv' := [(0, .ref 39), (1, .int a1), (2, .int a2)]) (st' := [.int a2, .ref 39]) (u' := (xU u)) [(.aload_n 0, (0, 0, 0), 0, 0), (.iload_n 2, (0, 0, 0), 0, 0)] (by decide +kernel) rfl ?_
          refine xm_Vi (pc := 51) (mz := md_X4_areJudged) (idx := 275) (p1 := 1274) (a := 39) (as := [.int a2]) (st := []) (ev_X4_areJudged N a2 u) mw_X4_areJudged (by decide +kernel) (by decide +kernel) (by decide) rfl rfl (by decide) rfl (Nat.le_of_ble_eq_true rfl) (fun r51 => ?_)
          refine xm_if_ne (pc := 54) (off := 9) (tgt := 63) (by decide +kernel) (by decide) ?_ ?_
          · refine xm_blk (bs := [inb a1 8, inb ((2 : Int32) + ((2 : Int32) * (u.1 43 (Int32.toNatClampNeg a1)))) 1480, inb (((2 : Int32) + ((2 : Int32) * (u.1 43 (Int32.toNatClampNeg a1)))) + (1 : Int32)) 1480]) (pc' := 104) (lv' := [(0, .ref 39), (1, .int a1), (2, .int a2), (3, .int ((2 : Int32) + ((2 : Int32) * (u.1 43 (Int32.toNatClampNeg a1))))), (4, .int (u.1 40 (Int32.toNatClampNeg ((2 : Int32) + ((2 : Int32) * (u.1 43 (Int32.toNatClampNeg a1))))))), (5, .int (u.1 40 (Int32.toNatClampNeg (((2 : Int32) + ((2 : Int32) * (u.1 43 (Int32.toNatClampNeg a1)))) + (1 : Int32))))), (6, .int (0 : Int32)), (7, .int (0 : Int32))]) (st' := []) (u' := (xU (mI u 39 11 (-9 : Int32)))) [(.iconst 2, (0, 0, 0), 2, 0), (.iconst 2, (0, 0, 0), 2, 0), (.aload_n 0, (0, 0, 0), 0, 0), (.getfield 19, (4, 5, 825), 0, 0), (.iload_n 1, (0, 0, 0), 0, 0), (.iaload, (0, 0, 0), 0, 0), (.imul, (0, 0, 0), 0, 0), (.iadd, (0, 0, 0), 0, 0), (.istore_n 3, (0, 0, 0), 0, 0), (.aload_n 0, (0, 0, 0), 0, 0), (.getfield 7, (4, 0, 820), 0, 0), (.iload_n 3, (0, 0, 0), 0, 0), (.iaload, (0, 0, 0), 0, 0), (.istore 4, (0, 0, 0), 0, 0), (.aload_n 0, (0, 0, 0), 0, 0), (.getfield 7, (4, 0, 820), 0, 0), (.iload_n 3, (0, 0, 0), 0, 0), (.iconst 1, (0, 0, 0), 1, 0), (.iadd, (0, 0, 0), 0, 0), (.iaload, (0, 0, 0), 0, 0), (.istore 5, (0, 0, 0), 0, 0), (.iconst 0, (0, 0, 0), 0, 0), (.istore 6, (0, 0, 0), 0, 0), (.aload_n 0, (0, 0, 0), 0, 0), (.bipush (-9), (0, 0, 0), -9, 0), (.putfield 67, (4, 11, 831), 0, 0), (.iconst 0, (0, 0, 0), 0, 0), (.istore 7, (0, 0, 0), 0, 0)] (by decide +kernel) rfl ?_
            exact go_X4_judged_L104 N N a1 a2 ((2 : Int32) + ((2 : Int32) * (u.1 43 (Int32.toNatClampNeg a1)))) (u.1 40 (Int32.toNatClampNeg ((2 : Int32) + ((2 : Int32) * (u.1 43 (Int32.toNatClampNeg a1)))))) (u.1 40 (Int32.toNatClampNeg (((2 : Int32) + ((2 : Int32) * (u.1 43 (Int32.toNatClampNeg a1)))) + (1 : Int32)))) (0 : Int32) (0 : Int32) (mI u 39 11 (-9 : Int32))
          · refine xm_blk0 (pc' := 59) (lv' := [(0, .ref 39), (1, .int a1), (2, .int a2)]) (st' := [.int (3 : Int32), .ref 39]) (u' := (xU u)) [(.aload_n 0, (0, 0, 0), 0, 0), (.iconst 3, (0, 0, 0), 3, 0)] (by decide +kernel) rfl ?_
            refine xm_Vm (pc := 59) (mz := md_X4_find) (idx := 82) (p1 := 908) (a := 39) (as := [.int (3 : Int32)]) (st := []) (ev_X4_find (3 : Int32) u) mw_X4_find (by decide +kernel) (by decide +kernel) (by decide) rfl rfl (by decide) rfl (Nat.le_of_ble_eq_true rfl) (fun r59 => ?_)
            exact xm_iret (pc := 62) (by decide +kernel) rfl rfl
        · refine xm_blk0 (pc' := 45) (lv' := [(0, .ref 39), (1, .int a1), (2, .int a2)]) (st' := [.int (5 : Int32), .ref 39]) (u' := (xU u)) [(.aload_n 0, (0, 0, 0), 0, 0), (.iconst 5, (0, 0, 0), 5, 0)] (by decide +kernel) rfl ?_
          refine xm_Vm (pc := 45) (mz := md_X4_find) (idx := 82) (p1 := 908) (a := 39) (as := [.int (5 : Int32)]) (st := []) (ev_X4_find (5 : Int32) u) mw_X4_find (by decide +kernel) (by decide +kernel) (by decide) rfl rfl (by decide) rfl (Nat.le_of_ble_eq_true rfl) (fun r45 => ?_)
          exact xm_iret (pc := 48) (by decide +kernel) rfl rfl
      · refine xm_blk0 (pc' := 28) (lv' := [(0, .ref 39), (1, .int a1), (2, .int a2)]) (st' := [.int (1 : Int32), .ref 39]) (u' := (xU u)) [(.aload_n 0, (0, 0, 0), 0, 0), (.iconst 1, (0, 0, 0), 1, 0)] (by decide +kernel) rfl ?_
        refine xm_Vm (pc := 28) (mz := md_X4_find) (idx := 82) (p1 := 908) (a := 39) (as := [.int (1 : Int32)]) (st := []) (ev_X4_find (1 : Int32) u) mw_X4_find (by decide +kernel) (by decide +kernel) (by decide) rfl rfl (by decide) rfl (Nat.le_of_ble_eq_true rfl) (fun r28 => ?_)
        exact xm_iret (pc := 31) (by decide +kernel) rfl rfl
    · refine xm_wk [] (lv' := []) rfl ?_
      exact go_X4_judged_L15 N u
theorem ev_X4_judged (N : Nat) (a1 : Int32) (a2 : Int32) (u : xN) : ∀ r, f_X4_judged N a1 a2 u = some r → xEm md_X4_judged yX4_judged [.ref 39, .int a1, .int a2] (xU u) (some (.int r.1), xU r.2) := xm_met (res := rsM) (as := [.ref 39, .int a1, .int a2]) (go_X4_judged N a1 a2 u) (by decide) rfl (Nat.le_of_ble_eq_true rfl)
theorem mw_X4_tellParts : xMv yX4_tellParts cX4_tellParts 11 (some .int) 2 := xMv_of (p1 := 1290) (p2 := 1289) (p3 := 97) (p4 := 87) (by decide +kernel)
/-! NeitherBareModel.tellParts(JJ)I (39, None, None) -/
abbrev md_X4_tellParts : xMd := (cX4_tellParts, RX4, 11, some .int, 1)
def f_X4_tellParts_L6b (N : Nat) (rec6 : Int64 → Int64 → Int64 → Int64 → xN → Option (Int32 × xN)) (v1 : Int64) (v3 : Int64) (v5 : Int64) (v7 : Int64) (u : xN) : Option (Int32 × xN) := if (lg_cmp v7 (0 : Int64)) = (0 : Int32) then (gdl [nzl v5, nzl v5] (some ((1 : Int32), mJ (mJ u 39 12 (v1 / v5)) 39 13 (v3 / v5)))) else gdl [nzl v7] (rec6 v1 v3 v7 (v5 - v5 / v7 * v7) u)
set_option maxRecDepth 20000 in
theorem go_X4_tellParts_L6b (N : Nat) (rec6 : Int64 → Int64 → Int64 → Int64 → xN → Option (Int32 × xN)) (h6 : ∀ (v1 : Int64) (v3 : Int64) (v5 : Int64) (v7 : Int64) (u : xN), xGm md_X4_tellParts rsM (rec6 v1 v3 v5 v7 u) 6 [(0, .ref 39), (1, .long v1), (3, .long v3), (5, .long v5), (7, .long v7)] [] (xU u)) (v1 : Int64) (v3 : Int64) (v5 : Int64) (v7 : Int64) (u : xN) : xGm md_X4_tellParts rsM (f_X4_tellParts_L6b N rec6 v1 v3 v5 v7 u) 6 [(0, .ref 39), (1, .long v1), (3, .long v3), (5, .long v5), (7, .long v7)] [] (xU u) := by
  unfold f_X4_tellParts_L6b
  refine xm_blk0 (pc' := 10) (lv' := [(0, .ref 39), (1, .long v1), (3, .long v3), (5, .long v5), (7, .long v7)]) (st' := [.int (lg_cmp v7 (0 : Int64))]) (u' := (xU u)) [(.lload 7, (0, 0, 0), 0, 0), (.lconst 0, (0, 0, 0), 0, 0), (.lcmp, (0, 0, 0), 0, 0)] (by decide +kernel) rfl ?_
  refine xm_if_eq (pc := 10) (off := 21) (tgt := 31) (by decide +kernel) (by decide) ?_ ?_
  · refine xm_blk (bs := [nzl v5, nzl v5]) (pc' := 48) (lv' := [(0, .ref 39), (1, .long v1), (3, .long v3), (5, .long v5), (7, .long v7)]) (st' := [.int (1 : Int32)]) (u' := (xU (mJ (mJ u 39 12 (v1 / v5)) 39 13 (v3 / v5)))) [(.aload_n 0, (0, 0, 0), 0, 0), (.lload_n 1, (0, 0, 0), 0, 0), (.lload 5, (0, 0, 0), 0, 0), (.ldiv, (0, 0, 0), 0, 0), (.putfield 281, (4, 12, 832), 0, 0), (.aload_n 0, (0, 0, 0), 0, 0), (.lload_n 3, (0, 0, 0), 0, 0), (.lload 5, (0, 0, 0), 0, 0), (.ldiv, (0, 0, 0), 0, 0), (.putfield 37, (4, 13, 833), 0, 0), (.iconst 1, (0, 0, 0), 1, 0)] (by decide +kernel) rfl ?_
    exact xm_iret (pc := 48) (by decide +kernel) rfl rfl
  · refine xm_blk (bs := [nzl v7]) (pc' := 28) (lv' := [(0, .ref 39), (1, .long v1), (3, .long v3), (5, .long v7), (7, .long (v5 - v5 / v7 * v7)), (9, .long (v5 - v5 / v7 * v7))]) (st' := []) (u' := (xU u)) [(.lload 5, (0, 0, 0), 0, 0), (.lload 7, (0, 0, 0), 0, 0), (.lrem, (0, 0, 0), 0, 0), (.lstore 9, (0, 0, 0), 0, 0), (.lload 7, (0, 0, 0), 0, 0), (.lstore 5, (0, 0, 0), 0, 0), (.lload 9, (0, 0, 0), 0, 0), (.lstore 7, (0, 0, 0), 0, 0)] (by decide +kernel) rfl ?_
    refine xm_goto (pc := 28) (off := -22) (tgt := 6) (by decide +kernel) (by decide) ?_
    refine xm_wk [0, 1, 2, 3, 4] (lv' := [(0, .ref 39), (1, .long v1), (3, .long v3), (5, .long v7), (7, .long (v5 - v5 / v7 * v7))]) rfl ?_
    exact h6 v1 v3 v7 (v5 - v5 / v7 * v7) u
def f_X4_tellParts_L6 (N : Nat) : Nat → Int64 → Int64 → Int64 → Int64 → xN → Option (Int32 × xN)
  | 0 => fun _ _ _ _ _ => none
  | n + 1 => fun v1 v3 v5 v7 u => f_X4_tellParts_L6b N (f_X4_tellParts_L6 N n) v1 v3 v5 v7 u
theorem go_X4_tellParts_L6 (N : Nat) : ∀ (n : Nat) (v1 : Int64) (v3 : Int64) (v5 : Int64) (v7 : Int64) (u : xN), xGm md_X4_tellParts rsM (f_X4_tellParts_L6 N n v1 v3 v5 v7 u) 6 [(0, .ref 39), (1, .long v1), (3, .long v3), (5, .long v5), (7, .long v7)] [] (xU u) := by
  intro n
  induction n with
  | zero => intro v1 v3 v5 v7 u; exact xm_none
  | succ n ih => intro v1 v3 v5 v7 u; exact go_X4_tellParts_L6b N _ ih v1 v3 v5 v7 u
def f_X4_tellParts (N : Nat) (a1 : Int64) (a3 : Int64) (u : xN) : Option (Int32 × xN) := f_X4_tellParts_L6 N N a1 a3 a1 a3 u
set_option maxRecDepth 20000 in
theorem go_X4_tellParts (N : Nat) (a1 : Int64) (a3 : Int64) (u : xN) : xGm md_X4_tellParts rsM (f_X4_tellParts N a1 a3 u) 0 [(0, .ref 39), (1, .long a1), (3, .long a3)] [] (xU u) := by
  unfold f_X4_tellParts
  refine xm_blk0 (pc' := 6) (lv' := [(0, .ref 39), (1, .long a1), (3, .long a3), (5, .long a1), (7, .long a3)]) (st' := []) (u' := (xU u)) [(.lload_n 1, (0, 0, 0), 0, 0), (.lstore 5, (0, 0, 0), 0, 0), (.lload_n 3, (0, 0, 0), 0, 0), (.lstore 7, (0, 0, 0), 0, 0)] (by decide +kernel) rfl ?_
  exact go_X4_tellParts_L6 N N a1 a3 a1 a3 u
theorem ev_X4_tellParts (N : Nat) (a1 : Int64) (a3 : Int64) (u : xN) : ∀ r, f_X4_tellParts N a1 a3 u = some r → xEm md_X4_tellParts yX4_tellParts [.ref 39, .long a1, .long a3] (xU u) (some (.int r.1), xU r.2) := xm_met (res := rsM) (as := [.ref 39, .long a1, .long a3]) (go_X4_tellParts N a1 a3 u) (by decide) rfl (Nat.le_of_ble_eq_true rfl)
theorem mw_X4_odds : xMv yX4_odds cX4_odds 8 (some .int) 2 := xMv_of (p1 := 1285) (p2 := 1283) (p3 := 97) (p4 := 1284) (by decide +kernel)
/-! NeitherBareModel.odds(II)I (39, None, None) -/
abbrev md_X4_odds : xMd := (cX4_odds, RX4, 8, some .int, 7)
def f_X4_odds_L20 (N : Nat) (u : xN) : Option (Int32 × xN) := some ((-1 : Int32), u)
set_option maxRecDepth 20000 in
theorem go_X4_odds_L20 (N : Nat) (u : xN) : xGm md_X4_odds rsM (f_X4_odds_L20 N u) 20 [] [] (xU u) := by
  unfold f_X4_odds_L20
  refine xm_blk0 (pc' := 21) (lv' := []) (st' := [.int (-1 : Int32)]) (u' := (xU u)) [(.iconst (-1), (0, 0, 0), -1, 0)] (by decide +kernel) rfl ?_
  exact xm_iret (pc := 21) (by decide +kernel) rfl rfl
def f_X4_odds_L30b (N : Nat) (rec30 : Int32 → Int32 → Int64 → Int64 → Int32 → xN → Option (Int32 × xN)) (v1 : Int32) (v2 : Int32) (v3 : Int64) (v5 : Int64) (v7 : Int32) (u : xN) : Option (Int32 × xN) := gdl [inb (1 : Int32) 1480] (Option.bind (f_X4_heldBy N v1 u) (fun r40 => Option.bind (f_X4_bits N ((u.1 40 (Int32.toNatClampNeg (1 : Int32))) &&& (r40 ^^^ (-1 : Int32)))) (fun r46 => if r46 ≤ v7 then Option.bind (f_X4_tellParts N v3 v5 u) (fun r75 => some (r75.1, r75.2)) else rec30 v1 v2 (v3 * (Int32.toInt64 v2)) (v5 * (12 : Int64)) (v7 + (1 : Int32)) u)))
set_option maxRecDepth 20000 in
theorem go_X4_odds_L30b (N : Nat) (rec30 : Int32 → Int32 → Int64 → Int64 → Int32 → xN → Option (Int32 × xN)) (h30 : ∀ (v1 : Int32) (v2 : Int32) (v3 : Int64) (v5 : Int64) (v7 : Int32) (u : xN), xGm md_X4_odds rsM (rec30 v1 v2 v3 v5 v7 u) 30 [(0, .ref 39), (1, .int v1), (2, .int v2), (3, .long v3), (5, .long v5), (7, .int v7)] [] (xU u)) (v1 : Int32) (v2 : Int32) (v3 : Int64) (v5 : Int64) (v7 : Int32) (u : xN) : xGm md_X4_odds rsM (f_X4_odds_L30b N rec30 v1 v2 v3 v5 v7 u) 30 [(0, .ref 39), (1, .int v1), (2, .int v2), (3, .long v3), (5, .long v5), (7, .int v7)] [] (xU u) := by
  unfold f_X4_odds_L30b
  refine xm_blk (bs := [inb (1 : Int32) 1480]) (pc' := 40) (lv' := [(0, .ref 39), (1, .int v1), (2, .int v2), (3, .long v3), (5, .long v5), (7, .int v7)]) (st' := [.int v1, .ref 39, .int (u.1 40 (Int32.toNatClampNeg (1 : Int32))), .int v7]) (u' := (xU u)) [(.iload 7, (0, 0, 0), 0, 0), (.aload_n 0, (0, 0, 0), 0, 0), (.getfield 7, (4, 0, 820), 0, 0), (.iconst 1, (0, 0, 0), 1, 0), (.iaload, (0, 0, 0), 0, 0), (.aload_n 0, (0, 0, 0), 0, 0), (.iload_n 1, (0, 0, 0), 0, 0)] (by decide +kernel) rfl ?_
  refine xm_Vi (pc := 40) (mz := md_X4_heldBy) (idx := 185) (p1 := 1145) (a := 39) (as := [.int v1]) (st := [.int (u.1 40 (Int32.toNatClampNeg (1 : Int32))), .int v7]) (ev_X4_heldBy N v1 u) mw_X4_heldBy (by decide +kernel) (by decide +kernel) (by decide) rfl rfl (by decide) rfl (Nat.le_of_ble_eq_true rfl) (fun r40 => ?_)
  refine xm_blk0 (pc' := 46) (lv' := [(0, .ref 39), (1, .int v1), (2, .int v2), (3, .long v3), (5, .long v5), (7, .int v7)]) (st' := [.int ((u.1 40 (Int32.toNatClampNeg (1 : Int32))) &&& (r40 ^^^ (-1 : Int32))), .int v7]) (u' := (xU u)) [(.iconst (-1), (0, 0, 0), -1, 0), (.ixor, (0, 0, 0), 0, 0), (.iand, (0, 0, 0), 0, 0)] (by decide +kernel) rfl ?_
  refine xm_Si (pc := 46) (mz := md_X4_bits) (idx := 215) (p1 := 1090) (as := [.int ((u.1 40 (Int32.toNatClampNeg (1 : Int32))) &&& (r40 ^^^ (-1 : Int32)))]) (st := [.int v7]) (ev_X4_bits N ((u.1 40 (Int32.toNatClampNeg (1 : Int32))) &&& (r40 ^^^ (-1 : Int32))) u) mw_X4_bits (by decide +kernel) (by decide +kernel) (by decide) rfl (Nat.le_of_ble_eq_true rfl) (fun r46 => ?_)
  refine xm_icmp_ge (pc := 49) (off := 22) (tgt := 71) (by decide +kernel) (by decide) ?_ ?_
  · refine xm_blk0 (pc' := 75) (lv' := [(0, .ref 39), (1, .int v1), (2, .int v2), (3, .long v3), (5, .long v5), (7, .int v7)]) (st' := [.long v5, .long v3, .ref 39]) (u' := (xU u)) [(.aload_n 0, (0, 0, 0), 0, 0), (.lload_n 3, (0, 0, 0), 0, 0), (.lload 5, (0, 0, 0), 0, 0)] (by decide +kernel) rfl ?_
    refine xm_Vm (pc := 75) (mz := md_X4_tellParts) (idx := 286) (p1 := 1287) (a := 39) (as := [.long v3, .long v5]) (st := []) (ev_X4_tellParts N v3 v5 u) mw_X4_tellParts (by decide +kernel) (by decide +kernel) (by decide) rfl rfl (by decide) rfl (Nat.le_of_ble_eq_true rfl) (fun r75 => ?_)
    exact xm_iret (pc := 78) (by decide +kernel) rfl rfl
  · refine xm_blk0 (pc' := 68) (lv' := [(0, .ref 39), (1, .int v1), (2, .int v2), (3, .long (v3 * (Int32.toInt64 v2))), (5, .long (v5 * (12 : Int64))), (7, .int (v7 + (1 : Int32)))]) (st' := []) (u' := (xU u)) [(.lload_n 3, (0, 0, 0), 0, 0), (.iload_n 2, (0, 0, 0), 0, 0), (.i2l, (0, 0, 0), 0, 0), (.lmul, (0, 0, 0), 0, 0), (.lstore_n 3, (0, 0, 0), 0, 0), (.lload 5, (0, 0, 0), 0, 0), (.ldc2_w 284, (0, 0, 1286), 0, 12), (.lmul, (0, 0, 0), 0, 0), (.lstore 5, (0, 0, 0), 0, 0), (.iinc 7 1, (0, 0, 0), 1, 0)] (by decide +kernel) rfl ?_
    refine xm_goto (pc := 68) (off := -38) (tgt := 30) (by decide +kernel) (by decide) ?_
    exact h30 v1 v2 (v3 * (Int32.toInt64 v2)) (v5 * (12 : Int64)) (v7 + (1 : Int32)) u
def f_X4_odds_L30 (N : Nat) : Nat → Int32 → Int32 → Int64 → Int64 → Int32 → xN → Option (Int32 × xN)
  | 0 => fun _ _ _ _ _ _ => none
  | n + 1 => fun v1 v2 v3 v5 v7 u => f_X4_odds_L30b N (f_X4_odds_L30 N n) v1 v2 v3 v5 v7 u
theorem go_X4_odds_L30 (N : Nat) : ∀ (n : Nat) (v1 : Int32) (v2 : Int32) (v3 : Int64) (v5 : Int64) (v7 : Int32) (u : xN), xGm md_X4_odds rsM (f_X4_odds_L30 N n v1 v2 v3 v5 v7 u) 30 [(0, .ref 39), (1, .int v1), (2, .int v2), (3, .long v3), (5, .long v5), (7, .int v7)] [] (xU u) := by
  intro n
  induction n with
  | zero => intro v1 v2 v3 v5 v7 u; exact xm_none
  | succ n ih => intro v1 v2 v3 v5 v7 u; exact go_X4_odds_L30b N _ ih v1 v2 v3 v5 v7 u
def f_X4_odds (N : Nat) (a1 : Int32) (a2 : Int32) (u : xN) : Option (Int32 × xN) := Option.bind (f_X4_isWay a1 u) (fun r2 => if r2 = (0 : Int32) then f_X4_odds_L20 N u else Option.bind (f_X4_in (Int32.toInt64 a2) (0 : Int64) (12 : Int64)) (fun r14 => if r14 = (0 : Int32) then f_X4_odds_L20 N u else f_X4_odds_L30 N N a1 a2 (1 : Int64) (1 : Int64) (0 : Int32) u))
set_option maxRecDepth 20000 in
theorem go_X4_odds (N : Nat) (a1 : Int32) (a2 : Int32) (u : xN) : xGm md_X4_odds rsM (f_X4_odds N a1 a2 u) 0 [(0, .ref 39), (1, .int a1), (2, .int a2)] [] (xU u) := by
  unfold f_X4_odds
  refine xm_blk0 (pc' := 2) (lv' := [(0, .ref 39), (1, .int a1), (2, .int a2)]) (st' := [.int a1, .ref 39]) (u' := (xU u)) [(.aload_n 0, (0, 0, 0), 0, 0), (.iload_n 1, (0, 0, 0), 0, 0)] (by decide +kernel) rfl ?_
  refine xm_Vi (pc := 2) (mz := md_X4_isWay) (idx := 229) (p1 := 1125) (a := 39) (as := [.int a1]) (st := []) (ev_X4_isWay a1 u) mw_X4_isWay (by decide +kernel) (by decide +kernel) (by decide) rfl rfl (by decide) rfl (Nat.le_of_ble_eq_true rfl) (fun r2 => ?_)
  refine xm_if_eq (pc := 5) (off := 15) (tgt := 20) (by decide +kernel) (by decide) ?_ ?_
  · refine xm_wk [] (lv' := []) rfl ?_
    exact go_X4_odds_L20 N u
  · refine xm_blk0 (pc' := 14) (lv' := [(0, .ref 39), (1, .int a1), (2, .int a2)]) (st' := [.long (12 : Int64), .long (0 : Int64), .long (Int32.toInt64 a2)]) (u' := (xU u)) [(.iload_n 2, (0, 0, 0), 0, 0), (.i2l, (0, 0, 0), 0, 0), (.lconst 0, (0, 0, 0), 0, 0), (.ldc2_w 284, (0, 0, 1286), 0, 12)] (by decide +kernel) rfl ?_
    refine xm_Si (pc := 14) (mz := md_X4_in) (idx := 72) (p1 := 905) (as := [.long (Int32.toInt64 a2), .long (0 : Int64), .long (12 : Int64)]) (st := []) (ev_X4_in (Int32.toInt64 a2) (0 : Int64) (12 : Int64) u) mw_X4_in (by decide +kernel) (by decide +kernel) (by decide) rfl (Nat.le_of_ble_eq_true rfl) (fun r14 => ?_)
    refine xm_if_ne (pc := 17) (off := 5) (tgt := 22) (by decide +kernel) (by decide) ?_ ?_
    · refine xm_blk0 (pc' := 30) (lv' := [(0, .ref 39), (1, .int a1), (2, .int a2), (3, .long (1 : Int64)), (5, .long (1 : Int64)), (7, .int (0 : Int32))]) (st' := []) (u' := (xU u)) [(.lconst 1, (0, 0, 0), 0, 1), (.lstore_n 3, (0, 0, 0), 0, 0), (.lconst 1, (0, 0, 0), 0, 1), (.lstore 5, (0, 0, 0), 0, 0), (.iconst 0, (0, 0, 0), 0, 0), (.istore 7, (0, 0, 0), 0, 0)] (by decide +kernel) rfl ?_
      exact go_X4_odds_L30 N N a1 a2 (1 : Int64) (1 : Int64) (0 : Int32) u
    · refine xm_wk [] (lv' := []) rfl ?_
      exact go_X4_odds_L20 N u
theorem ev_X4_odds (N : Nat) (a1 : Int32) (a2 : Int32) (u : xN) : ∀ r, f_X4_odds N a1 a2 u = some r → xEm md_X4_odds yX4_odds [.ref 39, .int a1, .int a2] (xU u) (some (.int r.1), xU r.2) := xm_met (res := rsM) (as := [.ref 39, .int a1, .int a2]) (go_X4_odds N a1 a2 u) (by decide) rfl (Nat.le_of_ble_eq_true rfl)
theorem mw_X4_luck : xMv yX4_luck cX4_luck 1 (some .int) 0 := xMv_of (p1 := 1294) (p2 := 1292) (p3 := 97) (p4 := 1293) (by decide +kernel)
/-! NeitherBareModel.luck()I (39,) -/
abbrev md_X4_luck : xMd := (cX4_luck, RX4, 1, some .int, 9)
def f_X4_luck_L26 (N : Nat) (t0 : Int32) (u : xN) : Option (Int32 × xN) := some (t0, u)
set_option maxRecDepth 20000 in
theorem go_X4_luck_L26 (N : Nat) (t0 : Int32) (u : xN) : xGm md_X4_luck rsM (f_X4_luck_L26 N t0 u) 26 [] [.int t0] (xU u) := by
  unfold f_X4_luck_L26
  exact xm_iret (pc := 26) (by decide +kernel) rfl rfl
def f_X4_luck (N : Nat) (u : xN) : Option (Int32 × xN) := if (u.1 39 1) = (0 : Int32) then f_X4_luck_L26 N (-4 : Int32) u else Option.bind (f_X4_goodMany N u) (fun r14 => Option.bind (f_X4_ways u) (fun r19 => Option.bind (f_X4_tellParts N (Int32.toInt64 r14) (Int32.toInt64 r19) u) (fun r23 => f_X4_luck_L26 N r23.1 r23.2)))
set_option maxRecDepth 20000 in
theorem go_X4_luck (N : Nat) (u : xN) : xGm md_X4_luck rsM (f_X4_luck N u) 0 [(0, .ref 39)] [] (xU u) := by
  unfold f_X4_luck
  refine xm_blk0 (pc' := 4) (lv' := [(0, .ref 39)]) (st' := [.int (u.1 39 1)]) (u' := (xU u)) [(.aload_n 0, (0, 0, 0), 0, 0), (.getfield 147, (4, 1, 821), 0, 0)] (by decide +kernel) rfl ?_
  refine xm_if_ne (pc := 4) (off := 8) (tgt := 12) (by decide +kernel) (by decide) ?_ ?_
  · refine xm_blk0 (pc' := 14) (lv' := [(0, .ref 39)]) (st' := [.ref 39, .ref 39]) (u' := (xU u)) [(.aload_n 0, (0, 0, 0), 0, 0), (.aload_n 0, (0, 0, 0), 0, 0)] (by decide +kernel) rfl ?_
    refine xm_Vi (pc := 14) (mz := md_X4_goodMany) (idx := 238) (p1 := 1157) (a := 39) (as := []) (st := [.ref 39]) (ev_X4_goodMany N u) mw_X4_goodMany (by decide +kernel) (by decide +kernel) (by decide) rfl rfl (by decide) rfl (Nat.le_of_ble_eq_true rfl) (fun r14 => ?_)
    refine xm_blk0 (pc' := 19) (lv' := [(0, .ref 39)]) (st' := [.ref 39, .long (Int32.toInt64 r14), .ref 39]) (u' := (xU u)) [(.i2l, (0, 0, 0), 0, 0), (.aload_n 0, (0, 0, 0), 0, 0)] (by decide +kernel) rfl ?_
    refine xm_Vi (pc := 19) (mz := md_X4_ways) (idx := 150) (p1 := 1020) (a := 39) (as := []) (st := [.long (Int32.toInt64 r14), .ref 39]) (ev_X4_ways u) mw_X4_ways (by decide +kernel) (by decide +kernel) (by decide) rfl rfl (by decide) rfl (Nat.le_of_ble_eq_true rfl) (fun r19 => ?_)
    refine xm_blk0 (pc' := 23) (lv' := [(0, .ref 39)]) (st' := [.long (Int32.toInt64 r19), .long (Int32.toInt64 r14), .ref 39]) (u' := (xU u)) [(.i2l, (0, 0, 0), 0, 0)] (by decide +kernel) rfl ?_
    refine xm_Vm (pc := 23) (mz := md_X4_tellParts) (idx := 286) (p1 := 1287) (a := 39) (as := [.long (Int32.toInt64 r14), .long (Int32.toInt64 r19)]) (st := []) (ev_X4_tellParts N (Int32.toInt64 r14) (Int32.toInt64 r19) u) mw_X4_tellParts (by decide +kernel) (by decide +kernel) (by decide) rfl rfl (by decide) rfl (Nat.le_of_ble_eq_true rfl) (fun r23 => ?_)
    refine xm_wk [] (lv' := []) rfl ?_
    exact go_X4_luck_L26 N r23.1 r23.2
  · refine xm_blk0 (pc' := 9) (lv' := [(0, .ref 39)]) (st' := [.int (-4 : Int32)]) (u' := (xU u)) [(.bipush (-4), (0, 0, 0), -4, 0)] (by decide +kernel) rfl ?_
    refine xm_goto (pc := 9) (off := 17) (tgt := 26) (by decide +kernel) (by decide) ?_
    refine xm_wk [] (lv' := []) rfl ?_
    exact go_X4_luck_L26 N (-4 : Int32) u
theorem ev_X4_luck (N : Nat) (u : xN) : ∀ r, f_X4_luck N u = some r → xEm md_X4_luck yX4_luck [.ref 39] (xU u) (some (.int r.1), xU r.2) := xm_met (res := rsM) (as := [.ref 39]) (go_X4_luck N u) (by decide) rfl (Nat.le_of_ble_eq_true rfl)
theorem mw_X4_lots : xMv yX4_lots cX4_lots 7 (some .int) 2 := xMv_of (p1 := 1298) (p2 := 1296) (p3 := 97) (p4 := 1297) (by decide +kernel)
/-! NeitherBareModel.lots(II)I (39, None, None) -/
abbrev md_X4_lots : xMd := (cX4_lots, RX4, 7, some .int, 8)
def f_X4_lots_L24 (N : Nat) (u : xN) : Option Int32 := some (-1 : Int32)
set_option maxRecDepth 20000 in
theorem go_X4_lots_L24 (N : Nat) (u : xN) : xGm md_X4_lots (rsI (xU u)) (f_X4_lots_L24 N u) 24 [] [] (xU u) := by
  unfold f_X4_lots_L24
  refine xm_blk0 (pc' := 25) (lv' := []) (st' := [.int (-1 : Int32)]) (u' := (xU u)) [(.iconst (-1), (0, 0, 0), -1, 0)] (by decide +kernel) rfl ?_
  exact xm_iret (pc := 25) (by decide +kernel) rfl rfl
def f_X4_lots_L87 (N : Nat) (u : xN) (rec45 : Int32 → Int64 → Int32 → Int32 → Option Int32) (v1 : Int32) (v3 : Int64) (v6 : Int32) (t0 : Int32) (t1 : Int32) : Option Int32 := rec45 v1 v3 (t1 + t0) (v6 + (1 : Int32))
set_option maxRecDepth 20000 in
theorem go_X4_lots_L87 (N : Nat) (u : xN) (rec45 : Int32 → Int64 → Int32 → Int32 → Option Int32) (h45 : ∀ (v1 : Int32) (v3 : Int64) (v5 : Int32) (v6 : Int32), xGm md_X4_lots (rsI (xU u)) (rec45 v1 v3 v5 v6) 45 [(0, .ref 39), (1, .int v1), (3, .long v3), (5, .int v5), (6, .int v6)] [] (xU u)) (v1 : Int32) (v3 : Int64) (v6 : Int32) (t0 : Int32) (t1 : Int32) : xGm md_X4_lots (rsI (xU u)) (f_X4_lots_L87 N u rec45 v1 v3 v6 t0 t1) 87 [(0, .ref 39), (1, .int v1), (3, .long v3), (6, .int v6)] [.int t0, .int t1] (xU u) := by
  unfold f_X4_lots_L87
  refine xm_blk0 (pc' := 93) (lv' := [(0, .ref 39), (1, .int v1), (3, .long v3), (5, .int (t1 + t0)), (6, .int (v6 + (1 : Int32)))]) (st' := []) (u' := (xU u)) [(.iadd, (0, 0, 0), 0, 0), (.istore 5, (0, 0, 0), 0, 0), (.iinc 6 1, (0, 0, 0), 1, 0)] (by decide +kernel) rfl ?_
  refine xm_goto (pc := 93) (off := -48) (tgt := 45) (by decide +kernel) (by decide) ?_
  exact h45 v1 v3 (t1 + t0) (v6 + (1 : Int32))
def f_X4_lots_L45b (N : Nat) (u : xN) (rec45 : Int32 → Int64 → Int32 → Int32 → Option Int32) (v1 : Int32) (v3 : Int64) (v5 : Int32) (v6 : Int32) : Option Int32 := if v1 ≤ v6 then some v5 else gdl [nzl (2147483647 : Int64), nzl (16 : Int64)] (Option.bind (f_X4_ways u) (fun r70 => gdl [nzl (Int32.toInt64 r70)] (Option.bind (f_X4_isGood N (Int64.toInt32 ((((v3 * (48271 : Int64)) - (v3 * (48271 : Int64)) / (2147483647 : Int64) * (2147483647 : Int64)) / (16 : Int64)) - (((v3 * (48271 : Int64)) - (v3 * (48271 : Int64)) / (2147483647 : Int64) * (2147483647 : Int64)) / (16 : Int64)) / (Int32.toInt64 r70) * (Int32.toInt64 r70))) u) (fun r76 => if r76 = (0 : Int32) then f_X4_lots_L87 N u rec45 v1 ((v3 * (48271 : Int64)) - (v3 * (48271 : Int64)) / (2147483647 : Int64) * (2147483647 : Int64)) v6 (0 : Int32) v5 else f_X4_lots_L87 N u rec45 v1 ((v3 * (48271 : Int64)) - (v3 * (48271 : Int64)) / (2147483647 : Int64) * (2147483647 : Int64)) v6 (1 : Int32) v5))))
set_option maxRecDepth 20000 in
theorem go_X4_lots_L45b (N : Nat) (u : xN) (rec45 : Int32 → Int64 → Int32 → Int32 → Option Int32) (h45 : ∀ (v1 : Int32) (v3 : Int64) (v5 : Int32) (v6 : Int32), xGm md_X4_lots (rsI (xU u)) (rec45 v1 v3 v5 v6) 45 [(0, .ref 39), (1, .int v1), (3, .long v3), (5, .int v5), (6, .int v6)] [] (xU u)) (v1 : Int32) (v3 : Int64) (v5 : Int32) (v6 : Int32) : xGm md_X4_lots (rsI (xU u)) (f_X4_lots_L45b N u rec45 v1 v3 v5 v6) 45 [(0, .ref 39), (1, .int v1), (3, .long v3), (5, .int v5), (6, .int v6)] [] (xU u) := by
  unfold f_X4_lots_L45b
  refine xm_blk0 (pc' := 48) (lv' := [(0, .ref 39), (1, .int v1), (3, .long v3), (5, .int v5), (6, .int v6)]) (st' := [.int v1, .int v6]) (u' := (xU u)) [(.iload 6, (0, 0, 0), 0, 0), (.iload_n 1, (0, 0, 0), 0, 0)] (by decide +kernel) rfl ?_
  refine xm_icmp_ge (pc := 48) (off := 48) (tgt := 96) (by decide +kernel) (by decide) ?_ ?_
  · refine xm_blk0 (pc' := 98) (lv' := [(0, .ref 39), (1, .int v1), (3, .long v3), (5, .int v5), (6, .int v6)]) (st' := [.int v5]) (u' := (xU u)) [(.iload 5, (0, 0, 0), 0, 0)] (by decide +kernel) rfl ?_
    exact xm_iret (pc := 98) (by decide +kernel) rfl rfl
  · refine xm_blk (bs := [nzl (2147483647 : Int64), nzl (16 : Int64)]) (pc' := 70) (lv' := [(0, .ref 39), (1, .int v1), (3, .long ((v3 * (48271 : Int64)) - (v3 * (48271 : Int64)) / (2147483647 : Int64) * (2147483647 : Int64))), (5, .int v5), (6, .int v6)]) (st' := [.ref 39, .long (((v3 * (48271 : Int64)) - (v3 * (48271 : Int64)) / (2147483647 : Int64) * (2147483647 : Int64)) / (16 : Int64)), .ref 39, .int v5]) (u' := (xU u)) [(.lload_n 3, (0, 0, 0), 0, 0), (.ldc2_w 294, (0, 0, 1301), 0, 48271), (.lmul, (0, 0, 0), 0, 0), (.ldc2_w 296, (0, 0, 1302), 0, 2147483647), (.lrem, (0, 0, 0), 0, 0), (.lstore_n 3, (0, 0, 0), 0, 0), (.iload 5, (0, 0, 0), 0, 0), (.aload_n 0, (0, 0, 0), 0, 0), (.lload_n 3, (0, 0, 0), 0, 0), (.ldc2_w 298, (0, 0, 1303), 0, 16), (.ldiv, (0, 0, 0), 0, 0), (.aload_n 0, (0, 0, 0), 0, 0)] (by decide +kernel) rfl ?_
    refine xm_Vi (pc := 70) (mz := md_X4_ways) (idx := 150) (p1 := 1020) (a := 39) (as := []) (st := [.long (((v3 * (48271 : Int64)) - (v3 * (48271 : Int64)) / (2147483647 : Int64) * (2147483647 : Int64)) / (16 : Int64)), .ref 39, .int v5]) (ev_X4_ways u) mw_X4_ways (by decide +kernel) (by decide +kernel) (by decide) rfl rfl (by decide) rfl (Nat.le_of_ble_eq_true rfl) (fun r70 => ?_)
    refine xm_blk (bs := [nzl (Int32.toInt64 r70)]) (pc' := 76) (lv' := [(0, .ref 39), (1, .int v1), (3, .long ((v3 * (48271 : Int64)) - (v3 * (48271 : Int64)) / (2147483647 : Int64) * (2147483647 : Int64))), (5, .int v5), (6, .int v6)]) (st' := [.int (Int64.toInt32 ((((v3 * (48271 : Int64)) - (v3 * (48271 : Int64)) / (2147483647 : Int64) * (2147483647 : Int64)) / (16 : Int64)) - (((v3 * (48271 : Int64)) - (v3 * (48271 : Int64)) / (2147483647 : Int64) * (2147483647 : Int64)) / (16 : Int64)) / (Int32.toInt64 r70) * (Int32.toInt64 r70))), .ref 39, .int v5]) (u' := (xU u)) [(.i2l, (0, 0, 0), 0, 0), (.lrem, (0, 0, 0), 0, 0), (.l2i, (0, 0, 0), 0, 0)] (by decide +kernel) rfl ?_
    refine xm_Vi (pc := 76) (mz := md_X4_isGood) (idx := 235) (p1 := 1141) (a := 39) (as := [.int (Int64.toInt32 ((((v3 * (48271 : Int64)) - (v3 * (48271 : Int64)) / (2147483647 : Int64) * (2147483647 : Int64)) / (16 : Int64)) - (((v3 * (48271 : Int64)) - (v3 * (48271 : Int64)) / (2147483647 : Int64) * (2147483647 : Int64)) / (16 : Int64)) / (Int32.toInt64 r70) * (Int32.toInt64 r70)))]) (st := [.int v5]) (ev_X4_isGood N (Int64.toInt32 ((((v3 * (48271 : Int64)) - (v3 * (48271 : Int64)) / (2147483647 : Int64) * (2147483647 : Int64)) / (16 : Int64)) - (((v3 * (48271 : Int64)) - (v3 * (48271 : Int64)) / (2147483647 : Int64) * (2147483647 : Int64)) / (16 : Int64)) / (Int32.toInt64 r70) * (Int32.toInt64 r70))) u) mw_X4_isGood (by decide +kernel) (by decide +kernel) (by decide) rfl rfl (by decide) rfl (Nat.le_of_ble_eq_true rfl) (fun r76 => ?_)
    refine xm_if_eq (pc := 79) (off := 7) (tgt := 86) (by decide +kernel) (by decide) ?_ ?_
    · refine xm_blk0 (pc' := 87) (lv' := [(0, .ref 39), (1, .int v1), (3, .long ((v3 * (48271 : Int64)) - (v3 * (48271 : Int64)) / (2147483647 : Int64) * (2147483647 : Int64))), (5, .int v5), (6, .int v6)]) (st' := [.int (0 : Int32), .int v5]) (u' := (xU u)) [(.iconst 0, (0, 0, 0), 0, 0)] (by decide +kernel) rfl ?_
      refine xm_wk [0, 1, 2, 4] (lv' := [(0, .ref 39), (1, .int v1), (3, .long ((v3 * (48271 : Int64)) - (v3 * (48271 : Int64)) / (2147483647 : Int64) * (2147483647 : Int64))), (6, .int v6)]) rfl ?_
      exact go_X4_lots_L87 N u rec45 h45 v1 ((v3 * (48271 : Int64)) - (v3 * (48271 : Int64)) / (2147483647 : Int64) * (2147483647 : Int64)) v6 (0 : Int32) v5
    · refine xm_blk0 (pc' := 83) (lv' := [(0, .ref 39), (1, .int v1), (3, .long ((v3 * (48271 : Int64)) - (v3 * (48271 : Int64)) / (2147483647 : Int64) * (2147483647 : Int64))), (5, .int v5), (6, .int v6)]) (st' := [.int (1 : Int32), .int v5]) (u' := (xU u)) [(.iconst 1, (0, 0, 0), 1, 0)] (by decide +kernel) rfl ?_
      refine xm_goto (pc := 83) (off := 4) (tgt := 87) (by decide +kernel) (by decide) ?_
      refine xm_wk [0, 1, 2, 4] (lv' := [(0, .ref 39), (1, .int v1), (3, .long ((v3 * (48271 : Int64)) - (v3 * (48271 : Int64)) / (2147483647 : Int64) * (2147483647 : Int64))), (6, .int v6)]) rfl ?_
      exact go_X4_lots_L87 N u rec45 h45 v1 ((v3 * (48271 : Int64)) - (v3 * (48271 : Int64)) / (2147483647 : Int64) * (2147483647 : Int64)) v6 (1 : Int32) v5
def f_X4_lots_L45 (N : Nat) (u : xN) : Nat → Int32 → Int64 → Int32 → Int32 → Option Int32
  | 0 => fun _ _ _ _ => none
  | n + 1 => fun v1 v3 v5 v6 => f_X4_lots_L45b N u (f_X4_lots_L45 N u n) v1 v3 v5 v6
theorem go_X4_lots_L45 (N : Nat) (u : xN) : ∀ (n : Nat) (v1 : Int32) (v3 : Int64) (v5 : Int32) (v6 : Int32), xGm md_X4_lots (rsI (xU u)) (f_X4_lots_L45 N u n v1 v3 v5 v6) 45 [(0, .ref 39), (1, .int v1), (3, .long v3), (5, .int v5), (6, .int v6)] [] (xU u) := by
  intro n
  induction n with
  | zero => intro v1 v3 v5 v6; exact xm_none
  | succ n ih => intro v1 v3 v5 v6; exact go_X4_lots_L45b N u _ ih v1 v3 v5 v6
def f_X4_lots (N : Nat) (a1 : Int32) (a2 : Int32) (u : xN) : Option Int32 := Option.bind (f_X4_in (Int32.toInt64 a1) (1 : Int64) (40 : Int64)) (fun r6 => if r6 = (0 : Int32) then f_X4_lots_L24 N u else Option.bind (f_X4_in (Int32.toInt64 a2) (1 : Int64) (2147483646 : Int64)) (fun r18 => if r18 = (0 : Int32) then f_X4_lots_L24 N u else if (u.1 39 1) = (0 : Int32) then some (-4 : Int32) else f_X4_lots_L45 N u N a1 (Int32.toInt64 a2) (0 : Int32) (0 : Int32)))
set_option maxRecDepth 20000 in
theorem go_X4_lots (N : Nat) (a1 : Int32) (a2 : Int32) (u : xN) : xGm md_X4_lots (rsI (xU u)) (f_X4_lots N a1 a2 u) 0 [(0, .ref 39), (1, .int a1), (2, .int a2)] [] (xU u) := by
  unfold f_X4_lots
  refine xm_blk0 (pc' := 6) (lv' := [(0, .ref 39), (1, .int a1), (2, .int a2)]) (st' := [.long (40 : Int64), .long (1 : Int64), .long (Int32.toInt64 a1)]) (u' := (xU u)) [(.iload_n 1, (0, 0, 0), 0, 0), (.i2l, (0, 0, 0), 0, 0), (.lconst 1, (0, 0, 0), 0, 1), (.ldc2_w 290, (0, 0, 1299), 0, 40)] (by decide +kernel) rfl ?_
  refine xm_Si (pc := 6) (mz := md_X4_in) (idx := 72) (p1 := 905) (as := [.long (Int32.toInt64 a1), .long (1 : Int64), .long (40 : Int64)]) (st := []) (ev_X4_in (Int32.toInt64 a1) (1 : Int64) (40 : Int64) u) mw_X4_in (by decide +kernel) (by decide +kernel) (by decide) rfl (Nat.le_of_ble_eq_true rfl) (fun r6 => ?_)
  refine xm_if_eq (pc := 9) (off := 15) (tgt := 24) (by decide +kernel) (by decide) ?_ ?_
  · refine xm_wk [] (lv' := []) rfl ?_
    exact go_X4_lots_L24 N u
  · refine xm_blk0 (pc' := 18) (lv' := [(0, .ref 39), (1, .int a1), (2, .int a2)]) (st' := [.long (2147483646 : Int64), .long (1 : Int64), .long (Int32.toInt64 a2)]) (u' := (xU u)) [(.iload_n 2, (0, 0, 0), 0, 0), (.i2l, (0, 0, 0), 0, 0), (.lconst 1, (0, 0, 0), 0, 1), (.ldc2_w 292, (0, 0, 1300), 0, 2147483646)] (by decide +kernel) rfl ?_
    refine xm_Si (pc := 18) (mz := md_X4_in) (idx := 72) (p1 := 905) (as := [.long (Int32.toInt64 a2), .long (1 : Int64), .long (2147483646 : Int64)]) (st := []) (ev_X4_in (Int32.toInt64 a2) (1 : Int64) (2147483646 : Int64) u) mw_X4_in (by decide +kernel) (by decide +kernel) (by decide) rfl (Nat.le_of_ble_eq_true rfl) (fun r18 => ?_)
    refine xm_if_ne (pc := 21) (off := 5) (tgt := 26) (by decide +kernel) (by decide) ?_ ?_
    · refine xm_blk0 (pc' := 30) (lv' := [(0, .ref 39), (1, .int a1), (2, .int a2)]) (st' := [.int (u.1 39 1)]) (u' := (xU u)) [(.aload_n 0, (0, 0, 0), 0, 0), (.getfield 147, (4, 1, 821), 0, 0)] (by decide +kernel) rfl ?_
      refine xm_if_ne (pc := 30) (off := 6) (tgt := 36) (by decide +kernel) (by decide) ?_ ?_
      · refine xm_blk0 (pc' := 45) (lv' := [(0, .ref 39), (1, .int a1), (2, .int a2), (3, .long (Int32.toInt64 a2)), (5, .int (0 : Int32)), (6, .int (0 : Int32))]) (st' := []) (u' := (xU u)) [(.iload_n 2, (0, 0, 0), 0, 0), (.i2l, (0, 0, 0), 0, 0), (.lstore_n 3, (0, 0, 0), 0, 0), (.iconst 0, (0, 0, 0), 0, 0), (.istore 5, (0, 0, 0), 0, 0), (.iconst 0, (0, 0, 0), 0, 0), (.istore 6, (0, 0, 0), 0, 0)] (by decide +kernel) rfl ?_
        refine xm_wk [0, 1, 3, 4, 5] (lv' := [(0, .ref 39), (1, .int a1), (3, .long (Int32.toInt64 a2)), (5, .int (0 : Int32)), (6, .int (0 : Int32))]) rfl ?_
        exact go_X4_lots_L45 N u N a1 (Int32.toInt64 a2) (0 : Int32) (0 : Int32)
      · refine xm_blk0 (pc' := 35) (lv' := [(0, .ref 39), (1, .int a1), (2, .int a2)]) (st' := [.int (-4 : Int32)]) (u' := (xU u)) [(.bipush (-4), (0, 0, 0), -4, 0)] (by decide +kernel) rfl ?_
        exact xm_iret (pc := 35) (by decide +kernel) rfl rfl
    · refine xm_wk [] (lv' := []) rfl ?_
      exact go_X4_lots_L24 N u
theorem ev_X4_lots (N : Nat) (a1 : Int32) (a2 : Int32) (u : xN) : ∀ r, f_X4_lots N a1 a2 u = some r → xEm md_X4_lots yX4_lots [.ref 39, .int a1, .int a2] (xU u) (some (.int r), (xU u)) := xm_met (res := (rsI (xU u))) (as := [.ref 39, .int a1, .int a2]) (go_X4_lots N a1 a2 u) (by decide) rfl (Nat.le_of_ble_eq_true rfl)
theorem mw_X4_asked : xMv yX4_asked cX4_asked 1 (some .int) 0 := xMv_of (p1 := 1307) (p2 := 1305) (p3 := 97) (p4 := 1306) (by decide +kernel)
/-! NeitherBareModel.asked()I (39,) -/
abbrev md_X4_asked : xMd := (cX4_asked, RX4, 1, some .int, 1)
def f_X4_asked (u : xN) : Option Int32 := some (u.1 39 11)
set_option maxRecDepth 20000 in
theorem go_X4_asked (u : xN) : xGm md_X4_asked (rsI (xU u)) (f_X4_asked u) 0 [(0, .ref 39)] [] (xU u) := by
  unfold f_X4_asked
  refine xm_blk0 (pc' := 4) (lv' := [(0, .ref 39)]) (st' := [.int (u.1 39 11)]) (u' := (xU u)) [(.aload_n 0, (0, 0, 0), 0, 0), (.getfield 67, (4, 11, 831), 0, 0)] (by decide +kernel) rfl ?_
  exact xm_iret (pc := 4) (by decide +kernel) rfl rfl
theorem ev_X4_asked (u : xN) : ∀ r, f_X4_asked u = some r → xEm md_X4_asked yX4_asked [.ref 39] (xU u) (some (.int r), (xU u)) := xm_met (res := (rsI (xU u))) (as := [.ref 39]) (go_X4_asked u) (by decide) rfl (Nat.le_of_ble_eq_true rfl)
theorem mw_X4_upper : xMv yX4_upper cX4_upper 1 (some .long) 0 := xMv_of (p1 := 1311) (p2 := 1309) (p3 := 97) (p4 := 1310) (by decide +kernel)
/-! NeitherBareModel.upper()J (39,) -/
abbrev md_X4_upper : xMd := (cX4_upper, RX4, 1, some .long, 1)
def f_X4_upper (u : xN) : Option Int64 := some (u.2 39 12)
set_option maxRecDepth 20000 in
theorem go_X4_upper (u : xN) : xGm md_X4_upper (rsL (xU u)) (f_X4_upper u) 0 [(0, .ref 39)] [] (xU u) := by
  unfold f_X4_upper
  refine xm_blk0 (pc' := 4) (lv' := [(0, .ref 39)]) (st' := [.long (u.2 39 12)]) (u' := (xU u)) [(.aload_n 0, (0, 0, 0), 0, 0), (.getfield 281, (4, 12, 832), 0, 0)] (by decide +kernel) rfl ?_
  exact xm_lret (pc := 4) (by decide +kernel) rfl rfl
theorem ev_X4_upper (u : xN) : ∀ r, f_X4_upper u = some r → xEm md_X4_upper yX4_upper [.ref 39] (xU u) (some (.long r), (xU u)) := xm_met (res := (rsL (xU u))) (as := [.ref 39]) (go_X4_upper u) (by decide) rfl (Nat.le_of_ble_eq_true rfl)
theorem mw_X4_lower : xMv yX4_lower cX4_lower 1 (some .long) 0 := xMv_of (p1 := 1315) (p2 := 1313) (p3 := 97) (p4 := 1314) (by decide +kernel)
/-! NeitherBareModel.lower()J (39,) -/
abbrev md_X4_lower : xMd := (cX4_lower, RX4, 1, some .long, 1)
def f_X4_lower (u : xN) : Option Int64 := some (u.2 39 13)
set_option maxRecDepth 20000 in
theorem go_X4_lower (u : xN) : xGm md_X4_lower (rsL (xU u)) (f_X4_lower u) 0 [(0, .ref 39)] [] (xU u) := by
  unfold f_X4_lower
  refine xm_blk0 (pc' := 4) (lv' := [(0, .ref 39)]) (st' := [.long (u.2 39 13)]) (u' := (xU u)) [(.aload_n 0, (0, 0, 0), 0, 0), (.getfield 37, (4, 13, 833), 0, 0)] (by decide +kernel) rfl ?_
  exact xm_lret (pc := 4) (by decide +kernel) rfl rfl
theorem ev_X4_lower (u : xN) : ∀ r, f_X4_lower u = some r → xEm md_X4_lower yX4_lower [.ref 39] (xU u) (some (.long r), (xU u)) := xm_met (res := (rsL (xU u))) (as := [.ref 39]) (go_X4_lower u) (by decide) rfl (Nat.le_of_ble_eq_true rfl)
