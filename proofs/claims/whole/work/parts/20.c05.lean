theorem mw_X3_smallerSet : xMs yX3_smallerSet cX3_smallerSet 3 (some .int) 2 := xMs_of (p1 := 639) (p2 := 638) (p3 := 92) (by decide +kernel)
/-! NeitherBare.smallerSet(II)I  -/
abbrev md_X3_smallerSet : xMd := (cX3_smallerSet, RX3, 3, some .int, 2)
def f_X3_smallerSet_L25 (t0 : Int32) : Option Int32 := some t0
set_option maxRecDepth 20000 in
theorem go_X3_smallerSet_L25 (u : xN) (t0 : Int32) : xGm md_X3_smallerSet (rsI (xU u)) (f_X3_smallerSet_L25 t0) 25 [] [.int t0] (xU u) := by
  unfold f_X3_smallerSet_L25
  exact xm_iret (pc := 25) (by decide +kernel) rfl rfl
def f_X3_smallerSet (a0 : Int32) (a1 : Int32) : Option Int32 := Option.bind (f_J6_bitCount_0f7a4 a0) (fun r1 => Option.bind (f_J6_bitCount_0f7a4 a1) (fun r5 => Option.bind (f_J6_compare_7cf53 r1 r5) (fun r8 => if r8 = (0 : Int32) then some (if a1 < a0 then a1 else a0) else if (0 : Int32) ≤ r8 then f_X3_smallerSet_L25 a1 else f_X3_smallerSet_L25 a0)))
set_option maxRecDepth 20000 in
theorem go_X3_smallerSet (a0 : Int32) (a1 : Int32) (u : xN) : xGm md_X3_smallerSet (rsI (xU u)) (f_X3_smallerSet a0 a1) 0 [(0, .int a0), (1, .int a1)] [] (xU u) := by
  unfold f_X3_smallerSet
  refine xm_blk0 (pc' := 1) (lv' := [(0, .int a0), (1, .int a1)]) (st' := [.int a0]) (u' := (xU u)) [(.iload_n 0, (0, 0, 0), 0, 0)] (by decide +kernel) rfl ?_
  refine xm_Si (pc := 1) (mz := md_J6_bitCount_0f7a4) (idx := 186) (p1 := 509) (as := [.int a0]) (st := []) (ev_J6_bitCount_0f7a4 a0 u) mw_J6_bitCount_0f7a4 (by decide +kernel) (by decide +kernel) (by decide) rfl (Nat.le_of_ble_eq_true rfl) (fun r1 => ?_)
  refine xm_blk0 (pc' := 5) (lv' := [(0, .int a0), (1, .int a1)]) (st' := [.int a1, .int r1]) (u' := (xU u)) [(.iload_n 1, (0, 0, 0), 0, 0)] (by decide +kernel) rfl ?_
  refine xm_Si (pc := 5) (mz := md_J6_bitCount_0f7a4) (idx := 186) (p1 := 509) (as := [.int a1]) (st := [.int r1]) (ev_J6_bitCount_0f7a4 a1 u) mw_J6_bitCount_0f7a4 (by decide +kernel) (by decide +kernel) (by decide) rfl (Nat.le_of_ble_eq_true rfl) (fun r5 => ?_)
  refine xm_Si (pc := 8) (mz := md_J6_compare_7cf53) (idx := 340) (p1 := 640) (as := [.int r1, .int r5]) (st := []) (ev_J6_compare_7cf53 r1 r5 u) mw_J6_compare_7cf53 (by decide +kernel) (by decide +kernel) (by decide) rfl (Nat.le_of_ble_eq_true rfl) (fun r8 => ?_)
  refine xm_blk0 (pc' := 13) (lv' := [(0, .int a0), (1, .int a1), (2, .int r8)]) (st' := [.int r8]) (u' := (xU u)) [(.istore_n 2, (0, 0, 0), 0, 0), (.iload_n 2, (0, 0, 0), 0, 0)] (by decide +kernel) rfl ?_
  refine xm_if_eq (pc := 13) (off := 13) (tgt := 26) (by decide +kernel) (by decide) ?_ ?_
  · refine xm_blk0 (pc' := 28) (lv' := [(0, .int a0), (1, .int a1), (2, .int r8)]) (st' := [.int a1, .int a0]) (u' := (xU u)) [(.iload_n 0, (0, 0, 0), 0, 0), (.iload_n 1, (0, 0, 0), 0, 0)] (by decide +kernel) rfl ?_
    refine xm_mmin (pc := 28) (idx := 343) (p1 := 643) (by decide +kernel) (by decide +kernel) (by decide) (Nat.le_of_ble_eq_true rfl) ?_
    exact xm_iret (pc := 31) (by decide +kernel) rfl rfl
  · refine xm_blk0 (pc' := 17) (lv' := [(0, .int a0), (1, .int a1), (2, .int r8)]) (st' := [.int r8]) (u' := (xU u)) [(.iload_n 2, (0, 0, 0), 0, 0)] (by decide +kernel) rfl ?_
    refine xm_if_ge (pc := 17) (off := 7) (tgt := 24) (by decide +kernel) (by decide) ?_ ?_
    · refine xm_blk0 (pc' := 25) (lv' := [(0, .int a0), (1, .int a1), (2, .int r8)]) (st' := [.int a1]) (u' := (xU u)) [(.iload_n 1, (0, 0, 0), 0, 0)] (by decide +kernel) rfl ?_
      refine xm_wk [] (lv' := []) rfl ?_
      exact go_X3_smallerSet_L25 u a1
    · refine xm_blk0 (pc' := 21) (lv' := [(0, .int a0), (1, .int a1), (2, .int r8)]) (st' := [.int a0]) (u' := (xU u)) [(.iload_n 0, (0, 0, 0), 0, 0)] (by decide +kernel) rfl ?_
      refine xm_goto (pc := 21) (off := 4) (tgt := 25) (by decide +kernel) (by decide) ?_
      refine xm_wk [] (lv' := []) rfl ?_
      exact go_X3_smallerSet_L25 u a0
theorem ev_X3_smallerSet (a0 : Int32) (a1 : Int32) (u : xN) : ∀ r, f_X3_smallerSet a0 a1 = some r → xEm md_X3_smallerSet yX3_smallerSet [.int a0, .int a1] (xU u) (some (.int r), (xU u)) := xm_met (res := (rsI (xU u))) (as := [.int a0, .int a1]) (go_X3_smallerSet a0 a1 u) (by decide) rfl (Nat.le_of_ble_eq_true rfl)
theorem mw_X3_relent : xMv yX3_relent cX3_relent 3 (some .int) 0 := xMv_of (p1 := 636) (p2 := 634) (p3 := 92) (p4 := 635) (by decide +kernel)
/-! NeitherBare.relent()I (0,) -/
abbrev md_X3_relent : xMd := (cX3_relent, RX3, 3, some .int, 7)
def f_X3_relent_L34b (N : Nat) (rec34 : Int32 → Int32 → xN → Option (Int32 × xN)) (v1 : Int32) (v2 : Int32) (u : xN) : Option (Int32 × xN) := Option.bind (f_X0_ways_7 u) (fun r39 => if r39 ≤ v2 then Option.bind (f_J6_bitCount_0f7a4 v1) (fun r78 => some (r78, mI u 0 10 v1)) else gdl [inb v2 64] (Option.bind (f_X3_smallerSet v1 ((u.1 19 1) &&& ((u.1 36 (Int32.toNatClampNeg v2)) ^^^ (-1 : Int32)))) (fun r62 => rec34 r62 (v2 + (1 : Int32)) u)))
set_option maxRecDepth 20000 in
theorem go_X3_relent_L34b (N : Nat) (rec34 : Int32 → Int32 → xN → Option (Int32 × xN)) (h34 : ∀ (v1 : Int32) (v2 : Int32) (u : xN), xGm md_X3_relent rsM (rec34 v1 v2 u) 34 [(0, .ref 0), (1, .int v1), (2, .int v2)] [] (xU u)) (v1 : Int32) (v2 : Int32) (u : xN) : xGm md_X3_relent rsM (f_X3_relent_L34b N rec34 v1 v2 u) 34 [(0, .ref 0), (1, .int v1), (2, .int v2)] [] (xU u) := by
  unfold f_X3_relent_L34b
  refine xm_blk0 (pc' := 39) (lv' := [(0, .ref 0), (1, .int v1), (2, .int v2)]) (st' := [.ref 7, .int v2]) (u' := (xU u)) [(.iload_n 2, (0, 0, 0), 0, 0), (.aload_n 0, (0, 0, 0), 0, 0), (.getfield 24, (3, 2, 208), 0, 0)] (by decide +kernel) rfl ?_
  refine xm_Vi (pc := 39) (mz := md_X0_ways_7) (idx := 231) (p1 := 430) (a := 7) (as := []) (st := [.int v2]) (ev_X0_ways_7 u) mw_X0_ways (by decide +kernel) (by decide +kernel) (by decide) rfl rfl (by decide) rfl (Nat.le_of_ble_eq_true rfl) (fun r39 => ?_)
  refine xm_icmp_ge (pc := 42) (off := 30) (tgt := 72) (by decide +kernel) (by decide) ?_ ?_
  · refine xm_blk0 (pc' := 78) (lv' := [(0, .ref 0), (1, .int v1), (2, .int v2)]) (st' := [.int v1]) (u' := (xU (mI u 0 10 v1))) [(.aload_n 0, (0, 0, 0), 0, 0), (.iload_n 1, (0, 0, 0), 0, 0), (.putfield 71, (3, 10, 216), 0, 0), (.iload_n 1, (0, 0, 0), 0, 0)] (by decide +kernel) rfl ?_
    refine xm_Si (pc := 78) (mz := md_J6_bitCount_0f7a4) (idx := 186) (p1 := 509) (as := [.int v1]) (st := []) (ev_J6_bitCount_0f7a4 v1 (mI u 0 10 v1)) mw_J6_bitCount_0f7a4 (by decide +kernel) (by decide +kernel) (by decide) rfl (Nat.le_of_ble_eq_true rfl) (fun r78 => ?_)
    exact xm_iret (pc := 81) (by decide +kernel) rfl rfl
  · refine xm_blk (bs := [inb v2 64]) (pc' := 62) (lv' := [(0, .ref 0), (1, .int v1), (2, .int v2)]) (st' := [.int ((u.1 19 1) &&& ((u.1 36 (Int32.toNatClampNeg v2)) ^^^ (-1 : Int32))), .int v1]) (u' := (xU u)) [(.iload_n 1, (0, 0, 0), 0, 0), (.aload_n 0, (0, 0, 0), 0, 0), (.getfield 34, (3, 4, 210), 0, 0), (.getfield 183, (2, 1, 181), 0, 0), (.aload_n 0, (0, 0, 0), 0, 0), (.getfield 42, (3, 6, 212), 0, 0), (.iload_n 2, (0, 0, 0), 0, 0), (.iaload, (0, 0, 0), 0, 0), (.iconst (-1), (0, 0, 0), -1, 0), (.ixor, (0, 0, 0), 0, 0), (.iand, (0, 0, 0), 0, 0)] (by decide +kernel) rfl ?_
    refine xm_Si (pc := 62) (mz := md_X3_smallerSet) (idx := 250) (p1 := 637) (as := [.int v1, .int ((u.1 19 1) &&& ((u.1 36 (Int32.toNatClampNeg v2)) ^^^ (-1 : Int32)))]) (st := []) (ev_X3_smallerSet v1 ((u.1 19 1) &&& ((u.1 36 (Int32.toNatClampNeg v2)) ^^^ (-1 : Int32))) u) mw_X3_smallerSet (by decide +kernel) (by decide +kernel) (by decide) rfl (Nat.le_of_ble_eq_true rfl) (fun r62 => ?_)
    refine xm_blk0 (pc' := 69) (lv' := [(0, .ref 0), (1, .int r62), (2, .int (v2 + (1 : Int32)))]) (st' := []) (u' := (xU u)) [(.istore_n 1, (0, 0, 0), 0, 0), (.iinc 2 1, (0, 0, 0), 1, 0)] (by decide +kernel) rfl ?_
    refine xm_goto (pc := 69) (off := -35) (tgt := 34) (by decide +kernel) (by decide) ?_
    exact h34 r62 (v2 + (1 : Int32)) u
def f_X3_relent_L34 (N : Nat) : Nat → Int32 → Int32 → xN → Option (Int32 × xN)
  | 0 => fun _ _ _ => none
  | n + 1 => fun v1 v2 u => f_X3_relent_L34b N (f_X3_relent_L34 N n) v1 v2 u
theorem go_X3_relent_L34 (N : Nat) : ∀ (n : Nat) (v1 : Int32) (v2 : Int32) (u : xN), xGm md_X3_relent rsM (f_X3_relent_L34 N n v1 v2 u) 34 [(0, .ref 0), (1, .int v1), (2, .int v2)] [] (xU u) := by
  intro n
  induction n with
  | zero => intro v1 v2 u; exact xm_none
  | succ n ih => intro v1 v2 u; exact go_X3_relent_L34b N _ ih v1 v2 u
def f_X3_relent (N : Nat) (u : xN) : Option (Int32 × xN) := if (u.1 7 0) = (0 : Int32) then some ((-4 : Int32), u) else Option.bind (f_X3_judgeWays_20 N u) (fun r21 => f_X3_relent_L34 N N (r21.1 19 1) (0 : Int32) r21)
set_option maxRecDepth 20000 in
theorem go_X3_relent (N : Nat) (u : xN) : xGm md_X3_relent rsM (f_X3_relent N u) 0 [(0, .ref 0)] [] (xU u) := by
  unfold f_X3_relent
  refine xm_blk0 (pc' := 7) (lv' := [(0, .ref 0)]) (st' := [.int (u.1 7 0)]) (u' := (xU u)) [(.aload_n 0, (0, 0, 0), 0, 0), (.getfield 24, (3, 2, 208), 0, 0), (.getfield 119, (0, 0, 143), 0, 0)] (by decide +kernel) rfl ?_
  refine xm_if_ne (pc := 7) (off := 6) (tgt := 13) (by decide +kernel) (by decide) ?_ ?_
  · refine xm_blk0 (pc' := 21) (lv' := [(0, .ref 0)]) (st' := [.ref 20, .ref 0]) (u' := (xU u)) [(.aload_n 0, (0, 0, 0), 0, 0), (.aload_n 0, (0, 0, 0), 0, 0), (.getfield 34, (3, 4, 210), 0, 0), (.getfield 170, (2, 3, 185), 0, 0)] (by decide +kernel) rfl ?_
    refine xm_Vv (pc := 21) (mz := md_X3_judgeWays_20) (idx := 227) (p1 := 583) (a := 0) (as := [.ref 20]) (st := []) (ev_X3_judgeWays_20 N u) mw_X3_judgeWays (by decide +kernel) (by decide +kernel) (by decide) rfl rfl (by decide) rfl (Nat.le_of_ble_eq_true rfl) (fun r21 => ?_)
    refine xm_blk0 (pc' := 34) (lv' := [(0, .ref 0), (1, .int (r21.1 19 1)), (2, .int (0 : Int32))]) (st' := []) (u' := (xU r21)) [(.aload_n 0, (0, 0, 0), 0, 0), (.getfield 34, (3, 4, 210), 0, 0), (.getfield 183, (2, 1, 181), 0, 0), (.istore_n 1, (0, 0, 0), 0, 0), (.iconst 0, (0, 0, 0), 0, 0), (.istore_n 2, (0, 0, 0), 0, 0)] (by decide +kernel) rfl ?_
    exact go_X3_relent_L34 N N (r21.1 19 1) (0 : Int32) r21
  · refine xm_blk0 (pc' := 12) (lv' := [(0, .ref 0)]) (st' := [.int (-4 : Int32)]) (u' := (xU u)) [(.bipush (-4), (0, 0, 0), -4, 0)] (by decide +kernel) rfl ?_
    exact xm_iret (pc := 12) (by decide +kernel) rfl rfl
theorem ev_X3_relent (N : Nat) (u : xN) : ∀ r, f_X3_relent N u = some r → xEm md_X3_relent yX3_relent [.ref 0] (xU u) (some (.int r.1), xU r.2) := xm_met (res := rsM) (as := [.ref 0]) (go_X3_relent N u) (by decide) rfl (Nat.le_of_ble_eq_true rfl)
theorem mw_X3_waysMeeting : xMv yX3_waysMeeting cX3_waysMeeting 5 (some .long) 1 := xMv_of (p1 := 655) (p2 := 654) (p3 := 92) (p4 := 26) (by decide +kernel)
/-! NeitherBare.waysMeeting(I)J (0, None) -/
abbrev md_X3_waysMeeting : xMd := (cX3_waysMeeting, RX3, 5, some .long, 2)
def f_X3_waysMeeting_L38 (N : Nat) (u : xN) (rec5 : Int32 → Int64 → Int32 → Option Int64) (v1 : Int32) (v2 : Int64) (v4 : Int32) : Option Int64 := rec5 v1 v2 (v4 + (1 : Int32))
set_option maxRecDepth 20000 in
theorem go_X3_waysMeeting_L38 (N : Nat) (u : xN) (rec5 : Int32 → Int64 → Int32 → Option Int64) (h5 : ∀ (v1 : Int32) (v2 : Int64) (v4 : Int32), xGm md_X3_waysMeeting (rsL (xU u)) (rec5 v1 v2 v4) 5 [(0, .ref 0), (1, .int v1), (2, .long v2), (4, .int v4)] [] (xU u)) (v1 : Int32) (v2 : Int64) (v4 : Int32) : xGm md_X3_waysMeeting (rsL (xU u)) (f_X3_waysMeeting_L38 N u rec5 v1 v2 v4) 38 [(0, .ref 0), (1, .int v1), (2, .long v2), (4, .int v4)] [] (xU u) := by
  unfold f_X3_waysMeeting_L38
  refine xm_blk0 (pc' := 41) (lv' := [(0, .ref 0), (1, .int v1), (2, .long v2), (4, .int (v4 + (1 : Int32)))]) (st' := []) (u' := (xU u)) [(.iinc 4 1, (0, 0, 0), 1, 0)] (by decide +kernel) rfl ?_
  refine xm_goto (pc := 41) (off := -36) (tgt := 5) (by decide +kernel) (by decide) ?_
  exact h5 v1 v2 (v4 + (1 : Int32))
def f_X3_waysMeeting_L5b (N : Nat) (u : xN) (rec5 : Int32 → Int64 → Int32 → Option Int64) (v1 : Int32) (v2 : Int64) (v4 : Int32) : Option Int64 := Option.bind (f_X0_ways_7 u) (fun r11 => if r11 ≤ v4 then some v2 else gdl [inb v4 64] (Option.bind (f_X3_isMet (u.1 36 (Int32.toNatClampNeg v4)) v1) (fun r25 => if r25 = (0 : Int32) then f_X3_waysMeeting_L38 N u rec5 v1 v2 v4 else f_X3_waysMeeting_L38 N u rec5 v1 (v2 ||| ((1 : Int64) <<< (Int32.toInt64 v4 &&& 63))) v4)))
set_option maxRecDepth 20000 in
theorem go_X3_waysMeeting_L5b (N : Nat) (u : xN) (rec5 : Int32 → Int64 → Int32 → Option Int64) (h5 : ∀ (v1 : Int32) (v2 : Int64) (v4 : Int32), xGm md_X3_waysMeeting (rsL (xU u)) (rec5 v1 v2 v4) 5 [(0, .ref 0), (1, .int v1), (2, .long v2), (4, .int v4)] [] (xU u)) (v1 : Int32) (v2 : Int64) (v4 : Int32) : xGm md_X3_waysMeeting (rsL (xU u)) (f_X3_waysMeeting_L5b N u rec5 v1 v2 v4) 5 [(0, .ref 0), (1, .int v1), (2, .long v2), (4, .int v4)] [] (xU u) := by
  unfold f_X3_waysMeeting_L5b
  refine xm_blk0 (pc' := 11) (lv' := [(0, .ref 0), (1, .int v1), (2, .long v2), (4, .int v4)]) (st' := [.ref 7, .int v4]) (u' := (xU u)) [(.iload 4, (0, 0, 0), 0, 0), (.aload_n 0, (0, 0, 0), 0, 0), (.getfield 24, (3, 2, 208), 0, 0)] (by decide +kernel) rfl ?_
  refine xm_Vi (pc := 11) (mz := md_X0_ways_7) (idx := 231) (p1 := 430) (a := 7) (as := []) (st := [.int v4]) (ev_X0_ways_7 u) mw_X0_ways (by decide +kernel) (by decide +kernel) (by decide) rfl rfl (by decide) rfl (Nat.le_of_ble_eq_true rfl) (fun r11 => ?_)
  refine xm_icmp_ge (pc := 14) (off := 30) (tgt := 44) (by decide +kernel) (by decide) ?_ ?_
  · refine xm_blk0 (pc' := 45) (lv' := [(0, .ref 0), (1, .int v1), (2, .long v2), (4, .int v4)]) (st' := [.long v2]) (u' := (xU u)) [(.lload_n 2, (0, 0, 0), 0, 0)] (by decide +kernel) rfl ?_
    exact xm_lret (pc := 45) (by decide +kernel) rfl rfl
  · refine xm_blk (bs := [inb v4 64]) (pc' := 25) (lv' := [(0, .ref 0), (1, .int v1), (2, .long v2), (4, .int v4)]) (st' := [.int v1, .int (u.1 36 (Int32.toNatClampNeg v4))]) (u' := (xU u)) [(.aload_n 0, (0, 0, 0), 0, 0), (.getfield 42, (3, 6, 212), 0, 0), (.iload 4, (0, 0, 0), 0, 0), (.iaload, (0, 0, 0), 0, 0), (.iload_n 1, (0, 0, 0), 0, 0)] (by decide +kernel) rfl ?_
    refine xm_Si (pc := 25) (mz := md_X3_isMet) (idx := 224) (p1 := 576) (as := [.int (u.1 36 (Int32.toNatClampNeg v4)), .int v1]) (st := []) (ev_X3_isMet (u.1 36 (Int32.toNatClampNeg v4)) v1 u) mw_X3_isMet (by decide +kernel) (by decide +kernel) (by decide) rfl (Nat.le_of_ble_eq_true rfl) (fun r25 => ?_)
    refine xm_if_eq (pc := 28) (off := 10) (tgt := 38) (by decide +kernel) (by decide) ?_ ?_
    · exact go_X3_waysMeeting_L38 N u rec5 h5 v1 v2 v4
    · refine xm_blk0 (pc' := 38) (lv' := [(0, .ref 0), (1, .int v1), (2, .long (v2 ||| ((1 : Int64) <<< (Int32.toInt64 v4 &&& 63)))), (4, .int v4)]) (st' := []) (u' := (xU u)) [(.lload_n 2, (0, 0, 0), 0, 0), (.lconst 1, (0, 0, 0), 0, 1), (.iload 4, (0, 0, 0), 0, 0), (.lshl, (0, 0, 0), 0, 0), (.lor, (0, 0, 0), 0, 0), (.lstore_n 2, (0, 0, 0), 0, 0)] (by decide +kernel) rfl ?_
      exact go_X3_waysMeeting_L38 N u rec5 h5 v1 (v2 ||| ((1 : Int64) <<< (Int32.toInt64 v4 &&& 63))) v4
def f_X3_waysMeeting_L5 (N : Nat) (u : xN) : Nat → Int32 → Int64 → Int32 → Option Int64
  | 0 => fun _ _ _ => none
  | n + 1 => fun v1 v2 v4 => f_X3_waysMeeting_L5b N u (f_X3_waysMeeting_L5 N u n) v1 v2 v4
theorem go_X3_waysMeeting_L5 (N : Nat) (u : xN) : ∀ (n : Nat) (v1 : Int32) (v2 : Int64) (v4 : Int32), xGm md_X3_waysMeeting (rsL (xU u)) (f_X3_waysMeeting_L5 N u n v1 v2 v4) 5 [(0, .ref 0), (1, .int v1), (2, .long v2), (4, .int v4)] [] (xU u) := by
  intro n
  induction n with
  | zero => intro v1 v2 v4; exact xm_none
  | succ n ih => intro v1 v2 v4; exact go_X3_waysMeeting_L5b N u _ ih v1 v2 v4
def f_X3_waysMeeting (N : Nat) (a1 : Int32) (u : xN) : Option Int64 := f_X3_waysMeeting_L5 N u N a1 (0 : Int64) (0 : Int32)
set_option maxRecDepth 20000 in
theorem go_X3_waysMeeting (N : Nat) (a1 : Int32) (u : xN) : xGm md_X3_waysMeeting (rsL (xU u)) (f_X3_waysMeeting N a1 u) 0 [(0, .ref 0), (1, .int a1)] [] (xU u) := by
  unfold f_X3_waysMeeting
  refine xm_blk0 (pc' := 5) (lv' := [(0, .ref 0), (1, .int a1), (2, .long (0 : Int64)), (4, .int (0 : Int32))]) (st' := []) (u' := (xU u)) [(.lconst 0, (0, 0, 0), 0, 0), (.lstore_n 2, (0, 0, 0), 0, 0), (.iconst 0, (0, 0, 0), 0, 0), (.istore 4, (0, 0, 0), 0, 0)] (by decide +kernel) rfl ?_
  exact go_X3_waysMeeting_L5 N u N a1 (0 : Int64) (0 : Int32)
theorem ev_X3_waysMeeting (N : Nat) (a1 : Int32) (u : xN) : ∀ r, f_X3_waysMeeting N a1 u = some r → xEm md_X3_waysMeeting yX3_waysMeeting [.ref 0, .int a1] (xU u) (some (.long r), (xU u)) := xm_met (res := (rsL (xU u))) (as := [.ref 0, .int a1]) (go_X3_waysMeeting N a1 u) (by decide) rfl (Nat.le_of_ble_eq_true rfl)
theorem mw_X3_winningWays : xMv yX3_winningWays cX3_winningWays 7 (some .long) 2 := xMv_of (p1 := 651) (p2 := 650) (p3 := 92) (p4 := 25) (by decide +kernel)
/-! NeitherBare.winningWays(II)J (0, None, None) -/
abbrev md_X3_winningWays_l0 : xMd := (cX3_winningWays, RX3, 7, some .long, 3)
def f_X3_winningWays_l0_L90 (N : Nat) (u : xN) (rec47 : Int32 → Int32 → Int32 → Int64 → Int32 → Option Int64) (v1 : Int32) (v2 : Int32) (v3 : Int32) (v4 : Int64) (v6 : Int32) : Option Int64 := rec47 v1 v2 v3 v4 (v6 + (1 : Int32))
set_option maxRecDepth 20000 in
theorem go_X3_winningWays_l0_L90 (N : Nat) (u : xN) (rec47 : Int32 → Int32 → Int32 → Int64 → Int32 → Option Int64) (h47 : ∀ (v1 : Int32) (v2 : Int32) (v3 : Int32) (v4 : Int64) (v6 : Int32), xGm md_X3_winningWays_l0 (rsL (xU u)) (rec47 v1 v2 v3 v4 v6) 47 [(0, .ref 0), (1, .int v1), (2, .int v2), (3, .int v3), (4, .long v4), (6, .int v6)] [] (xU u)) (v1 : Int32) (v2 : Int32) (v3 : Int32) (v4 : Int64) (v6 : Int32) : xGm md_X3_winningWays_l0 (rsL (xU u)) (f_X3_winningWays_l0_L90 N u rec47 v1 v2 v3 v4 v6) 90 [(0, .ref 0), (1, .int v1), (2, .int v2), (3, .int v3), (4, .long v4), (6, .int v6)] [] (xU u) := by
  unfold f_X3_winningWays_l0_L90
  refine xm_blk0 (pc' := 93) (lv' := [(0, .ref 0), (1, .int v1), (2, .int v2), (3, .int v3), (4, .long v4), (6, .int (v6 + (1 : Int32)))]) (st' := []) (u' := (xU u)) [(.iinc 6 1, (0, 0, 0), 1, 0)] (by decide +kernel) rfl ?_
  refine xm_goto (pc := 93) (off := -46) (tgt := 47) (by decide +kernel) (by decide) ?_
  exact h47 v1 v2 v3 v4 (v6 + (1 : Int32))
def f_X3_winningWays_l0_L47b (N : Nat) (u : xN) (rec47 : Int32 → Int32 → Int32 → Int64 → Int32 → Option Int64) (v1 : Int32) (v2 : Int32) (v3 : Int32) (v4 : Int64) (v6 : Int32) : Option Int64 := if (u.1 7 1) ≤ v6 then some v4 else Option.bind (f_X3_hasBit v3 v6) (fun r62 => if r62 = (0 : Int32) then f_X3_winningWays_l0_L90 N u rec47 v1 v2 v3 v4 v6 else none)
set_option maxRecDepth 20000 in
theorem go_X3_winningWays_l0_L47b (N : Nat) (u : xN) (rec47 : Int32 → Int32 → Int32 → Int64 → Int32 → Option Int64) (h47 : ∀ (v1 : Int32) (v2 : Int32) (v3 : Int32) (v4 : Int64) (v6 : Int32), xGm md_X3_winningWays_l0 (rsL (xU u)) (rec47 v1 v2 v3 v4 v6) 47 [(0, .ref 0), (1, .int v1), (2, .int v2), (3, .int v3), (4, .long v4), (6, .int v6)] [] (xU u)) (v1 : Int32) (v2 : Int32) (v3 : Int32) (v4 : Int64) (v6 : Int32) : xGm md_X3_winningWays_l0 (rsL (xU u)) (f_X3_winningWays_l0_L47b N u rec47 v1 v2 v3 v4 v6) 47 [(0, .ref 0), (1, .int v1), (2, .int v2), (3, .int v3), (4, .long v4), (6, .int v6)] [] (xU u) := by
  unfold f_X3_winningWays_l0_L47b
  refine xm_blk0 (pc' := 56) (lv' := [(0, .ref 0), (1, .int v1), (2, .int v2), (3, .int v3), (4, .long v4), (6, .int v6)]) (st' := [.int (u.1 7 1), .int v6]) (u' := (xU u)) [(.iload 6, (0, 0, 0), 0, 0), (.aload_n 0, (0, 0, 0), 0, 0), (.getfield 24, (3, 2, 208), 0, 0), (.getfield 113, (0, 1, 145), 0, 0)] (by decide +kernel) rfl ?_
  refine xm_icmp_ge (pc := 56) (off := 40) (tgt := 96) (by decide +kernel) (by decide) ?_ ?_
  · refine xm_blk0 (pc' := 98) (lv' := [(0, .ref 0), (1, .int v1), (2, .int v2), (3, .int v3), (4, .long v4), (6, .int v6)]) (st' := [.long v4]) (u' := (xU u)) [(.lload 4, (0, 0, 0), 0, 0)] (by decide +kernel) rfl ?_
    exact xm_lret (pc := 98) (by decide +kernel) rfl rfl
  · refine xm_blk0 (pc' := 62) (lv' := [(0, .ref 0), (1, .int v1), (2, .int v2), (3, .int v3), (4, .long v4), (6, .int v6)]) (st' := [.int v6, .int v3]) (u' := (xU u)) [(.iload_n 3, (0, 0, 0), 0, 0), (.iload 6, (0, 0, 0), 0, 0)] (by decide +kernel) rfl ?_
    refine xm_Si (pc := 62) (mz := md_X3_hasBit) (idx := 241) (p1 := 612) (as := [.int v3, .int v6]) (st := []) (ev_X3_hasBit v3 v6 u) mw_X3_hasBit (by decide +kernel) (by decide +kernel) (by decide) rfl (Nat.le_of_ble_eq_true rfl) (fun r62 => ?_)
    refine xm_if_eq (pc := 65) (off := 25) (tgt := 90) (by decide +kernel) (by decide) ?_ ?_
    · exact go_X3_winningWays_l0_L90 N u rec47 h47 v1 v2 v3 v4 v6
    · exact xm_none
def f_X3_winningWays_l0_L47 (N : Nat) (u : xN) : Nat → Int32 → Int32 → Int32 → Int64 → Int32 → Option Int64
  | 0 => fun _ _ _ _ _ => none
  | n + 1 => fun v1 v2 v3 v4 v6 => f_X3_winningWays_l0_L47b N u (f_X3_winningWays_l0_L47 N u n) v1 v2 v3 v4 v6
theorem go_X3_winningWays_l0_L47 (N : Nat) (u : xN) : ∀ (n : Nat) (v1 : Int32) (v2 : Int32) (v3 : Int32) (v4 : Int64) (v6 : Int32), xGm md_X3_winningWays_l0 (rsL (xU u)) (f_X3_winningWays_l0_L47 N u n v1 v2 v3 v4 v6) 47 [(0, .ref 0), (1, .int v1), (2, .int v2), (3, .int v3), (4, .long v4), (6, .int v6)] [] (xU u) := by
  intro n
  induction n with
  | zero => intro v1 v2 v3 v4 v6; exact xm_none
  | succ n ih => intro v1 v2 v3 v4 v6; exact go_X3_winningWays_l0_L47b N u _ ih v1 v2 v3 v4 v6
def f_X3_winningWays_l0 (N : Nat) (a1 : Int32) (a2 : Int32) (u : xN) : Option Int64 := if (0 : Int32) < a1 then (if ((u.1 19 1) &&& (a2 ^^^ (-1 : Int32))) = (0 : Int32) then none else f_X3_winningWays_l0_L47 N u N a1 a2 ((u.1 19 1) &&& (a2 ^^^ (-1 : Int32))) (-1 : Int64) (0 : Int32)) else Option.bind (f_X3_waysMeeting N a2 u) (fun r6 => some r6)
set_option maxRecDepth 20000 in
theorem go_X3_winningWays_l0 (N : Nat) (a1 : Int32) (a2 : Int32) (u : xN) : xGm md_X3_winningWays_l0 (rsL (xU u)) (f_X3_winningWays_l0 N a1 a2 u) 0 [(0, .ref 0), (1, .int a1), (2, .int a2)] [] (xU u) := by
  unfold f_X3_winningWays_l0
  refine xm_blk0 (pc' := 1) (lv' := [(0, .ref 0), (1, .int a1), (2, .int a2)]) (st' := [.int a1]) (u' := (xU u)) [(.iload_n 1, (0, 0, 0), 0, 0)] (by decide +kernel) rfl ?_
  refine xm_if_gt (pc := 1) (off := 9) (tgt := 10) (by decide +kernel) (by decide) ?_ ?_
  · refine xm_blk0 (pc' := 23) (lv' := [(0, .ref 0), (1, .int a1), (2, .int a2), (3, .int ((u.1 19 1) &&& (a2 ^^^ (-1 : Int32))))]) (st' := [.int ((u.1 19 1) &&& (a2 ^^^ (-1 : Int32)))]) (u' := (xU u)) [(.aload_n 0, (0, 0, 0), 0, 0), (.getfield 34, (3, 4, 210), 0, 0), (.getfield 183, (2, 1, 181), 0, 0), (.iload_n 2, (0, 0, 0), 0, 0), (.iconst (-1), (0, 0, 0), -1, 0), (.ixor, (0, 0, 0), 0, 0), (.iand, (0, 0, 0), 0, 0), (.istore_n 3, (0, 0, 0), 0, 0), (.iload_n 3, (0, 0, 0), 0, 0)] (by decide +kernel) rfl ?_
    refine xm_if_ne (pc := 23) (off := 16) (tgt := 39) (by decide +kernel) (by decide) ?_ ?_
    · refine xm_blk0 (pc' := 47) (lv' := [(0, .ref 0), (1, .int a1), (2, .int a2), (3, .int ((u.1 19 1) &&& (a2 ^^^ (-1 : Int32)))), (4, .long (-1 : Int64)), (6, .int (0 : Int32))]) (st' := []) (u' := (xU u)) [(.ldc2_w 356, (0, 0, 662), 0, -1), (.lstore 4, (0, 0, 0), 0, 0), (.iconst 0, (0, 0, 0), 0, 0), (.istore 6, (0, 0, 0), 0, 0)] (by decide +kernel) rfl ?_
      exact go_X3_winningWays_l0_L47 N u N a1 a2 ((u.1 19 1) &&& (a2 ^^^ (-1 : Int32))) (-1 : Int64) (0 : Int32)
    · exact xm_none
  · refine xm_blk0 (pc' := 6) (lv' := [(0, .ref 0), (1, .int a1), (2, .int a2)]) (st' := [.int a2, .ref 0]) (u' := (xU u)) [(.aload_n 0, (0, 0, 0), 0, 0), (.iload_n 2, (0, 0, 0), 0, 0)] (by decide +kernel) rfl ?_
    refine xm_Vl (pc := 6) (mz := md_X3_waysMeeting) (idx := 352) (p1 := 652) (a := 0) (as := [.int a2]) (st := []) (ev_X3_waysMeeting N a2 u) mw_X3_waysMeeting (by decide +kernel) (by decide +kernel) (by decide) rfl rfl (by decide) rfl (Nat.le_of_ble_eq_true rfl) (fun r6 => ?_)
    exact xm_lret (pc := 9) (by decide +kernel) rfl rfl
theorem ev_X3_winningWays_l0 (N : Nat) (a1 : Int32) (a2 : Int32) (u : xN) : ∀ r, f_X3_winningWays_l0 N a1 a2 u = some r → xEm md_X3_winningWays_l0 yX3_winningWays [.ref 0, .int a1, .int a2] (xU u) (some (.long r), (xU u)) := xm_met (res := (rsL (xU u))) (as := [.ref 0, .int a1, .int a2]) (go_X3_winningWays_l0 N a1 a2 u) (by decide) rfl (Nat.le_of_ble_eq_true rfl)
theorem mw_X3_waysAhead : xMv yX3_waysAhead cX3_waysAhead 6 (some .long) 1 := xMv_of (p1 := 659) (p2 := 658) (p3 := 92) (p4 := 27) (by decide +kernel)
/-! NeitherBare.waysAhead(J)J (0, None) -/
abbrev md_X3_waysAhead : xMd := (cX3_waysAhead, RX3, 6, some .long, 1)
def f_X3_waysAhead_L5b (N : Nat) (u : xN) (rec5 : Int64 → Int64 → Int32 → Option Int64) (v1 : Int64) (v3 : Int64) (v5 : Int32) : Option Int64 := if (u.1 7 0) ≤ v5 then some v3 else gdl [inb v5 6] (rec5 v1 (v3 ||| ((UInt64.toInt64 (Int64.toUInt64 v1 >>> (Int64.toUInt64 (Int32.toInt64 ((1 : Int32) <<< (v5 &&& 31))) &&& Int64.toUInt64 63))) &&& (xSl (Int32.toNatClampNeg v5)))) (v5 + (1 : Int32)))
set_option maxRecDepth 20000 in
theorem go_X3_waysAhead_L5b (N : Nat) (u : xN) (rec5 : Int64 → Int64 → Int32 → Option Int64) (h5 : ∀ (v1 : Int64) (v3 : Int64) (v5 : Int32), xGm md_X3_waysAhead (rsL (xU u)) (rec5 v1 v3 v5) 5 [(0, .ref 0), (1, .long v1), (3, .long v3), (5, .int v5)] [] (xU u)) (v1 : Int64) (v3 : Int64) (v5 : Int32) : xGm md_X3_waysAhead (rsL (xU u)) (f_X3_waysAhead_L5b N u rec5 v1 v3 v5) 5 [(0, .ref 0), (1, .long v1), (3, .long v3), (5, .int v5)] [] (xU u) := by
  unfold f_X3_waysAhead_L5b
  refine xm_blk0 (pc' := 14) (lv' := [(0, .ref 0), (1, .long v1), (3, .long v3), (5, .int v5)]) (st' := [.int (u.1 7 0), .int v5]) (u' := (xU u)) [(.iload 5, (0, 0, 0), 0, 0), (.aload_n 0, (0, 0, 0), 0, 0), (.getfield 24, (3, 2, 208), 0, 0), (.getfield 119, (0, 0, 143), 0, 0)] (by decide +kernel) rfl ?_
  refine xm_icmp_ge (pc := 14) (off := 25) (tgt := 39) (by decide +kernel) (by decide) ?_ ?_
  · refine xm_blk0 (pc' := 40) (lv' := [(0, .ref 0), (1, .long v1), (3, .long v3), (5, .int v5)]) (st' := [.long v3]) (u' := (xU u)) [(.lload_n 3, (0, 0, 0), 0, 0)] (by decide +kernel) rfl ?_
    exact xm_lret (pc := 40) (by decide +kernel) rfl rfl
  · refine xm_blk (bs := [inb v5 6]) (pc' := 36) (lv' := [(0, .ref 0), (1, .long v1), (3, .long (v3 ||| ((UInt64.toInt64 (Int64.toUInt64 v1 >>> (Int64.toUInt64 (Int32.toInt64 ((1 : Int32) <<< (v5 &&& 31))) &&& Int64.toUInt64 63))) &&& (xSl (Int32.toNatClampNeg v5))))), (5, .int (v5 + (1 : Int32)))]) (st' := []) (u' := (xU u)) [(.lload_n 3, (0, 0, 0), 0, 0), (.lload_n 1, (0, 0, 0), 0, 0), (.iconst 1, (0, 0, 0), 1, 0), (.iload 5, (0, 0, 0), 0, 0), (.ishl, (0, 0, 0), 0, 0), (.lushr, (0, 0, 0), 0, 0), (.getstatic 358, (56, 0, 660), 0, 0), (.iload 5, (0, 0, 0), 0, 0), (.laload, (0, 0, 0), 0, 0), (.land, (0, 0, 0), 0, 0), (.lor, (0, 0, 0), 0, 0), (.lstore_n 3, (0, 0, 0), 0, 0), (.iinc 5 1, (0, 0, 0), 1, 0)] (by decide +kernel) rfl ?_
    refine xm_goto (pc := 36) (off := -31) (tgt := 5) (by decide +kernel) (by decide) ?_
    exact h5 v1 (v3 ||| ((UInt64.toInt64 (Int64.toUInt64 v1 >>> (Int64.toUInt64 (Int32.toInt64 ((1 : Int32) <<< (v5 &&& 31))) &&& Int64.toUInt64 63))) &&& (xSl (Int32.toNatClampNeg v5)))) (v5 + (1 : Int32))
def f_X3_waysAhead_L5 (N : Nat) (u : xN) : Nat → Int64 → Int64 → Int32 → Option Int64
  | 0 => fun _ _ _ => none
  | n + 1 => fun v1 v3 v5 => f_X3_waysAhead_L5b N u (f_X3_waysAhead_L5 N u n) v1 v3 v5
theorem go_X3_waysAhead_L5 (N : Nat) (u : xN) : ∀ (n : Nat) (v1 : Int64) (v3 : Int64) (v5 : Int32), xGm md_X3_waysAhead (rsL (xU u)) (f_X3_waysAhead_L5 N u n v1 v3 v5) 5 [(0, .ref 0), (1, .long v1), (3, .long v3), (5, .int v5)] [] (xU u) := by
  intro n
  induction n with
  | zero => intro v1 v3 v5; exact xm_none
  | succ n ih => intro v1 v3 v5; exact go_X3_waysAhead_L5b N u _ ih v1 v3 v5
def f_X3_waysAhead (N : Nat) (a1 : Int64) (u : xN) : Option Int64 := f_X3_waysAhead_L5 N u N a1 a1 (0 : Int32)
set_option maxRecDepth 20000 in
theorem go_X3_waysAhead (N : Nat) (a1 : Int64) (u : xN) : xGm md_X3_waysAhead (rsL (xU u)) (f_X3_waysAhead N a1 u) 0 [(0, .ref 0), (1, .long a1)] [] (xU u) := by
  unfold f_X3_waysAhead
  refine xm_blk0 (pc' := 5) (lv' := [(0, .ref 0), (1, .long a1), (3, .long a1), (5, .int (0 : Int32))]) (st' := []) (u' := (xU u)) [(.lload_n 1, (0, 0, 0), 0, 0), (.lstore_n 3, (0, 0, 0), 0, 0), (.iconst 0, (0, 0, 0), 0, 0), (.istore 5, (0, 0, 0), 0, 0)] (by decide +kernel) rfl ?_
  exact go_X3_waysAhead_L5 N u N a1 a1 (0 : Int32)
theorem ev_X3_waysAhead (N : Nat) (a1 : Int64) (u : xN) : ∀ r, f_X3_waysAhead N a1 u = some r → xEm md_X3_waysAhead yX3_waysAhead [.ref 0, .long a1] (xU u) (some (.long r), (xU u)) := xm_met (res := (rsL (xU u))) (as := [.ref 0, .long a1]) (go_X3_waysAhead N a1 u) (by decide) rfl (Nat.le_of_ble_eq_true rfl)
/-! NeitherBare.winningWays(II)J (0, None, None) -/
abbrev md_X3_winningWays_l1 : xMd := (cX3_winningWays, RX3, 7, some .long, 4)
def f_X3_winningWays_l1_L90 (N : Nat) (u : xN) (rec47 : Int32 → Int32 → Int32 → Int64 → Int32 → Option Int64) (v1 : Int32) (v2 : Int32) (v3 : Int32) (v4 : Int64) (v6 : Int32) : Option Int64 := rec47 v1 v2 v3 v4 (v6 + (1 : Int32))
set_option maxRecDepth 20000 in
theorem go_X3_winningWays_l1_L90 (N : Nat) (u : xN) (rec47 : Int32 → Int32 → Int32 → Int64 → Int32 → Option Int64) (h47 : ∀ (v1 : Int32) (v2 : Int32) (v3 : Int32) (v4 : Int64) (v6 : Int32), xGm md_X3_winningWays_l1 (rsL (xU u)) (rec47 v1 v2 v3 v4 v6) 47 [(0, .ref 0), (1, .int v1), (2, .int v2), (3, .int v3), (4, .long v4), (6, .int v6)] [] (xU u)) (v1 : Int32) (v2 : Int32) (v3 : Int32) (v4 : Int64) (v6 : Int32) : xGm md_X3_winningWays_l1 (rsL (xU u)) (f_X3_winningWays_l1_L90 N u rec47 v1 v2 v3 v4 v6) 90 [(0, .ref 0), (1, .int v1), (2, .int v2), (3, .int v3), (4, .long v4), (6, .int v6)] [] (xU u) := by
  unfold f_X3_winningWays_l1_L90
  refine xm_blk0 (pc' := 93) (lv' := [(0, .ref 0), (1, .int v1), (2, .int v2), (3, .int v3), (4, .long v4), (6, .int (v6 + (1 : Int32)))]) (st' := []) (u' := (xU u)) [(.iinc 6 1, (0, 0, 0), 1, 0)] (by decide +kernel) rfl ?_
  refine xm_goto (pc := 93) (off := -46) (tgt := 47) (by decide +kernel) (by decide) ?_
  exact h47 v1 v2 v3 v4 (v6 + (1 : Int32))
def f_X3_winningWays_l1_L47b (N : Nat) (u : xN) (rec47 : Int32 → Int32 → Int32 → Int64 → Int32 → Option Int64) (v1 : Int32) (v2 : Int32) (v3 : Int32) (v4 : Int64) (v6 : Int32) : Option Int64 := if (u.1 7 1) ≤ v6 then some v4 else Option.bind (f_X3_hasBit v3 v6) (fun r62 => if r62 = (0 : Int32) then f_X3_winningWays_l1_L90 N u rec47 v1 v2 v3 v4 v6 else Option.bind (f_X3_winningWays_l0 N (v1 - (1 : Int32)) (v2 ||| ((1 : Int32) <<< (v6 &&& 31))) u) (fun r81 => Option.bind (f_X3_waysAhead N r81 u) (fun r84 => f_X3_winningWays_l1_L90 N u rec47 v1 v2 v3 (v4 &&& r84) v6)))
set_option maxRecDepth 20000 in
theorem go_X3_winningWays_l1_L47b (N : Nat) (u : xN) (rec47 : Int32 → Int32 → Int32 → Int64 → Int32 → Option Int64) (h47 : ∀ (v1 : Int32) (v2 : Int32) (v3 : Int32) (v4 : Int64) (v6 : Int32), xGm md_X3_winningWays_l1 (rsL (xU u)) (rec47 v1 v2 v3 v4 v6) 47 [(0, .ref 0), (1, .int v1), (2, .int v2), (3, .int v3), (4, .long v4), (6, .int v6)] [] (xU u)) (v1 : Int32) (v2 : Int32) (v3 : Int32) (v4 : Int64) (v6 : Int32) : xGm md_X3_winningWays_l1 (rsL (xU u)) (f_X3_winningWays_l1_L47b N u rec47 v1 v2 v3 v4 v6) 47 [(0, .ref 0), (1, .int v1), (2, .int v2), (3, .int v3), (4, .long v4), (6, .int v6)] [] (xU u) := by
  unfold f_X3_winningWays_l1_L47b
  refine xm_blk0 (pc' := 56) (lv' := [(0, .ref 0), (1, .int v1), (2, .int v2), (3, .int v3), (4, .long v4), (6, .int v6)]) (st' := [.int (u.1 7 1), .int v6]) (u' := (xU u)) [(.iload 6, (0, 0, 0), 0, 0), (.aload_n 0, (0, 0, 0), 0, 0), (.getfield 24, (3, 2, 208), 0, 0), (.getfield 113, (0, 1, 145), 0, 0)] (by decide +kernel) rfl ?_
  refine xm_icmp_ge (pc := 56) (off := 40) (tgt := 96) (by decide +kernel) (by decide) ?_ ?_
  · refine xm_blk0 (pc' := 98) (lv' := [(0, .ref 0), (1, .int v1), (2, .int v2), (3, .int v3), (4, .long v4), (6, .int v6)]) (st' := [.long v4]) (u' := (xU u)) [(.lload 4, (0, 0, 0), 0, 0)] (by decide +kernel) rfl ?_
    exact xm_lret (pc := 98) (by decide +kernel) rfl rfl
  · refine xm_blk0 (pc' := 62) (lv' := [(0, .ref 0), (1, .int v1), (2, .int v2), (3, .int v3), (4, .long v4), (6, .int v6)]) (st' := [.int v6, .int v3]) (u' := (xU u)) [(.iload_n 3, (0, 0, 0), 0, 0), (.iload 6, (0, 0, 0), 0, 0)] (by decide +kernel) rfl ?_
    refine xm_Si (pc := 62) (mz := md_X3_hasBit) (idx := 241) (p1 := 612) (as := [.int v3, .int v6]) (st := []) (ev_X3_hasBit v3 v6 u) mw_X3_hasBit (by decide +kernel) (by decide +kernel) (by decide) rfl (Nat.le_of_ble_eq_true rfl) (fun r62 => ?_)
    refine xm_if_eq (pc := 65) (off := 25) (tgt := 90) (by decide +kernel) (by decide) ?_ ?_
    · exact go_X3_winningWays_l1_L90 N u rec47 h47 v1 v2 v3 v4 v6
    · refine xm_blk0 (pc' := 81) (lv' := [(0, .ref 0), (1, .int v1), (2, .int v2), (3, .int v3), (4, .long v4), (6, .int v6)]) (st' := [.int (v2 ||| ((1 : Int32) <<< (v6 &&& 31))), .int (v1 - (1 : Int32)), .ref 0, .ref 0, .long v4]) (u' := (xU u)) [(.lload 4, (0, 0, 0), 0, 0), (.aload_n 0, (0, 0, 0), 0, 0), (.aload_n 0, (0, 0, 0), 0, 0), (.iload_n 1, (0, 0, 0), 0, 0), (.iconst 1, (0, 0, 0), 1, 0), (.isub, (0, 0, 0), 0, 0), (.iload_n 2, (0, 0, 0), 0, 0), (.iconst 1, (0, 0, 0), 1, 0), (.iload 6, (0, 0, 0), 0, 0), (.ishl, (0, 0, 0), 0, 0), (.ior, (0, 0, 0), 0, 0)] (by decide +kernel) rfl ?_
      refine xm_Vl (pc := 81) (mz := md_X3_winningWays_l0) (idx := 253) (p1 := 648) (a := 0) (as := [.int (v1 - (1 : Int32)), .int (v2 ||| ((1 : Int32) <<< (v6 &&& 31)))]) (st := [.ref 0, .long v4]) (ev_X3_winningWays_l0 N (v1 - (1 : Int32)) (v2 ||| ((1 : Int32) <<< (v6 &&& 31))) u) mw_X3_winningWays (by decide +kernel) (by decide +kernel) (by decide) rfl rfl (by decide) rfl (Nat.le_of_ble_eq_true rfl) (fun r81 => ?_)
      refine xm_Vl (pc := 84) (mz := md_X3_waysAhead) (idx := 261) (p1 := 656) (a := 0) (as := [.long r81]) (st := [.long v4]) (ev_X3_waysAhead N r81 u) mw_X3_waysAhead (by decide +kernel) (by decide +kernel) (by decide) rfl rfl (by decide) rfl (Nat.le_of_ble_eq_true rfl) (fun r84 => ?_)
      refine xm_blk0 (pc' := 90) (lv' := [(0, .ref 0), (1, .int v1), (2, .int v2), (3, .int v3), (4, .long (v4 &&& r84)), (6, .int v6)]) (st' := []) (u' := (xU u)) [(.land, (0, 0, 0), 0, 0), (.lstore 4, (0, 0, 0), 0, 0)] (by decide +kernel) rfl ?_
      exact go_X3_winningWays_l1_L90 N u rec47 h47 v1 v2 v3 (v4 &&& r84) v6
def f_X3_winningWays_l1_L47 (N : Nat) (u : xN) : Nat → Int32 → Int32 → Int32 → Int64 → Int32 → Option Int64
  | 0 => fun _ _ _ _ _ => none
  | n + 1 => fun v1 v2 v3 v4 v6 => f_X3_winningWays_l1_L47b N u (f_X3_winningWays_l1_L47 N u n) v1 v2 v3 v4 v6
theorem go_X3_winningWays_l1_L47 (N : Nat) (u : xN) : ∀ (n : Nat) (v1 : Int32) (v2 : Int32) (v3 : Int32) (v4 : Int64) (v6 : Int32), xGm md_X3_winningWays_l1 (rsL (xU u)) (f_X3_winningWays_l1_L47 N u n v1 v2 v3 v4 v6) 47 [(0, .ref 0), (1, .int v1), (2, .int v2), (3, .int v3), (4, .long v4), (6, .int v6)] [] (xU u) := by
  intro n
  induction n with
  | zero => intro v1 v2 v3 v4 v6; exact xm_none
  | succ n ih => intro v1 v2 v3 v4 v6; exact go_X3_winningWays_l1_L47b N u _ ih v1 v2 v3 v4 v6
def f_X3_winningWays_l1 (N : Nat) (a1 : Int32) (a2 : Int32) (u : xN) : Option Int64 := if (0 : Int32) < a1 then (if ((u.1 19 1) &&& (a2 ^^^ (-1 : Int32))) = (0 : Int32) then Option.bind (f_X3_winningWays_l0 N (a1 - (1 : Int32)) a2 u) (fun r32 => Option.bind (f_X3_waysAhead N r32 u) (fun r35 => some r35)) else f_X3_winningWays_l1_L47 N u N a1 a2 ((u.1 19 1) &&& (a2 ^^^ (-1 : Int32))) (-1 : Int64) (0 : Int32)) else Option.bind (f_X3_waysMeeting N a2 u) (fun r6 => some r6)
set_option maxRecDepth 20000 in
theorem go_X3_winningWays_l1 (N : Nat) (a1 : Int32) (a2 : Int32) (u : xN) : xGm md_X3_winningWays_l1 (rsL (xU u)) (f_X3_winningWays_l1 N a1 a2 u) 0 [(0, .ref 0), (1, .int a1), (2, .int a2)] [] (xU u) := by
  unfold f_X3_winningWays_l1
  refine xm_blk0 (pc' := 1) (lv' := [(0, .ref 0), (1, .int a1), (2, .int a2)]) (st' := [.int a1]) (u' := (xU u)) [(.iload_n 1, (0, 0, 0), 0, 0)] (by decide +kernel) rfl ?_
  refine xm_if_gt (pc := 1) (off := 9) (tgt := 10) (by decide +kernel) (by decide) ?_ ?_
  · refine xm_blk0 (pc' := 23) (lv' := [(0, .ref 0), (1, .int a1), (2, .int a2), (3, .int ((u.1 19 1) &&& (a2 ^^^ (-1 : Int32))))]) (st' := [.int ((u.1 19 1) &&& (a2 ^^^ (-1 : Int32)))]) (u' := (xU u)) [(.aload_n 0, (0, 0, 0), 0, 0), (.getfield 34, (3, 4, 210), 0, 0), (.getfield 183, (2, 1, 181), 0, 0), (.iload_n 2, (0, 0, 0), 0, 0), (.iconst (-1), (0, 0, 0), -1, 0), (.ixor, (0, 0, 0), 0, 0), (.iand, (0, 0, 0), 0, 0), (.istore_n 3, (0, 0, 0), 0, 0), (.iload_n 3, (0, 0, 0), 0, 0)] (by decide +kernel) rfl ?_
    refine xm_if_ne (pc := 23) (off := 16) (tgt := 39) (by decide +kernel) (by decide) ?_ ?_
    · refine xm_blk0 (pc' := 47) (lv' := [(0, .ref 0), (1, .int a1), (2, .int a2), (3, .int ((u.1 19 1) &&& (a2 ^^^ (-1 : Int32)))), (4, .long (-1 : Int64)), (6, .int (0 : Int32))]) (st' := []) (u' := (xU u)) [(.ldc2_w 356, (0, 0, 662), 0, -1), (.lstore 4, (0, 0, 0), 0, 0), (.iconst 0, (0, 0, 0), 0, 0), (.istore 6, (0, 0, 0), 0, 0)] (by decide +kernel) rfl ?_
      exact go_X3_winningWays_l1_L47 N u N a1 a2 ((u.1 19 1) &&& (a2 ^^^ (-1 : Int32))) (-1 : Int64) (0 : Int32)
    · refine xm_blk0 (pc' := 32) (lv' := [(0, .ref 0), (1, .int a1), (2, .int a2), (3, .int ((u.1 19 1) &&& (a2 ^^^ (-1 : Int32))))]) (st' := [.int a2, .int (a1 - (1 : Int32)), .ref 0, .ref 0]) (u' := (xU u)) [(.aload_n 0, (0, 0, 0), 0, 0), (.aload_n 0, (0, 0, 0), 0, 0), (.iload_n 1, (0, 0, 0), 0, 0), (.iconst 1, (0, 0, 0), 1, 0), (.isub, (0, 0, 0), 0, 0), (.iload_n 2, (0, 0, 0), 0, 0)] (by decide +kernel) rfl ?_
      refine xm_Vl (pc := 32) (mz := md_X3_winningWays_l0) (idx := 253) (p1 := 648) (a := 0) (as := [.int (a1 - (1 : Int32)), .int a2]) (st := [.ref 0]) (ev_X3_winningWays_l0 N (a1 - (1 : Int32)) a2 u) mw_X3_winningWays (by decide +kernel) (by decide +kernel) (by decide) rfl rfl (by decide) rfl (Nat.le_of_ble_eq_true rfl) (fun r32 => ?_)
      refine xm_Vl (pc := 35) (mz := md_X3_waysAhead) (idx := 261) (p1 := 656) (a := 0) (as := [.long r32]) (st := []) (ev_X3_waysAhead N r32 u) mw_X3_waysAhead (by decide +kernel) (by decide +kernel) (by decide) rfl rfl (by decide) rfl (Nat.le_of_ble_eq_true rfl) (fun r35 => ?_)
      exact xm_lret (pc := 38) (by decide +kernel) rfl rfl
  · refine xm_blk0 (pc' := 6) (lv' := [(0, .ref 0), (1, .int a1), (2, .int a2)]) (st' := [.int a2, .ref 0]) (u' := (xU u)) [(.aload_n 0, (0, 0, 0), 0, 0), (.iload_n 2, (0, 0, 0), 0, 0)] (by decide +kernel) rfl ?_
    refine xm_Vl (pc := 6) (mz := md_X3_waysMeeting) (idx := 352) (p1 := 652) (a := 0) (as := [.int a2]) (st := []) (ev_X3_waysMeeting N a2 u) mw_X3_waysMeeting (by decide +kernel) (by decide +kernel) (by decide) rfl rfl (by decide) rfl (Nat.le_of_ble_eq_true rfl) (fun r6 => ?_)
    exact xm_lret (pc := 9) (by decide +kernel) rfl rfl
theorem ev_X3_winningWays_l1 (N : Nat) (a1 : Int32) (a2 : Int32) (u : xN) : ∀ r, f_X3_winningWays_l1 N a1 a2 u = some r → xEm md_X3_winningWays_l1 yX3_winningWays [.ref 0, .int a1, .int a2] (xU u) (some (.long r), (xU u)) := xm_met (res := (rsL (xU u))) (as := [.ref 0, .int a1, .int a2]) (go_X3_winningWays_l1 N a1 a2 u) (by decide) rfl (Nat.le_of_ble_eq_true rfl)
/-! NeitherBare.winningWays(II)J (0, None, None) -/
abbrev md_X3_winningWays_l2 : xMd := (cX3_winningWays, RX3, 7, some .long, 5)
def f_X3_winningWays_l2_L90 (N : Nat) (u : xN) (rec47 : Int32 → Int32 → Int32 → Int64 → Int32 → Option Int64) (v1 : Int32) (v2 : Int32) (v3 : Int32) (v4 : Int64) (v6 : Int32) : Option Int64 := rec47 v1 v2 v3 v4 (v6 + (1 : Int32))
set_option maxRecDepth 20000 in
theorem go_X3_winningWays_l2_L90 (N : Nat) (u : xN) (rec47 : Int32 → Int32 → Int32 → Int64 → Int32 → Option Int64) (h47 : ∀ (v1 : Int32) (v2 : Int32) (v3 : Int32) (v4 : Int64) (v6 : Int32), xGm md_X3_winningWays_l2 (rsL (xU u)) (rec47 v1 v2 v3 v4 v6) 47 [(0, .ref 0), (1, .int v1), (2, .int v2), (3, .int v3), (4, .long v4), (6, .int v6)] [] (xU u)) (v1 : Int32) (v2 : Int32) (v3 : Int32) (v4 : Int64) (v6 : Int32) : xGm md_X3_winningWays_l2 (rsL (xU u)) (f_X3_winningWays_l2_L90 N u rec47 v1 v2 v3 v4 v6) 90 [(0, .ref 0), (1, .int v1), (2, .int v2), (3, .int v3), (4, .long v4), (6, .int v6)] [] (xU u) := by
  unfold f_X3_winningWays_l2_L90
  refine xm_blk0 (pc' := 93) (lv' := [(0, .ref 0), (1, .int v1), (2, .int v2), (3, .int v3), (4, .long v4), (6, .int (v6 + (1 : Int32)))]) (st' := []) (u' := (xU u)) [(.iinc 6 1, (0, 0, 0), 1, 0)] (by decide +kernel) rfl ?_
  refine xm_goto (pc := 93) (off := -46) (tgt := 47) (by decide +kernel) (by decide) ?_
  exact h47 v1 v2 v3 v4 (v6 + (1 : Int32))
def f_X3_winningWays_l2_L47b (N : Nat) (u : xN) (rec47 : Int32 → Int32 → Int32 → Int64 → Int32 → Option Int64) (v1 : Int32) (v2 : Int32) (v3 : Int32) (v4 : Int64) (v6 : Int32) : Option Int64 := if (u.1 7 1) ≤ v6 then some v4 else Option.bind (f_X3_hasBit v3 v6) (fun r62 => if r62 = (0 : Int32) then f_X3_winningWays_l2_L90 N u rec47 v1 v2 v3 v4 v6 else Option.bind (f_X3_winningWays_l1 N (v1 - (1 : Int32)) (v2 ||| ((1 : Int32) <<< (v6 &&& 31))) u) (fun r81 => Option.bind (f_X3_waysAhead N r81 u) (fun r84 => f_X3_winningWays_l2_L90 N u rec47 v1 v2 v3 (v4 &&& r84) v6)))
set_option maxRecDepth 20000 in
theorem go_X3_winningWays_l2_L47b (N : Nat) (u : xN) (rec47 : Int32 → Int32 → Int32 → Int64 → Int32 → Option Int64) (h47 : ∀ (v1 : Int32) (v2 : Int32) (v3 : Int32) (v4 : Int64) (v6 : Int32), xGm md_X3_winningWays_l2 (rsL (xU u)) (rec47 v1 v2 v3 v4 v6) 47 [(0, .ref 0), (1, .int v1), (2, .int v2), (3, .int v3), (4, .long v4), (6, .int v6)] [] (xU u)) (v1 : Int32) (v2 : Int32) (v3 : Int32) (v4 : Int64) (v6 : Int32) : xGm md_X3_winningWays_l2 (rsL (xU u)) (f_X3_winningWays_l2_L47b N u rec47 v1 v2 v3 v4 v6) 47 [(0, .ref 0), (1, .int v1), (2, .int v2), (3, .int v3), (4, .long v4), (6, .int v6)] [] (xU u) := by
  unfold f_X3_winningWays_l2_L47b
  refine xm_blk0 (pc' := 56) (lv' := [(0, .ref 0), (1, .int v1), (2, .int v2), (3, .int v3), (4, .long v4), (6, .int v6)]) (st' := [.int (u.1 7 1), .int v6]) (u' := (xU u)) [(.iload 6, (0, 0, 0), 0, 0), (.aload_n 0, (0, 0, 0), 0, 0), (.getfield 24, (3, 2, 208), 0, 0), (.getfield 113, (0, 1, 145), 0, 0)] (by decide +kernel) rfl ?_
  refine xm_icmp_ge (pc := 56) (off := 40) (tgt := 96) (by decide +kernel) (by decide) ?_ ?_
  · refine xm_blk0 (pc' := 98) (lv' := [(0, .ref 0), (1, .int v1), (2, .int v2), (3, .int v3), (4, .long v4), (6, .int v6)]) (st' := [.long v4]) (u' := (xU u)) [(.lload 4, (0, 0, 0), 0, 0)] (by decide +kernel) rfl ?_
    exact xm_lret (pc := 98) (by decide +kernel) rfl rfl
  · refine xm_blk0 (pc' := 62) (lv' := [(0, .ref 0), (1, .int v1), (2, .int v2), (3, .int v3), (4, .long v4), (6, .int v6)]) (st' := [.int v6, .int v3]) (u' := (xU u)) [(.iload_n 3, (0, 0, 0), 0, 0), (.iload 6, (0, 0, 0), 0, 0)] (by decide +kernel) rfl ?_
    refine xm_Si (pc := 62) (mz := md_X3_hasBit) (idx := 241) (p1 := 612) (as := [.int v3, .int v6]) (st := []) (ev_X3_hasBit v3 v6 u) mw_X3_hasBit (by decide +kernel) (by decide +kernel) (by decide) rfl (Nat.le_of_ble_eq_true rfl) (fun r62 => ?_)
    refine xm_if_eq (pc := 65) (off := 25) (tgt := 90) (by decide +kernel) (by decide) ?_ ?_
    · exact go_X3_winningWays_l2_L90 N u rec47 h47 v1 v2 v3 v4 v6
    · refine xm_blk0 (pc' := 81) (lv' := [(0, .ref 0), (1, .int v1), (2, .int v2), (3, .int v3), (4, .long v4), (6, .int v6)]) (st' := [.int (v2 ||| ((1 : Int32) <<< (v6 &&& 31))), .int (v1 - (1 : Int32)), .ref 0, .ref 0, .long v4]) (u' := (xU u)) [(.lload 4, (0, 0, 0), 0, 0), (.aload_n 0, (0, 0, 0), 0, 0), (.aload_n 0, (0, 0, 0), 0, 0), (.iload_n 1, (0, 0, 0), 0, 0), (.iconst 1, (0, 0, 0), 1, 0), (.isub, (0, 0, 0), 0, 0), (.iload_n 2, (0, 0, 0), 0, 0), (.iconst 1, (0, 0, 0), 1, 0), (.iload 6, (0, 0, 0), 0, 0), (.ishl, (0, 0, 0), 0, 0), (.ior, (0, 0, 0), 0, 0)] (by decide +kernel) rfl ?_
      refine xm_Vl (pc := 81) (mz := md_X3_winningWays_l1) (idx := 253) (p1 := 648) (a := 0) (as := [.int (v1 - (1 : Int32)), .int (v2 ||| ((1 : Int32) <<< (v6 &&& 31)))]) (st := [.ref 0, .long v4]) (ev_X3_winningWays_l1 N (v1 - (1 : Int32)) (v2 ||| ((1 : Int32) <<< (v6 &&& 31))) u) mw_X3_winningWays (by decide +kernel) (by decide +kernel) (by decide) rfl rfl (by decide) rfl (Nat.le_of_ble_eq_true rfl) (fun r81 => ?_)
      refine xm_Vl (pc := 84) (mz := md_X3_waysAhead) (idx := 261) (p1 := 656) (a := 0) (as := [.long r81]) (st := [.long v4]) (ev_X3_waysAhead N r81 u) mw_X3_waysAhead (by decide +kernel) (by decide +kernel) (by decide) rfl rfl (by decide) rfl (Nat.le_of_ble_eq_true rfl) (fun r84 => ?_)
      refine xm_blk0 (pc' := 90) (lv' := [(0, .ref 0), (1, .int v1), (2, .int v2), (3, .int v3), (4, .long (v4 &&& r84)), (6, .int v6)]) (st' := []) (u' := (xU u)) [(.land, (0, 0, 0), 0, 0), (.lstore 4, (0, 0, 0), 0, 0)] (by decide +kernel) rfl ?_
      exact go_X3_winningWays_l2_L90 N u rec47 h47 v1 v2 v3 (v4 &&& r84) v6
def f_X3_winningWays_l2_L47 (N : Nat) (u : xN) : Nat → Int32 → Int32 → Int32 → Int64 → Int32 → Option Int64
  | 0 => fun _ _ _ _ _ => none
  | n + 1 => fun v1 v2 v3 v4 v6 => f_X3_winningWays_l2_L47b N u (f_X3_winningWays_l2_L47 N u n) v1 v2 v3 v4 v6
theorem go_X3_winningWays_l2_L47 (N : Nat) (u : xN) : ∀ (n : Nat) (v1 : Int32) (v2 : Int32) (v3 : Int32) (v4 : Int64) (v6 : Int32), xGm md_X3_winningWays_l2 (rsL (xU u)) (f_X3_winningWays_l2_L47 N u n v1 v2 v3 v4 v6) 47 [(0, .ref 0), (1, .int v1), (2, .int v2), (3, .int v3), (4, .long v4), (6, .int v6)] [] (xU u) := by
  intro n
  induction n with
  | zero => intro v1 v2 v3 v4 v6; exact xm_none
  | succ n ih => intro v1 v2 v3 v4 v6; exact go_X3_winningWays_l2_L47b N u _ ih v1 v2 v3 v4 v6
def f_X3_winningWays_l2 (N : Nat) (a1 : Int32) (a2 : Int32) (u : xN) : Option Int64 := if (0 : Int32) < a1 then (if ((u.1 19 1) &&& (a2 ^^^ (-1 : Int32))) = (0 : Int32) then Option.bind (f_X3_winningWays_l1 N (a1 - (1 : Int32)) a2 u) (fun r32 => Option.bind (f_X3_waysAhead N r32 u) (fun r35 => some r35)) else f_X3_winningWays_l2_L47 N u N a1 a2 ((u.1 19 1) &&& (a2 ^^^ (-1 : Int32))) (-1 : Int64) (0 : Int32)) else Option.bind (f_X3_waysMeeting N a2 u) (fun r6 => some r6)
set_option maxRecDepth 20000 in
theorem go_X3_winningWays_l2 (N : Nat) (a1 : Int32) (a2 : Int32) (u : xN) : xGm md_X3_winningWays_l2 (rsL (xU u)) (f_X3_winningWays_l2 N a1 a2 u) 0 [(0, .ref 0), (1, .int a1), (2, .int a2)] [] (xU u) := by
  unfold f_X3_winningWays_l2
  refine xm_blk0 (pc' := 1) (lv' := [(0, .ref 0), (1, .int a1), (2, .int a2)]) (st' := [.int a1]) (u' := (xU u)) [(.iload_n 1, (0, 0, 0), 0, 0)] (by decide +kernel) rfl ?_
  refine xm_if_gt (pc := 1) (off := 9) (tgt := 10) (by decide +kernel) (by decide) ?_ ?_
  · refine xm_blk0 (pc' := 23) (lv' := [(0, .ref 0), (1, .int a1), (2, .int a2), (3, .int ((u.1 19 1) &&& (a2 ^^^ (-1 : Int32))))]) (st' := [.int ((u.1 19 1) &&& (a2 ^^^ (-1 : Int32)))]) (u' := (xU u)) [(.aload_n 0, (0, 0, 0), 0, 0), (.getfield 34, (3, 4, 210), 0, 0), (.getfield 183, (2, 1, 181), 0, 0), (.iload_n 2, (0, 0, 0), 0, 0), (.iconst (-1), (0, 0, 0), -1, 0), (.ixor, (0, 0, 0), 0, 0), (.iand, (0, 0, 0), 0, 0), (.istore_n 3, (0, 0, 0), 0, 0), (.iload_n 3, (0, 0, 0), 0, 0)] (by decide +kernel) rfl ?_
    refine xm_if_ne (pc := 23) (off := 16) (tgt := 39) (by decide +kernel) (by decide) ?_ ?_
    · refine xm_blk0 (pc' := 47) (lv' := [(0, .ref 0), (1, .int a1), (2, .int a2), (3, .int ((u.1 19 1) &&& (a2 ^^^ (-1 : Int32)))), (4, .long (-1 : Int64)), (6, .int (0 : Int32))]) (st' := []) (u' := (xU u)) [(.ldc2_w 356, (0, 0, 662), 0, -1), (.lstore 4, (0, 0, 0), 0, 0), (.iconst 0, (0, 0, 0), 0, 0), (.istore 6, (0, 0, 0), 0, 0)] (by decide +kernel) rfl ?_
      exact go_X3_winningWays_l2_L47 N u N a1 a2 ((u.1 19 1) &&& (a2 ^^^ (-1 : Int32))) (-1 : Int64) (0 : Int32)
    · refine xm_blk0 (pc' := 32) (lv' := [(0, .ref 0), (1, .int a1), (2, .int a2), (3, .int ((u.1 19 1) &&& (a2 ^^^ (-1 : Int32))))]) (st' := [.int a2, .int (a1 - (1 : Int32)), .ref 0, .ref 0]) (u' := (xU u)) [(.aload_n 0, (0, 0, 0), 0, 0), (.aload_n 0, (0, 0, 0), 0, 0), (.iload_n 1, (0, 0, 0), 0, 0), (.iconst 1, (0, 0, 0), 1, 0), (.isub, (0, 0, 0), 0, 0), (.iload_n 2, (0, 0, 0), 0, 0)] (by decide +kernel) rfl ?_
      refine xm_Vl (pc := 32) (mz := md_X3_winningWays_l1) (idx := 253) (p1 := 648) (a := 0) (as := [.int (a1 - (1 : Int32)), .int a2]) (st := [.ref 0]) (ev_X3_winningWays_l1 N (a1 - (1 : Int32)) a2 u) mw_X3_winningWays (by decide +kernel) (by decide +kernel) (by decide) rfl rfl (by decide) rfl (Nat.le_of_ble_eq_true rfl) (fun r32 => ?_)
      refine xm_Vl (pc := 35) (mz := md_X3_waysAhead) (idx := 261) (p1 := 656) (a := 0) (as := [.long r32]) (st := []) (ev_X3_waysAhead N r32 u) mw_X3_waysAhead (by decide +kernel) (by decide +kernel) (by decide) rfl rfl (by decide) rfl (Nat.le_of_ble_eq_true rfl) (fun r35 => ?_)
      exact xm_lret (pc := 38) (by decide +kernel) rfl rfl
  · refine xm_blk0 (pc' := 6) (lv' := [(0, .ref 0), (1, .int a1), (2, .int a2)]) (st' := [.int a2, .ref 0]) (u' := (xU u)) [(.aload_n 0, (0, 0, 0), 0, 0), (.iload_n 2, (0, 0, 0), 0, 0)] (by decide +kernel) rfl ?_
    refine xm_Vl (pc := 6) (mz := md_X3_waysMeeting) (idx := 352) (p1 := 652) (a := 0) (as := [.int a2]) (st := []) (ev_X3_waysMeeting N a2 u) mw_X3_waysMeeting (by decide +kernel) (by decide +kernel) (by decide) rfl rfl (by decide) rfl (Nat.le_of_ble_eq_true rfl) (fun r6 => ?_)
    exact xm_lret (pc := 9) (by decide +kernel) rfl rfl
theorem ev_X3_winningWays_l2 (N : Nat) (a1 : Int32) (a2 : Int32) (u : xN) : ∀ r, f_X3_winningWays_l2 N a1 a2 u = some r → xEm md_X3_winningWays_l2 yX3_winningWays [.ref 0, .int a1, .int a2] (xU u) (some (.long r), (xU u)) := xm_met (res := (rsL (xU u))) (as := [.ref 0, .int a1, .int a2]) (go_X3_winningWays_l2 N a1 a2 u) (by decide) rfl (Nat.le_of_ble_eq_true rfl)
/-! NeitherBare.winningWays(II)J (0, None, None) -/
abbrev md_X3_winningWays_l3 : xMd := (cX3_winningWays, RX3, 7, some .long, 6)
def f_X3_winningWays_l3_L90 (N : Nat) (u : xN) (rec47 : Int32 → Int32 → Int32 → Int64 → Int32 → Option Int64) (v1 : Int32) (v2 : Int32) (v3 : Int32) (v4 : Int64) (v6 : Int32) : Option Int64 := rec47 v1 v2 v3 v4 (v6 + (1 : Int32))
set_option maxRecDepth 20000 in
theorem go_X3_winningWays_l3_L90 (N : Nat) (u : xN) (rec47 : Int32 → Int32 → Int32 → Int64 → Int32 → Option Int64) (h47 : ∀ (v1 : Int32) (v2 : Int32) (v3 : Int32) (v4 : Int64) (v6 : Int32), xGm md_X3_winningWays_l3 (rsL (xU u)) (rec47 v1 v2 v3 v4 v6) 47 [(0, .ref 0), (1, .int v1), (2, .int v2), (3, .int v3), (4, .long v4), (6, .int v6)] [] (xU u)) (v1 : Int32) (v2 : Int32) (v3 : Int32) (v4 : Int64) (v6 : Int32) : xGm md_X3_winningWays_l3 (rsL (xU u)) (f_X3_winningWays_l3_L90 N u rec47 v1 v2 v3 v4 v6) 90 [(0, .ref 0), (1, .int v1), (2, .int v2), (3, .int v3), (4, .long v4), (6, .int v6)] [] (xU u) := by
  unfold f_X3_winningWays_l3_L90
  refine xm_blk0 (pc' := 93) (lv' := [(0, .ref 0), (1, .int v1), (2, .int v2), (3, .int v3), (4, .long v4), (6, .int (v6 + (1 : Int32)))]) (st' := []) (u' := (xU u)) [(.iinc 6 1, (0, 0, 0), 1, 0)] (by decide +kernel) rfl ?_
  refine xm_goto (pc := 93) (off := -46) (tgt := 47) (by decide +kernel) (by decide) ?_
  exact h47 v1 v2 v3 v4 (v6 + (1 : Int32))
def f_X3_winningWays_l3_L47b (N : Nat) (u : xN) (rec47 : Int32 → Int32 → Int32 → Int64 → Int32 → Option Int64) (v1 : Int32) (v2 : Int32) (v3 : Int32) (v4 : Int64) (v6 : Int32) : Option Int64 := if (u.1 7 1) ≤ v6 then some v4 else Option.bind (f_X3_hasBit v3 v6) (fun r62 => if r62 = (0 : Int32) then f_X3_winningWays_l3_L90 N u rec47 v1 v2 v3 v4 v6 else Option.bind (f_X3_winningWays_l2 N (v1 - (1 : Int32)) (v2 ||| ((1 : Int32) <<< (v6 &&& 31))) u) (fun r81 => Option.bind (f_X3_waysAhead N r81 u) (fun r84 => f_X3_winningWays_l3_L90 N u rec47 v1 v2 v3 (v4 &&& r84) v6)))
set_option maxRecDepth 20000 in
theorem go_X3_winningWays_l3_L47b (N : Nat) (u : xN) (rec47 : Int32 → Int32 → Int32 → Int64 → Int32 → Option Int64) (h47 : ∀ (v1 : Int32) (v2 : Int32) (v3 : Int32) (v4 : Int64) (v6 : Int32), xGm md_X3_winningWays_l3 (rsL (xU u)) (rec47 v1 v2 v3 v4 v6) 47 [(0, .ref 0), (1, .int v1), (2, .int v2), (3, .int v3), (4, .long v4), (6, .int v6)] [] (xU u)) (v1 : Int32) (v2 : Int32) (v3 : Int32) (v4 : Int64) (v6 : Int32) : xGm md_X3_winningWays_l3 (rsL (xU u)) (f_X3_winningWays_l3_L47b N u rec47 v1 v2 v3 v4 v6) 47 [(0, .ref 0), (1, .int v1), (2, .int v2), (3, .int v3), (4, .long v4), (6, .int v6)] [] (xU u) := by
  unfold f_X3_winningWays_l3_L47b
  refine xm_blk0 (pc' := 56) (lv' := [(0, .ref 0), (1, .int v1), (2, .int v2), (3, .int v3), (4, .long v4), (6, .int v6)]) (st' := [.int (u.1 7 1), .int v6]) (u' := (xU u)) [(.iload 6, (0, 0, 0), 0, 0), (.aload_n 0, (0, 0, 0), 0, 0), (.getfield 24, (3, 2, 208), 0, 0), (.getfield 113, (0, 1, 145), 0, 0)] (by decide +kernel) rfl ?_
  refine xm_icmp_ge (pc := 56) (off := 40) (tgt := 96) (by decide +kernel) (by decide) ?_ ?_
  · refine xm_blk0 (pc' := 98) (lv' := [(0, .ref 0), (1, .int v1), (2, .int v2), (3, .int v3), (4, .long v4), (6, .int v6)]) (st' := [.long v4]) (u' := (xU u)) [(.lload 4, (0, 0, 0), 0, 0)] (by decide +kernel) rfl ?_
    exact xm_lret (pc := 98) (by decide +kernel) rfl rfl
  · refine xm_blk0 (pc' := 62) (lv' := [(0, .ref 0), (1, .int v1), (2, .int v2), (3, .int v3), (4, .long v4), (6, .int v6)]) (st' := [.int v6, .int v3]) (u' := (xU u)) [(.iload_n 3, (0, 0, 0), 0, 0), (.iload 6, (0, 0, 0), 0, 0)] (by decide +kernel) rfl ?_
    refine xm_Si (pc := 62) (mz := md_X3_hasBit) (idx := 241) (p1 := 612) (as := [.int v3, .int v6]) (st := []) (ev_X3_hasBit v3 v6 u) mw_X3_hasBit (by decide +kernel) (by decide +kernel) (by decide) rfl (Nat.le_of_ble_eq_true rfl) (fun r62 => ?_)
    refine xm_if_eq (pc := 65) (off := 25) (tgt := 90) (by decide +kernel) (by decide) ?_ ?_
    · exact go_X3_winningWays_l3_L90 N u rec47 h47 v1 v2 v3 v4 v6
    · refine xm_blk0 (pc' := 81) (lv' := [(0, .ref 0), (1, .int v1), (2, .int v2), (3, .int v3), (4, .long v4), (6, .int v6)]) (st' := [.int (v2 ||| ((1 : Int32) <<< (v6 &&& 31))), .int (v1 - (1 : Int32)), .ref 0, .ref 0, .long v4]) (u' := (xU u)) [(.lload 4, (0, 0, 0), 0, 0), (.aload_n 0, (0, 0, 0), 0, 0), (.aload_n 0, (0, 0, 0), 0, 0), (.iload_n 1, (0, 0, 0), 0, 0), (.iconst 1, (0, 0, 0), 1, 0), (.isub, (0, 0, 0), 0, 0), (.iload_n 2, (0, 0, 0), 0, 0), (.iconst 1, (0, 0, 0), 1, 0), (.iload 6, (0, 0, 0), 0, 0), (.ishl, (0, 0, 0), 0, 0), (.ior, (0, 0, 0), 0, 0)] (by decide +kernel) rfl ?_
      refine xm_Vl (pc := 81) (mz := md_X3_winningWays_l2) (idx := 253) (p1 := 648) (a := 0) (as := [.int (v1 - (1 : Int32)), .int (v2 ||| ((1 : Int32) <<< (v6 &&& 31)))]) (st := [.ref 0, .long v4]) (ev_X3_winningWays_l2 N (v1 - (1 : Int32)) (v2 ||| ((1 : Int32) <<< (v6 &&& 31))) u) mw_X3_winningWays (by decide +kernel) (by decide +kernel) (by decide) rfl rfl (by decide) rfl (Nat.le_of_ble_eq_true rfl) (fun r81 => ?_)
      refine xm_Vl (pc := 84) (mz := md_X3_waysAhead) (idx := 261) (p1 := 656) (a := 0) (as := [.long r81]) (st := [.long v4]) (ev_X3_waysAhead N r81 u) mw_X3_waysAhead (by decide +kernel) (by decide +kernel) (by decide) rfl rfl (by decide) rfl (Nat.le_of_ble_eq_true rfl) (fun r84 => ?_)
      refine xm_blk0 (pc' := 90) (lv' := [(0, .ref 0), (1, .int v1), (2, .int v2), (3, .int v3), (4, .long (v4 &&& r84)), (6, .int v6)]) (st' := []) (u' := (xU u)) [(.land, (0, 0, 0), 0, 0), (.lstore 4, (0, 0, 0), 0, 0)] (by decide +kernel) rfl ?_
      exact go_X3_winningWays_l3_L90 N u rec47 h47 v1 v2 v3 (v4 &&& r84) v6
def f_X3_winningWays_l3_L47 (N : Nat) (u : xN) : Nat → Int32 → Int32 → Int32 → Int64 → Int32 → Option Int64
  | 0 => fun _ _ _ _ _ => none
  | n + 1 => fun v1 v2 v3 v4 v6 => f_X3_winningWays_l3_L47b N u (f_X3_winningWays_l3_L47 N u n) v1 v2 v3 v4 v6
theorem go_X3_winningWays_l3_L47 (N : Nat) (u : xN) : ∀ (n : Nat) (v1 : Int32) (v2 : Int32) (v3 : Int32) (v4 : Int64) (v6 : Int32), xGm md_X3_winningWays_l3 (rsL (xU u)) (f_X3_winningWays_l3_L47 N u n v1 v2 v3 v4 v6) 47 [(0, .ref 0), (1, .int v1), (2, .int v2), (3, .int v3), (4, .long v4), (6, .int v6)] [] (xU u) := by
  intro n
  induction n with
  | zero => intro v1 v2 v3 v4 v6; exact xm_none
  | succ n ih => intro v1 v2 v3 v4 v6; exact go_X3_winningWays_l3_L47b N u _ ih v1 v2 v3 v4 v6
def f_X3_winningWays_l3 (N : Nat) (a1 : Int32) (a2 : Int32) (u : xN) : Option Int64 := if (0 : Int32) < a1 then (if ((u.1 19 1) &&& (a2 ^^^ (-1 : Int32))) = (0 : Int32) then Option.bind (f_X3_winningWays_l2 N (a1 - (1 : Int32)) a2 u) (fun r32 => Option.bind (f_X3_waysAhead N r32 u) (fun r35 => some r35)) else f_X3_winningWays_l3_L47 N u N a1 a2 ((u.1 19 1) &&& (a2 ^^^ (-1 : Int32))) (-1 : Int64) (0 : Int32)) else Option.bind (f_X3_waysMeeting N a2 u) (fun r6 => some r6)
set_option maxRecDepth 20000 in
theorem go_X3_winningWays_l3 (N : Nat) (a1 : Int32) (a2 : Int32) (u : xN) : xGm md_X3_winningWays_l3 (rsL (xU u)) (f_X3_winningWays_l3 N a1 a2 u) 0 [(0, .ref 0), (1, .int a1), (2, .int a2)] [] (xU u) := by
  unfold f_X3_winningWays_l3
  refine xm_blk0 (pc' := 1) (lv' := [(0, .ref 0), (1, .int a1), (2, .int a2)]) (st' := [.int a1]) (u' := (xU u)) [(.iload_n 1, (0, 0, 0), 0, 0)] (by decide +kernel) rfl ?_
  refine xm_if_gt (pc := 1) (off := 9) (tgt := 10) (by decide +kernel) (by decide) ?_ ?_
  · refine xm_blk0 (pc' := 23) (lv' := [(0, .ref 0), (1, .int a1), (2, .int a2), (3, .int ((u.1 19 1) &&& (a2 ^^^ (-1 : Int32))))]) (st' := [.int ((u.1 19 1) &&& (a2 ^^^ (-1 : Int32)))]) (u' := (xU u)) [(.aload_n 0, (0, 0, 0), 0, 0), (.getfield 34, (3, 4, 210), 0, 0), (.getfield 183, (2, 1, 181), 0, 0), (.iload_n 2, (0, 0, 0), 0, 0), (.iconst (-1), (0, 0, 0), -1, 0), (.ixor, (0, 0, 0), 0, 0), (.iand, (0, 0, 0), 0, 0), (.istore_n 3, (0, 0, 0), 0, 0), (.iload_n 3, (0, 0, 0), 0, 0)] (by decide +kernel) rfl ?_
    refine xm_if_ne (pc := 23) (off := 16) (tgt := 39) (by decide +kernel) (by decide) ?_ ?_
    · refine xm_blk0 (pc' := 47) (lv' := [(0, .ref 0), (1, .int a1), (2, .int a2), (3, .int ((u.1 19 1) &&& (a2 ^^^ (-1 : Int32)))), (4, .long (-1 : Int64)), (6, .int (0 : Int32))]) (st' := []) (u' := (xU u)) [(.ldc2_w 356, (0, 0, 662), 0, -1), (.lstore 4, (0, 0, 0), 0, 0), (.iconst 0, (0, 0, 0), 0, 0), (.istore 6, (0, 0, 0), 0, 0)] (by decide +kernel) rfl ?_
      exact go_X3_winningWays_l3_L47 N u N a1 a2 ((u.1 19 1) &&& (a2 ^^^ (-1 : Int32))) (-1 : Int64) (0 : Int32)
    · refine xm_blk0 (pc' := 32) (lv' := [(0, .ref 0), (1, .int a1), (2, .int a2), (3, .int ((u.1 19 1) &&& (a2 ^^^ (-1 : Int32))))]) (st' := [.int a2, .int (a1 - (1 : Int32)), .ref 0, .ref 0]) (u' := (xU u)) [(.aload_n 0, (0, 0, 0), 0, 0), (.aload_n 0, (0, 0, 0), 0, 0), (.iload_n 1, (0, 0, 0), 0, 0), (.iconst 1, (0, 0, 0), 1, 0), (.isub, (0, 0, 0), 0, 0), (.iload_n 2, (0, 0, 0), 0, 0)] (by decide +kernel) rfl ?_
      refine xm_Vl (pc := 32) (mz := md_X3_winningWays_l2) (idx := 253) (p1 := 648) (a := 0) (as := [.int (a1 - (1 : Int32)), .int a2]) (st := [.ref 0]) (ev_X3_winningWays_l2 N (a1 - (1 : Int32)) a2 u) mw_X3_winningWays (by decide +kernel) (by decide +kernel) (by decide) rfl rfl (by decide) rfl (Nat.le_of_ble_eq_true rfl) (fun r32 => ?_)
      refine xm_Vl (pc := 35) (mz := md_X3_waysAhead) (idx := 261) (p1 := 656) (a := 0) (as := [.long r32]) (st := []) (ev_X3_waysAhead N r32 u) mw_X3_waysAhead (by decide +kernel) (by decide +kernel) (by decide) rfl rfl (by decide) rfl (Nat.le_of_ble_eq_true rfl) (fun r35 => ?_)
      exact xm_lret (pc := 38) (by decide +kernel) rfl rfl
  · refine xm_blk0 (pc' := 6) (lv' := [(0, .ref 0), (1, .int a1), (2, .int a2)]) (st' := [.int a2, .ref 0]) (u' := (xU u)) [(.aload_n 0, (0, 0, 0), 0, 0), (.iload_n 2, (0, 0, 0), 0, 0)] (by decide +kernel) rfl ?_
    refine xm_Vl (pc := 6) (mz := md_X3_waysMeeting) (idx := 352) (p1 := 652) (a := 0) (as := [.int a2]) (st := []) (ev_X3_waysMeeting N a2 u) mw_X3_waysMeeting (by decide +kernel) (by decide +kernel) (by decide) rfl rfl (by decide) rfl (Nat.le_of_ble_eq_true rfl) (fun r6 => ?_)
    exact xm_lret (pc := 9) (by decide +kernel) rfl rfl
theorem ev_X3_winningWays_l3 (N : Nat) (a1 : Int32) (a2 : Int32) (u : xN) : ∀ r, f_X3_winningWays_l3 N a1 a2 u = some r → xEm md_X3_winningWays_l3 yX3_winningWays [.ref 0, .int a1, .int a2] (xU u) (some (.long r), (xU u)) := xm_met (res := (rsL (xU u))) (as := [.ref 0, .int a1, .int a2]) (go_X3_winningWays_l3 N a1 a2 u) (by decide) rfl (Nat.le_of_ble_eq_true rfl)
theorem mw_X3_hasWayOfNone : xMs yX3_hasWayOfNone cX3_hasWayOfNone 2 (some .boolean) 1 := xMs_of (p1 := 665) (p2 := 664) (p3 := 92) (by decide +kernel)
/-! NeitherBare.hasWayOfNone(J)Z  -/
abbrev md_X3_hasWayOfNone : xMd := (cX3_hasWayOfNone, RX3, 2, some .boolean, 1)
def f_X3_hasWayOfNone_L13 (t0 : Int32) : Option Int32 := gdl [isb t0] (some t0)
set_option maxRecDepth 20000 in
theorem go_X3_hasWayOfNone_L13 (u : xN) (t0 : Int32) : xGm md_X3_hasWayOfNone (rsI (xU u)) (f_X3_hasWayOfNone_L13 t0) 13 [] [.int t0] (xU u) := by
  unfold f_X3_hasWayOfNone_L13
  exact xm_zret (pc := 13) (by decide +kernel) rfl rfl
def f_X3_hasWayOfNone (a0 : Int64) : Option Int32 := if (lg_cmp (a0 &&& (1 : Int64)) (1 : Int64)) = (0 : Int32) then f_X3_hasWayOfNone_L13 (1 : Int32) else f_X3_hasWayOfNone_L13 (0 : Int32)
set_option maxRecDepth 20000 in
theorem go_X3_hasWayOfNone (a0 : Int64) (u : xN) : xGm md_X3_hasWayOfNone (rsI (xU u)) (f_X3_hasWayOfNone a0) 0 [(0, .long a0)] [] (xU u) := by
  unfold f_X3_hasWayOfNone
  refine xm_blk0 (pc' := 5) (lv' := [(0, .long a0)]) (st' := [.int (lg_cmp (a0 &&& (1 : Int64)) (1 : Int64))]) (u' := (xU u)) [(.lload_n 0, (0, 0, 0), 0, 0), (.lconst 1, (0, 0, 0), 0, 1), (.land, (0, 0, 0), 0, 0), (.lconst 1, (0, 0, 0), 0, 1), (.lcmp, (0, 0, 0), 0, 0)] (by decide +kernel) rfl ?_
  refine xm_if_ne (pc := 5) (off := 7) (tgt := 12) (by decide +kernel) (by decide) ?_ ?_
  · refine xm_blk0 (pc' := 13) (lv' := [(0, .long a0)]) (st' := [.int (0 : Int32)]) (u' := (xU u)) [(.iconst 0, (0, 0, 0), 0, 0)] (by decide +kernel) rfl ?_
    refine xm_wk [] (lv' := []) rfl ?_
    exact go_X3_hasWayOfNone_L13 u (0 : Int32)
  · refine xm_blk0 (pc' := 9) (lv' := [(0, .long a0)]) (st' := [.int (1 : Int32)]) (u' := (xU u)) [(.iconst 1, (0, 0, 0), 1, 0)] (by decide +kernel) rfl ?_
    refine xm_goto (pc := 9) (off := 4) (tgt := 13) (by decide +kernel) (by decide) ?_
    refine xm_wk [] (lv' := []) rfl ?_
    exact go_X3_hasWayOfNone_L13 u (1 : Int32)
theorem ev_X3_hasWayOfNone (a0 : Int64) (u : xN) : ∀ r, f_X3_hasWayOfNone a0 = some r → xEm md_X3_hasWayOfNone yX3_hasWayOfNone [.long a0] (xU u) (some (.int r), (xU u)) := xm_met (res := (rsI (xU u))) (as := [.long a0]) (go_X3_hasWayOfNone a0 u) (by decide) rfl (Nat.le_of_ble_eq_true rfl)
theorem mw_X3_game : xMv yX3_game cX3_game 2 (some .int) 1 := xMv_of (p1 := 647) (p2 := 645) (p3 := 92) (p4 := 646) (by decide +kernel)
/-! NeitherBare.game(I)I (0, None) -/
abbrev md_X3_game : xMd := (cX3_game, RX3, 2, some .int, 7)
def f_X3_game_L9 (N : Nat) (u : xN) : Option (Int32 × xN) := some ((-1 : Int32), u)
set_option maxRecDepth 20000 in
theorem go_X3_game_L9 (N : Nat) (u : xN) : xGm md_X3_game rsM (f_X3_game_L9 N u) 9 [] [] (xU u) := by
  unfold f_X3_game_L9
  refine xm_blk0 (pc' := 10) (lv' := []) (st' := [.int (-1 : Int32)]) (u' := (xU u)) [(.iconst (-1), (0, 0, 0), -1, 0)] (by decide +kernel) rfl ?_
  exact xm_iret (pc := 10) (by decide +kernel) rfl rfl
def f_X3_game_L52 (N : Nat) (t0 : Int32) (u : xN) : Option (Int32 × xN) := some (t0, u)
set_option maxRecDepth 20000 in
theorem go_X3_game_L52 (N : Nat) (t0 : Int32) (u : xN) : xGm md_X3_game rsM (f_X3_game_L52 N t0 u) 52 [] [.int t0] (xU u) := by
  unfold f_X3_game_L52
  exact xm_iret (pc := 52) (by decide +kernel) rfl rfl
def f_X3_game (N : Nat) (a1 : Int32) (u : xN) : Option (Int32 × xN) := if a1 < (0 : Int32) then f_X3_game_L9 N u else if a1 ≤ (3 : Int32) then (if (u.1 7 0) = (0 : Int32) then some ((-4 : Int32), u) else Option.bind (f_X3_judgeWays_20 N u) (fun r32 => Option.bind (f_X3_winningWays_l3 N a1 (0 : Int32) r32) (fun r38 => Option.bind (f_X3_hasWayOfNone r38) (fun r41 => if r41 = (0 : Int32) then f_X3_game_L52 N (0 : Int32) r32 else f_X3_game_L52 N (1 : Int32) r32)))) else f_X3_game_L9 N u
set_option maxRecDepth 20000 in
theorem go_X3_game (N : Nat) (a1 : Int32) (u : xN) : xGm md_X3_game rsM (f_X3_game N a1 u) 0 [(0, .ref 0), (1, .int a1)] [] (xU u) := by
  unfold f_X3_game
  refine xm_blk0 (pc' := 1) (lv' := [(0, .ref 0), (1, .int a1)]) (st' := [.int a1]) (u' := (xU u)) [(.iload_n 1, (0, 0, 0), 0, 0)] (by decide +kernel) rfl ?_
  refine xm_if_lt (pc := 1) (off := 8) (tgt := 9) (by decide +kernel) (by decide) ?_ ?_
  · refine xm_wk [] (lv' := []) rfl ?_
    exact go_X3_game_L9 N u
  · refine xm_blk0 (pc' := 6) (lv' := [(0, .ref 0), (1, .int a1)]) (st' := [.int (3 : Int32), .int a1]) (u' := (xU u)) [(.iload_n 1, (0, 0, 0), 0, 0), (.iconst 3, (0, 0, 0), 3, 0)] (by decide +kernel) rfl ?_
    refine xm_icmp_le (pc := 6) (off := 5) (tgt := 11) (by decide +kernel) (by decide) ?_ ?_
    · refine xm_blk0 (pc' := 18) (lv' := [(0, .ref 0), (1, .int a1)]) (st' := [.int (u.1 7 0)]) (u' := (xU u)) [(.aload_n 0, (0, 0, 0), 0, 0), (.getfield 24, (3, 2, 208), 0, 0), (.getfield 119, (0, 0, 143), 0, 0)] (by decide +kernel) rfl ?_
      refine xm_if_ne (pc := 18) (off := 6) (tgt := 24) (by decide +kernel) (by decide) ?_ ?_
      · refine xm_blk0 (pc' := 32) (lv' := [(0, .ref 0), (1, .int a1)]) (st' := [.ref 20, .ref 0]) (u' := (xU u)) [(.aload_n 0, (0, 0, 0), 0, 0), (.aload_n 0, (0, 0, 0), 0, 0), (.getfield 34, (3, 4, 210), 0, 0), (.getfield 170, (2, 3, 185), 0, 0)] (by decide +kernel) rfl ?_
        refine xm_Vv (pc := 32) (mz := md_X3_judgeWays_20) (idx := 227) (p1 := 583) (a := 0) (as := [.ref 20]) (st := []) (ev_X3_judgeWays_20 N u) mw_X3_judgeWays (by decide +kernel) (by decide +kernel) (by decide) rfl rfl (by decide) rfl (Nat.le_of_ble_eq_true rfl) (fun r32 => ?_)
        refine xm_blk0 (pc' := 38) (lv' := [(0, .ref 0), (1, .int a1)]) (st' := [.int (0 : Int32), .int a1, .ref 0]) (u' := (xU r32)) [(.aload_n 0, (0, 0, 0), 0, 0), (.iload_n 1, (0, 0, 0), 0, 0), (.iconst 0, (0, 0, 0), 0, 0)] (by decide +kernel) rfl ?_
        refine xm_Vl (pc := 38) (mz := md_X3_winningWays_l3) (idx := 253) (p1 := 648) (a := 0) (as := [.int a1, .int (0 : Int32)]) (st := []) (ev_X3_winningWays_l3 N a1 (0 : Int32) r32) mw_X3_winningWays (by decide +kernel) (by decide +kernel) (by decide) rfl rfl (by decide) rfl (Nat.le_of_ble_eq_true rfl) (fun r38 => ?_)
        refine xm_Si (pc := 41) (mz := md_X3_hasWayOfNone) (idx := 257) (p1 := 663) (as := [.long r38]) (st := []) (ev_X3_hasWayOfNone r38 r32) mw_X3_hasWayOfNone (by decide +kernel) (by decide +kernel) (by decide) rfl (Nat.le_of_ble_eq_true rfl) (fun r41 => ?_)
        refine xm_if_eq (pc := 44) (off := 7) (tgt := 51) (by decide +kernel) (by decide) ?_ ?_
        · refine xm_blk0 (pc' := 52) (lv' := [(0, .ref 0), (1, .int a1)]) (st' := [.int (0 : Int32)]) (u' := (xU r32)) [(.iconst 0, (0, 0, 0), 0, 0)] (by decide +kernel) rfl ?_
          refine xm_wk [] (lv' := []) rfl ?_
          exact go_X3_game_L52 N (0 : Int32) r32
        · refine xm_blk0 (pc' := 48) (lv' := [(0, .ref 0), (1, .int a1)]) (st' := [.int (1 : Int32)]) (u' := (xU r32)) [(.iconst 1, (0, 0, 0), 1, 0)] (by decide +kernel) rfl ?_
          refine xm_goto (pc := 48) (off := 4) (tgt := 52) (by decide +kernel) (by decide) ?_
          refine xm_wk [] (lv' := []) rfl ?_
          exact go_X3_game_L52 N (1 : Int32) r32
      · refine xm_blk0 (pc' := 23) (lv' := [(0, .ref 0), (1, .int a1)]) (st' := [.int (-4 : Int32)]) (u' := (xU u)) [(.bipush (-4), (0, 0, 0), -4, 0)] (by decide +kernel) rfl ?_
        exact xm_iret (pc := 23) (by decide +kernel) rfl rfl
    · refine xm_wk [] (lv' := []) rfl ?_
      exact go_X3_game_L9 N u
theorem ev_X3_game (N : Nat) (a1 : Int32) (u : xN) : ∀ r, f_X3_game N a1 u = some r → xEm md_X3_game yX3_game [.ref 0, .int a1] (xU u) (some (.int r.1), xU r.2) := xm_met (res := rsM) (as := [.ref 0, .int a1]) (go_X3_game N a1 u) (by decide) rfl (Nat.le_of_ble_eq_true rfl)
theorem mw_X3_names : xMv yX3_names cX3_names 3 (some .int) 1 := xMv_of (p1 := 669) (p2 := 667) (p3 := 92) (p4 := 668) (by decide +kernel)
/-! NeitherBare.names(I)I (0, None) -/
abbrev md_X3_names : xMd := (cX3_names, RX3, 3, some .int, 7)
def f_X3_names_L10 (N : Nat) (u : xN) : Option (Int32 × xN) := some ((-1 : Int32), u)
set_option maxRecDepth 20000 in
theorem go_X3_names_L10 (N : Nat) (u : xN) : xGm md_X3_names rsM (f_X3_names_L10 N u) 10 [] [] (xU u) := by
  unfold f_X3_names_L10
  refine xm_blk0 (pc' := 11) (lv' := []) (st' := [.int (-1 : Int32)]) (u' := (xU u)) [(.iconst (-1), (0, 0, 0), -1, 0)] (by decide +kernel) rfl ?_
  exact xm_iret (pc := 11) (by decide +kernel) rfl rfl
def f_X3_names_L82 (N : Nat) (rec38 : Int32 → Int32 → xN → Option (Int32 × xN)) (v1 : Int32) (v2 : Int32) (u : xN) : Option (Int32 × xN) := rec38 v1 (v2 + (1 : Int32)) u
set_option maxRecDepth 20000 in
theorem go_X3_names_L82 (N : Nat) (rec38 : Int32 → Int32 → xN → Option (Int32 × xN)) (h38 : ∀ (v1 : Int32) (v2 : Int32) (u : xN), xGm md_X3_names rsM (rec38 v1 v2 u) 38 [(0, .ref 0), (1, .int v1), (2, .int v2)] [] (xU u)) (v1 : Int32) (v2 : Int32) (u : xN) : xGm md_X3_names rsM (f_X3_names_L82 N rec38 v1 v2 u) 82 [(0, .ref 0), (1, .int v1), (2, .int v2)] [] (xU u) := by
  unfold f_X3_names_L82
  refine xm_blk0 (pc' := 85) (lv' := [(0, .ref 0), (1, .int v1), (2, .int (v2 + (1 : Int32)))]) (st' := []) (u' := (xU u)) [(.iinc 2 1, (0, 0, 0), 1, 0)] (by decide +kernel) rfl ?_
  refine xm_goto (pc := 85) (off := -47) (tgt := 38) (by decide +kernel) (by decide) ?_
  exact h38 v1 (v2 + (1 : Int32)) u
def f_X3_names_L38b (N : Nat) (rec38 : Int32 → Int32 → xN → Option (Int32 × xN)) (v1 : Int32) (v2 : Int32) (u : xN) : Option (Int32 × xN) := if (u.1 7 1) ≤ v2 then some ((-9 : Int32), u) else Option.bind (f_X2_isOn_19 v2 u) (fun r54 => if r54 = (0 : Int32) then f_X3_names_L82 N rec38 v1 v2 u else Option.bind (f_X3_winningWays_l3 N (v1 - (1 : Int32)) ((1 : Int32) <<< (v2 &&& 31)) u) (fun r68 => Option.bind (f_X3_waysAhead N r68 u) (fun r71 => Option.bind (f_X3_hasWayOfNone r71) (fun r74 => if r74 = (0 : Int32) then some (v2, u) else f_X3_names_L82 N rec38 v1 v2 u))))
set_option maxRecDepth 20000 in
theorem go_X3_names_L38b (N : Nat) (rec38 : Int32 → Int32 → xN → Option (Int32 × xN)) (h38 : ∀ (v1 : Int32) (v2 : Int32) (u : xN), xGm md_X3_names rsM (rec38 v1 v2 u) 38 [(0, .ref 0), (1, .int v1), (2, .int v2)] [] (xU u)) (v1 : Int32) (v2 : Int32) (u : xN) : xGm md_X3_names rsM (f_X3_names_L38b N rec38 v1 v2 u) 38 [(0, .ref 0), (1, .int v1), (2, .int v2)] [] (xU u) := by
  unfold f_X3_names_L38b
  refine xm_blk0 (pc' := 46) (lv' := [(0, .ref 0), (1, .int v1), (2, .int v2)]) (st' := [.int (u.1 7 1), .int v2]) (u' := (xU u)) [(.iload_n 2, (0, 0, 0), 0, 0), (.aload_n 0, (0, 0, 0), 0, 0), (.getfield 24, (3, 2, 208), 0, 0), (.getfield 113, (0, 1, 145), 0, 0)] (by decide +kernel) rfl ?_
  refine xm_icmp_ge (pc := 46) (off := 42) (tgt := 88) (by decide +kernel) (by decide) ?_ ?_
  · refine xm_blk0 (pc' := 90) (lv' := [(0, .ref 0), (1, .int v1), (2, .int v2)]) (st' := [.int (-9 : Int32)]) (u' := (xU u)) [(.bipush (-9), (0, 0, 0), -9, 0)] (by decide +kernel) rfl ?_
    exact xm_iret (pc := 90) (by decide +kernel) rfl rfl
  · refine xm_blk0 (pc' := 54) (lv' := [(0, .ref 0), (1, .int v1), (2, .int v2)]) (st' := [.int v2, .ref 19]) (u' := (xU u)) [(.aload_n 0, (0, 0, 0), 0, 0), (.getfield 34, (3, 4, 210), 0, 0), (.iload_n 2, (0, 0, 0), 0, 0)] (by decide +kernel) rfl ?_
    refine xm_Vi (pc := 54) (mz := md_X2_isOn_19) (idx := 173) (p1 := 419) (a := 19) (as := [.int v2]) (st := []) (ev_X2_isOn_19 v2 u) mw_X2_isOn (by decide +kernel) (by decide +kernel) (by decide) rfl rfl (by decide) rfl (Nat.le_of_ble_eq_true rfl) (fun r54 => ?_)
    refine xm_if_eq (pc := 57) (off := 25) (tgt := 82) (by decide +kernel) (by decide) ?_ ?_
    · exact go_X3_names_L82 N rec38 h38 v1 v2 u
    · refine xm_blk0 (pc' := 68) (lv' := [(0, .ref 0), (1, .int v1), (2, .int v2)]) (st' := [.int ((1 : Int32) <<< (v2 &&& 31)), .int (v1 - (1 : Int32)), .ref 0, .ref 0]) (u' := (xU u)) [(.aload_n 0, (0, 0, 0), 0, 0), (.aload_n 0, (0, 0, 0), 0, 0), (.iload_n 1, (0, 0, 0), 0, 0), (.iconst 1, (0, 0, 0), 1, 0), (.isub, (0, 0, 0), 0, 0), (.iconst 1, (0, 0, 0), 1, 0), (.iload_n 2, (0, 0, 0), 0, 0), (.ishl, (0, 0, 0), 0, 0)] (by decide +kernel) rfl ?_
      refine xm_Vl (pc := 68) (mz := md_X3_winningWays_l3) (idx := 253) (p1 := 648) (a := 0) (as := [.int (v1 - (1 : Int32)), .int ((1 : Int32) <<< (v2 &&& 31))]) (st := [.ref 0]) (ev_X3_winningWays_l3 N (v1 - (1 : Int32)) ((1 : Int32) <<< (v2 &&& 31)) u) mw_X3_winningWays (by decide +kernel) (by decide +kernel) (by decide) rfl rfl (by decide) rfl (Nat.le_of_ble_eq_true rfl) (fun r68 => ?_)
      refine xm_Vl (pc := 71) (mz := md_X3_waysAhead) (idx := 261) (p1 := 656) (a := 0) (as := [.long r68]) (st := []) (ev_X3_waysAhead N r68 u) mw_X3_waysAhead (by decide +kernel) (by decide +kernel) (by decide) rfl rfl (by decide) rfl (Nat.le_of_ble_eq_true rfl) (fun r71 => ?_)
      refine xm_Si (pc := 74) (mz := md_X3_hasWayOfNone) (idx := 257) (p1 := 663) (as := [.long r71]) (st := []) (ev_X3_hasWayOfNone r71 u) mw_X3_hasWayOfNone (by decide +kernel) (by decide +kernel) (by decide) rfl (Nat.le_of_ble_eq_true rfl) (fun r74 => ?_)
      refine xm_if_ne (pc := 77) (off := 5) (tgt := 82) (by decide +kernel) (by decide) ?_ ?_
      · exact go_X3_names_L82 N rec38 h38 v1 v2 u
      · refine xm_blk0 (pc' := 81) (lv' := [(0, .ref 0), (1, .int v1), (2, .int v2)]) (st' := [.int v2]) (u' := (xU u)) [(.iload_n 2, (0, 0, 0), 0, 0)] (by decide +kernel) rfl ?_
        exact xm_iret (pc := 81) (by decide +kernel) rfl rfl
def f_X3_names_L38 (N : Nat) : Nat → Int32 → Int32 → xN → Option (Int32 × xN)
  | 0 => fun _ _ _ => none
  | n + 1 => fun v1 v2 u => f_X3_names_L38b N (f_X3_names_L38 N n) v1 v2 u
theorem go_X3_names_L38 (N : Nat) : ∀ (n : Nat) (v1 : Int32) (v2 : Int32) (u : xN), xGm md_X3_names rsM (f_X3_names_L38 N n v1 v2 u) 38 [(0, .ref 0), (1, .int v1), (2, .int v2)] [] (xU u) := by
  intro n
  induction n with
  | zero => intro v1 v2 u; exact xm_none
  | succ n ih => intro v1 v2 u; exact go_X3_names_L38b N _ ih v1 v2 u
def f_X3_names (N : Nat) (a1 : Int32) (u : xN) : Option (Int32 × xN) := if a1 < (1 : Int32) then f_X3_names_L10 N u else if a1 ≤ (3 : Int32) then (if (u.1 7 0) = (0 : Int32) then some ((-4 : Int32), u) else Option.bind (f_X3_judgeWays_20 N u) (fun r33 => f_X3_names_L38 N N a1 (0 : Int32) r33)) else f_X3_names_L10 N u
set_option maxRecDepth 20000 in
theorem go_X3_names (N : Nat) (a1 : Int32) (u : xN) : xGm md_X3_names rsM (f_X3_names N a1 u) 0 [(0, .ref 0), (1, .int a1)] [] (xU u) := by
  unfold f_X3_names
  refine xm_blk0 (pc' := 2) (lv' := [(0, .ref 0), (1, .int a1)]) (st' := [.int (1 : Int32), .int a1]) (u' := (xU u)) [(.iload_n 1, (0, 0, 0), 0, 0), (.iconst 1, (0, 0, 0), 1, 0)] (by decide +kernel) rfl ?_
  refine xm_icmp_lt (pc := 2) (off := 8) (tgt := 10) (by decide +kernel) (by decide) ?_ ?_
  · refine xm_wk [] (lv' := []) rfl ?_
    exact go_X3_names_L10 N u
  · refine xm_blk0 (pc' := 7) (lv' := [(0, .ref 0), (1, .int a1)]) (st' := [.int (3 : Int32), .int a1]) (u' := (xU u)) [(.iload_n 1, (0, 0, 0), 0, 0), (.iconst 3, (0, 0, 0), 3, 0)] (by decide +kernel) rfl ?_
    refine xm_icmp_le (pc := 7) (off := 5) (tgt := 12) (by decide +kernel) (by decide) ?_ ?_
    · refine xm_blk0 (pc' := 19) (lv' := [(0, .ref 0), (1, .int a1)]) (st' := [.int (u.1 7 0)]) (u' := (xU u)) [(.aload_n 0, (0, 0, 0), 0, 0), (.getfield 24, (3, 2, 208), 0, 0), (.getfield 119, (0, 0, 143), 0, 0)] (by decide +kernel) rfl ?_
      refine xm_if_ne (pc := 19) (off := 6) (tgt := 25) (by decide +kernel) (by decide) ?_ ?_
      · refine xm_blk0 (pc' := 33) (lv' := [(0, .ref 0), (1, .int a1)]) (st' := [.ref 20, .ref 0]) (u' := (xU u)) [(.aload_n 0, (0, 0, 0), 0, 0), (.aload_n 0, (0, 0, 0), 0, 0), (.getfield 34, (3, 4, 210), 0, 0), (.getfield 170, (2, 3, 185), 0, 0)] (by decide +kernel) rfl ?_
        refine xm_Vv (pc := 33) (mz := md_X3_judgeWays_20) (idx := 227) (p1 := 583) (a := 0) (as := [.ref 20]) (st := []) (ev_X3_judgeWays_20 N u) mw_X3_judgeWays (by decide +kernel) (by decide +kernel) (by decide) rfl rfl (by decide) rfl (Nat.le_of_ble_eq_true rfl) (fun r33 => ?_)
        refine xm_blk0 (pc' := 38) (lv' := [(0, .ref 0), (1, .int a1), (2, .int (0 : Int32))]) (st' := []) (u' := (xU r33)) [(.iconst 0, (0, 0, 0), 0, 0), (.istore_n 2, (0, 0, 0), 0, 0)] (by decide +kernel) rfl ?_
        exact go_X3_names_L38 N N a1 (0 : Int32) r33
      · refine xm_blk0 (pc' := 24) (lv' := [(0, .ref 0), (1, .int a1)]) (st' := [.int (-4 : Int32)]) (u' := (xU u)) [(.bipush (-4), (0, 0, 0), -4, 0)] (by decide +kernel) rfl ?_
        exact xm_iret (pc := 24) (by decide +kernel) rfl rfl
    · refine xm_wk [] (lv' := []) rfl ?_
      exact go_X3_names_L10 N u
theorem ev_X3_names (N : Nat) (a1 : Int32) (u : xN) : ∀ r, f_X3_names N a1 u = some r → xEm md_X3_names yX3_names [.ref 0, .int a1] (xU u) (some (.int r.1), xU r.2) := xm_met (res := rsM) (as := [.ref 0, .int a1]) (go_X3_names N a1 u) (by decide) rfl (Nat.le_of_ble_eq_true rfl)
theorem mw_X3_isValue : xMs yX3_isValue cX3_isValue 1 (some .boolean) 1 := xMs_of (p1 := 680) (p2 := 679) (p3 := 92) (by decide +kernel)
/-! NeitherBare.isValue(I)Z  -/
abbrev md_X3_isValue : xMd := (cX3_isValue, RX3, 1, some .boolean, 1)
def f_X3_isValue_L14 (t0 : Int32) : Option Int32 := gdl [isb t0] (some t0)
set_option maxRecDepth 20000 in
theorem go_X3_isValue_L14 (u : xN) (t0 : Int32) : xGm md_X3_isValue (rsI (xU u)) (f_X3_isValue_L14 t0) 14 [] [.int t0] (xU u) := by
  unfold f_X3_isValue_L14
  exact xm_zret (pc := 14) (by decide +kernel) rfl rfl
def f_X3_isValue_L13  : Option Int32 := f_X3_isValue_L14 (0 : Int32)
set_option maxRecDepth 20000 in
theorem go_X3_isValue_L13 (u : xN) : xGm md_X3_isValue (rsI (xU u)) (f_X3_isValue_L13) 13 [] [] (xU u) := by
  unfold f_X3_isValue_L13
  refine xm_blk0 (pc' := 14) (lv' := []) (st' := [.int (0 : Int32)]) (u' := (xU u)) [(.iconst 0, (0, 0, 0), 0, 0)] (by decide +kernel) rfl ?_
  exact go_X3_isValue_L14 u (0 : Int32)
def f_X3_isValue (a0 : Int32) : Option Int32 := if a0 < (0 : Int32) then f_X3_isValue_L13 else if (5 : Int32) < a0 then f_X3_isValue_L13 else f_X3_isValue_L14 (1 : Int32)
set_option maxRecDepth 20000 in
theorem go_X3_isValue (a0 : Int32) (u : xN) : xGm md_X3_isValue (rsI (xU u)) (f_X3_isValue a0) 0 [(0, .int a0)] [] (xU u) := by
  unfold f_X3_isValue
  refine xm_blk0 (pc' := 1) (lv' := [(0, .int a0)]) (st' := [.int a0]) (u' := (xU u)) [(.iload_n 0, (0, 0, 0), 0, 0)] (by decide +kernel) rfl ?_
  refine xm_if_lt (pc := 1) (off := 12) (tgt := 13) (by decide +kernel) (by decide) ?_ ?_
  · refine xm_wk [] (lv' := []) rfl ?_
    exact go_X3_isValue_L13 u
  · refine xm_blk0 (pc' := 6) (lv' := [(0, .int a0)]) (st' := [.int (5 : Int32), .int a0]) (u' := (xU u)) [(.iload_n 0, (0, 0, 0), 0, 0), (.iconst 5, (0, 0, 0), 5, 0)] (by decide +kernel) rfl ?_
    refine xm_icmp_gt (pc := 6) (off := 7) (tgt := 13) (by decide +kernel) (by decide) ?_ ?_
    · refine xm_wk [] (lv' := []) rfl ?_
      exact go_X3_isValue_L13 u
    · refine xm_blk0 (pc' := 10) (lv' := [(0, .int a0)]) (st' := [.int (1 : Int32)]) (u' := (xU u)) [(.iconst 1, (0, 0, 0), 1, 0)] (by decide +kernel) rfl ?_
      refine xm_goto (pc := 10) (off := 4) (tgt := 14) (by decide +kernel) (by decide) ?_
      refine xm_wk [] (lv' := []) rfl ?_
      exact go_X3_isValue_L14 u (1 : Int32)
theorem ev_X3_isValue (a0 : Int32) (u : xN) : ∀ r, f_X3_isValue a0 = some r → xEm md_X3_isValue yX3_isValue [.int a0] (xU u) (some (.int r), (xU u)) := xm_met (res := (rsI (xU u))) (as := [.int a0]) (go_X3_isValue a0 u) (by decide) rfl (Nat.le_of_ble_eq_true rfl)
theorem mw_X3_refusedRulings : xMv yX3_refusedRulings cX3_refusedRulings 6 (some .int) 1 := xMv_of (p1 := 677) (p2 := 676) (p3 := 92) (p4 := 28) (by decide +kernel)
/-! NeitherBare.refusedRulings(I)I (0, None) -/
abbrev md_X3_refusedRulings : xMd := (cX3_refusedRulings, RX3, 6, some .int, 3)
def f_X3_refusedRulings_L111 (N : Nat) (rec40 : Int32 → Int32 → Int32 → xN → Option (Int32 × xN)) (v1 : Int32) (v3 : Int32) (v4 : Int32) (t0 : Int32) (u : xN) : Option (Int32 × xN) := if t0 = (0 : Int32) then Option.bind (f_X3_refuse (3 : Int32) u) (fun r120 => some (r120.1, r120.2)) else rec40 v1 v3 (v4 + (1 : Int32)) u
set_option maxRecDepth 20000 in
theorem go_X3_refusedRulings_L111 (N : Nat) (rec40 : Int32 → Int32 → Int32 → xN → Option (Int32 × xN)) (h40 : ∀ (v1 : Int32) (v3 : Int32) (v4 : Int32) (u : xN), xGm md_X3_refusedRulings rsM (rec40 v1 v3 v4 u) 40 [(0, .ref 0), (1, .int v1), (3, .int v3), (4, .int v4)] [] (xU u)) (v1 : Int32) (v3 : Int32) (v4 : Int32) (t0 : Int32) (u : xN) : xGm md_X3_refusedRulings rsM (f_X3_refusedRulings_L111 N rec40 v1 v3 v4 t0 u) 111 [(0, .ref 0), (1, .int v1), (3, .int v3), (4, .int v4)] [.int t0] (xU u) := by
  unfold f_X3_refusedRulings_L111
  refine xm_blk0 (pc' := 115) (lv' := [(0, .ref 0), (1, .int v1), (3, .int v3), (4, .int v4), (5, .int t0)]) (st' := [.int t0]) (u' := (xU u)) [(.istore 5, (0, 0, 0), 0, 0), (.iload 5, (0, 0, 0), 0, 0)] (by decide +kernel) rfl ?_
  refine xm_if_ne (pc := 115) (off := 9) (tgt := 124) (by decide +kernel) (by decide) ?_ ?_
  · refine xm_blk0 (pc' := 127) (lv' := [(0, .ref 0), (1, .int v1), (3, .int v3), (4, .int (v4 + (1 : Int32))), (5, .int t0)]) (st' := []) (u' := (xU u)) [(.iinc 4 1, (0, 0, 0), 1, 0)] (by decide +kernel) rfl ?_
    refine xm_goto (pc := 127) (off := -87) (tgt := 40) (by decide +kernel) (by decide) ?_
    refine xm_wk [0, 1, 2, 3] (lv' := [(0, .ref 0), (1, .int v1), (3, .int v3), (4, .int (v4 + (1 : Int32)))]) rfl ?_
    exact h40 v1 v3 (v4 + (1 : Int32)) u
  · refine xm_blk0 (pc' := 120) (lv' := [(0, .ref 0), (1, .int v1), (3, .int v3), (4, .int v4), (5, .int t0)]) (st' := [.int (3 : Int32), .ref 0]) (u' := (xU u)) [(.aload_n 0, (0, 0, 0), 0, 0), (.iconst 3, (0, 0, 0), 3, 0)] (by decide +kernel) rfl ?_
    refine xm_Vm (pc := 120) (mz := md_X3_refuse) (idx := 89) (p1 := 258) (a := 0) (as := [.int (3 : Int32)]) (st := []) (ev_X3_refuse (3 : Int32) u) mw_X3_refuse (by decide +kernel) (by decide +kernel) (by decide) rfl rfl (by decide) rfl (Nat.le_of_ble_eq_true rfl) (fun r120 => ?_)
    exact xm_iret (pc := 123) (by decide +kernel) rfl rfl
def f_X3_refusedRulings_L110 (N : Nat) (rec40 : Int32 → Int32 → Int32 → xN → Option (Int32 × xN)) (v1 : Int32) (v3 : Int32) (v4 : Int32) (u : xN) : Option (Int32 × xN) := f_X3_refusedRulings_L111 N rec40 v1 v3 v4 (0 : Int32) u
set_option maxRecDepth 20000 in
theorem go_X3_refusedRulings_L110 (N : Nat) (rec40 : Int32 → Int32 → Int32 → xN → Option (Int32 × xN)) (h40 : ∀ (v1 : Int32) (v3 : Int32) (v4 : Int32) (u : xN), xGm md_X3_refusedRulings rsM (rec40 v1 v3 v4 u) 40 [(0, .ref 0), (1, .int v1), (3, .int v3), (4, .int v4)] [] (xU u)) (v1 : Int32) (v3 : Int32) (v4 : Int32) (u : xN) : xGm md_X3_refusedRulings rsM (f_X3_refusedRulings_L110 N rec40 v1 v3 v4 u) 110 [(0, .ref 0), (1, .int v1), (3, .int v3), (4, .int v4)] [] (xU u) := by
  unfold f_X3_refusedRulings_L110
  refine xm_blk0 (pc' := 111) (lv' := [(0, .ref 0), (1, .int v1), (3, .int v3), (4, .int v4)]) (st' := [.int (0 : Int32)]) (u' := (xU u)) [(.iconst 0, (0, 0, 0), 0, 0)] (by decide +kernel) rfl ?_
  exact go_X3_refusedRulings_L111 N rec40 h40 v1 v3 v4 (0 : Int32) u
def f_X3_refusedRulings_L40b (N : Nat) (rec40 : Int32 → Int32 → Int32 → xN → Option (Int32 × xN)) (v1 : Int32) (v3 : Int32) (v4 : Int32) (u : xN) : Option (Int32 × xN) := gdl [nzi (3 : Int32)] (if (v3 / (3 : Int32)) ≤ v4 then some ((0 : Int32), u) else Option.bind (f_X1_cellOf_1 v1 ((3 : Int32) * v4) u) (fun r57 => Option.bind (f_X3_isTrait r57) (fun r60 => if r60 = (0 : Int32) then f_X3_refusedRulings_L110 N rec40 v1 v3 v4 u else Option.bind (f_X1_cellOf_1 v1 (((3 : Int32) * v4) + (1 : Int32)) u) (fun r77 => Option.bind (f_X3_isValue r77) (fun r80 => if r80 = (0 : Int32) then f_X3_refusedRulings_L110 N rec40 v1 v3 v4 u else Option.bind (f_X1_cellOf_1 v1 (((3 : Int32) * v4) + (2 : Int32)) u) (fun r97 => Option.bind (f_X3_isFlag r97) (fun r100 => if r100 = (0 : Int32) then f_X3_refusedRulings_L110 N rec40 v1 v3 v4 u else f_X3_refusedRulings_L111 N rec40 v1 v3 v4 (1 : Int32) u)))))))
set_option maxRecDepth 20000 in
theorem go_X3_refusedRulings_L40b (N : Nat) (rec40 : Int32 → Int32 → Int32 → xN → Option (Int32 × xN)) (h40 : ∀ (v1 : Int32) (v3 : Int32) (v4 : Int32) (u : xN), xGm md_X3_refusedRulings rsM (rec40 v1 v3 v4 u) 40 [(0, .ref 0), (1, .int v1), (3, .int v3), (4, .int v4)] [] (xU u)) (v1 : Int32) (v3 : Int32) (v4 : Int32) (u : xN) : xGm md_X3_refusedRulings rsM (f_X3_refusedRulings_L40b N rec40 v1 v3 v4 u) 40 [(0, .ref 0), (1, .int v1), (3, .int v3), (4, .int v4)] [] (xU u) := by
  unfold f_X3_refusedRulings_L40b
  refine xm_blk (bs := [nzi (3 : Int32)]) (pc' := 45) (lv' := [(0, .ref 0), (1, .int v1), (3, .int v3), (4, .int v4)]) (st' := [.int (v3 / (3 : Int32)), .int v4]) (u' := (xU u)) [(.iload 4, (0, 0, 0), 0, 0), (.iload_n 3, (0, 0, 0), 0, 0), (.iconst 3, (0, 0, 0), 3, 0), (.idiv, (0, 0, 0), 0, 0)] (by decide +kernel) rfl ?_
  refine xm_icmp_ge (pc := 45) (off := 85) (tgt := 130) (by decide +kernel) (by decide) ?_ ?_
  · refine xm_blk0 (pc' := 131) (lv' := [(0, .ref 0), (1, .int v1), (3, .int v3), (4, .int v4)]) (st' := [.int (0 : Int32)]) (u' := (xU u)) [(.iconst 0, (0, 0, 0), 0, 0)] (by decide +kernel) rfl ?_
    exact xm_iret (pc := 131) (by decide +kernel) rfl rfl
  · refine xm_blk0 (pc' := 57) (lv' := [(0, .ref 0), (1, .int v1), (3, .int v3), (4, .int v4)]) (st' := [.int ((3 : Int32) * v4), .int v1, .ref 1]) (u' := (xU u)) [(.aload_n 0, (0, 0, 0), 0, 0), (.getfield 14, (3, 0, 206), 0, 0), (.iload_n 1, (0, 0, 0), 0, 0), (.iconst 3, (0, 0, 0), 3, 0), (.iload 4, (0, 0, 0), 0, 0), (.imul, (0, 0, 0), 0, 0)] (by decide +kernel) rfl ?_
    refine xm_Vi (pc := 57) (mz := md_X1_cellOf_1) (idx := 67) (p1 := 292) (a := 1) (as := [.int v1, .int ((3 : Int32) * v4)]) (st := []) (ev_X1_cellOf_1 v1 ((3 : Int32) * v4) u) mw_X1_cellOf (by decide +kernel) (by decide +kernel) (by decide) rfl rfl (by decide) rfl (Nat.le_of_ble_eq_true rfl) (fun r57 => ?_)
    refine xm_Si (pc := 60) (mz := md_X3_isTrait) (idx := 164) (p1 := 488) (as := [.int r57]) (st := []) (ev_X3_isTrait r57 u) mw_X3_isTrait (by decide +kernel) (by decide +kernel) (by decide) rfl (Nat.le_of_ble_eq_true rfl) (fun r60 => ?_)
    refine xm_if_eq (pc := 63) (off := 47) (tgt := 110) (by decide +kernel) (by decide) ?_ ?_
    · exact go_X3_refusedRulings_L110 N rec40 h40 v1 v3 v4 u
    · refine xm_blk0 (pc' := 77) (lv' := [(0, .ref 0), (1, .int v1), (3, .int v3), (4, .int v4)]) (st' := [.int (((3 : Int32) * v4) + (1 : Int32)), .int v1, .ref 1]) (u' := (xU u)) [(.aload_n 0, (0, 0, 0), 0, 0), (.getfield 14, (3, 0, 206), 0, 0), (.iload_n 1, (0, 0, 0), 0, 0), (.iconst 3, (0, 0, 0), 3, 0), (.iload 4, (0, 0, 0), 0, 0), (.imul, (0, 0, 0), 0, 0), (.iconst 1, (0, 0, 0), 1, 0), (.iadd, (0, 0, 0), 0, 0)] (by decide +kernel) rfl ?_
      refine xm_Vi (pc := 77) (mz := md_X1_cellOf_1) (idx := 67) (p1 := 292) (a := 1) (as := [.int v1, .int (((3 : Int32) * v4) + (1 : Int32))]) (st := []) (ev_X1_cellOf_1 v1 (((3 : Int32) * v4) + (1 : Int32)) u) mw_X1_cellOf (by decide +kernel) (by decide +kernel) (by decide) rfl rfl (by decide) rfl (Nat.le_of_ble_eq_true rfl) (fun r77 => ?_)
      refine xm_Si (pc := 80) (mz := md_X3_isValue) (idx := 274) (p1 := 678) (as := [.int r77]) (st := []) (ev_X3_isValue r77 u) mw_X3_isValue (by decide +kernel) (by decide +kernel) (by decide) rfl (Nat.le_of_ble_eq_true rfl) (fun r80 => ?_)
      refine xm_if_eq (pc := 83) (off := 27) (tgt := 110) (by decide +kernel) (by decide) ?_ ?_
      · exact go_X3_refusedRulings_L110 N rec40 h40 v1 v3 v4 u
      · refine xm_blk0 (pc' := 97) (lv' := [(0, .ref 0), (1, .int v1), (3, .int v3), (4, .int v4)]) (st' := [.int (((3 : Int32) * v4) + (2 : Int32)), .int v1, .ref 1]) (u' := (xU u)) [(.aload_n 0, (0, 0, 0), 0, 0), (.getfield 14, (3, 0, 206), 0, 0), (.iload_n 1, (0, 0, 0), 0, 0), (.iconst 3, (0, 0, 0), 3, 0), (.iload 4, (0, 0, 0), 0, 0), (.imul, (0, 0, 0), 0, 0), (.iconst 2, (0, 0, 0), 2, 0), (.iadd, (0, 0, 0), 0, 0)] (by decide +kernel) rfl ?_
        refine xm_Vi (pc := 97) (mz := md_X1_cellOf_1) (idx := 67) (p1 := 292) (a := 1) (as := [.int v1, .int (((3 : Int32) * v4) + (2 : Int32))]) (st := []) (ev_X1_cellOf_1 v1 (((3 : Int32) * v4) + (2 : Int32)) u) mw_X1_cellOf (by decide +kernel) (by decide +kernel) (by decide) rfl rfl (by decide) rfl (Nat.le_of_ble_eq_true rfl) (fun r97 => ?_)
        refine xm_Si (pc := 100) (mz := md_X3_isFlag) (idx := 167) (p1 := 489) (as := [.int r97]) (st := []) (ev_X3_isFlag r97 u) mw_X3_isFlag (by decide +kernel) (by decide +kernel) (by decide) rfl (Nat.le_of_ble_eq_true rfl) (fun r100 => ?_)
        refine xm_if_eq (pc := 103) (off := 7) (tgt := 110) (by decide +kernel) (by decide) ?_ ?_
        · exact go_X3_refusedRulings_L110 N rec40 h40 v1 v3 v4 u
        · refine xm_blk0 (pc' := 107) (lv' := [(0, .ref 0), (1, .int v1), (3, .int v3), (4, .int v4)]) (st' := [.int (1 : Int32)]) (u' := (xU u)) [(.iconst 1, (0, 0, 0), 1, 0)] (by decide +kernel) rfl ?_
          refine xm_goto (pc := 107) (off := 4) (tgt := 111) (by decide +kernel) (by decide) ?_
          exact go_X3_refusedRulings_L111 N rec40 h40 v1 v3 v4 (1 : Int32) u
def f_X3_refusedRulings_L40 (N : Nat) : Nat → Int32 → Int32 → Int32 → xN → Option (Int32 × xN)
  | 0 => fun _ _ _ _ => none
  | n + 1 => fun v1 v3 v4 u => f_X3_refusedRulings_L40b N (f_X3_refusedRulings_L40 N n) v1 v3 v4 u
theorem go_X3_refusedRulings_L40 (N : Nat) : ∀ (n : Nat) (v1 : Int32) (v3 : Int32) (v4 : Int32) (u : xN), xGm md_X3_refusedRulings rsM (f_X3_refusedRulings_L40 N n v1 v3 v4 u) 40 [(0, .ref 0), (1, .int v1), (3, .int v3), (4, .int v4)] [] (xU u) := by
  intro n
  induction n with
  | zero => intro v1 v3 v4 u; exact xm_none
  | succ n ih => intro v1 v3 v4 u; exact go_X3_refusedRulings_L40b N _ ih v1 v3 v4 u
def f_X3_refusedRulings (N : Nat) (a1 : Int32) (u : xN) : Option (Int32 × xN) := Option.bind (f_X3_refusedPlace_1 a1 u) (fun r6 => if r6.1 = (0 : Int32) then Option.bind (f_X1_sizeOf_1 a1 r6.2) (fun r21 => gdl [nzi (3 : Int32)] (if (r21 - r21 / (3 : Int32) * (3 : Int32)) = (0 : Int32) then f_X3_refusedRulings_L40 N N a1 r21 (0 : Int32) r6.2 else Option.bind (f_X3_refuse (5 : Int32) r6.2) (fun r33 => some (r33.1, r33.2)))) else some (r6.1, r6.2))
set_option maxRecDepth 20000 in
theorem go_X3_refusedRulings (N : Nat) (a1 : Int32) (u : xN) : xGm md_X3_refusedRulings rsM (f_X3_refusedRulings N a1 u) 0 [(0, .ref 0), (1, .int a1)] [] (xU u) := by
  unfold f_X3_refusedRulings
  refine xm_blk0 (pc' := 6) (lv' := [(0, .ref 0), (1, .int a1)]) (st' := [.int a1, .ref 1, .ref 0]) (u' := (xU u)) [(.aload_n 0, (0, 0, 0), 0, 0), (.aload_n 0, (0, 0, 0), 0, 0), (.getfield 14, (3, 0, 206), 0, 0), (.iload_n 1, (0, 0, 0), 0, 0)] (by decide +kernel) rfl ?_
  refine xm_Vm (pc := 6) (mz := md_X3_refusedPlace_1) (idx := 78) (p1 := 280) (a := 0) (as := [.ref 1, .int a1]) (st := []) (ev_X3_refusedPlace_1 a1 u) mw_X3_refusedPlace (by decide +kernel) (by decide +kernel) (by decide) rfl rfl (by decide) rfl (Nat.le_of_ble_eq_true rfl) (fun r6 => ?_)
  refine xm_blk0 (pc' := 11) (lv' := [(0, .ref 0), (1, .int a1), (2, .int r6.1)]) (st' := [.int r6.1]) (u' := (xU r6.2)) [(.istore_n 2, (0, 0, 0), 0, 0), (.iload_n 2, (0, 0, 0), 0, 0)] (by decide +kernel) rfl ?_
  refine xm_if_eq (pc := 11) (off := 5) (tgt := 16) (by decide +kernel) (by decide) ?_ ?_
  · refine xm_blk0 (pc' := 21) (lv' := [(0, .ref 0), (1, .int a1), (2, .int r6.1)]) (st' := [.int a1, .ref 1]) (u' := (xU r6.2)) [(.aload_n 0, (0, 0, 0), 0, 0), (.getfield 14, (3, 0, 206), 0, 0), (.iload_n 1, (0, 0, 0), 0, 0)] (by decide +kernel) rfl ?_
    refine xm_Vi (pc := 21) (mz := md_X1_sizeOf_1) (idx := 104) (p1 := 327) (a := 1) (as := [.int a1]) (st := []) (ev_X1_sizeOf_1 a1 r6.2) mw_X1_sizeOf (by decide +kernel) (by decide +kernel) (by decide) rfl rfl (by decide) rfl (Nat.le_of_ble_eq_true rfl) (fun r21 => ?_)
    refine xm_blk (bs := [nzi (3 : Int32)]) (pc' := 28) (lv' := [(0, .ref 0), (1, .int a1), (2, .int r6.1), (3, .int r21)]) (st' := [.int (r21 - r21 / (3 : Int32) * (3 : Int32))]) (u' := (xU r6.2)) [(.istore_n 3, (0, 0, 0), 0, 0), (.iload_n 3, (0, 0, 0), 0, 0), (.iconst 3, (0, 0, 0), 3, 0), (.irem, (0, 0, 0), 0, 0)] (by decide +kernel) rfl ?_
    refine xm_if_eq (pc := 28) (off := 9) (tgt := 37) (by decide +kernel) (by decide) ?_ ?_
    · refine xm_blk0 (pc' := 40) (lv' := [(0, .ref 0), (1, .int a1), (2, .int r6.1), (3, .int r21), (4, .int (0 : Int32))]) (st' := []) (u' := (xU r6.2)) [(.iconst 0, (0, 0, 0), 0, 0), (.istore 4, (0, 0, 0), 0, 0)] (by decide +kernel) rfl ?_
      refine xm_wk [0, 1, 3, 4] (lv' := [(0, .ref 0), (1, .int a1), (3, .int r21), (4, .int (0 : Int32))]) rfl ?_
      exact go_X3_refusedRulings_L40 N N a1 r21 (0 : Int32) r6.2
    · refine xm_blk0 (pc' := 33) (lv' := [(0, .ref 0), (1, .int a1), (2, .int r6.1), (3, .int r21)]) (st' := [.int (5 : Int32), .ref 0]) (u' := (xU r6.2)) [(.aload_n 0, (0, 0, 0), 0, 0), (.iconst 5, (0, 0, 0), 5, 0)] (by decide +kernel) rfl ?_
      refine xm_Vm (pc := 33) (mz := md_X3_refuse) (idx := 89) (p1 := 258) (a := 0) (as := [.int (5 : Int32)]) (st := []) (ev_X3_refuse (5 : Int32) r6.2) mw_X3_refuse (by decide +kernel) (by decide +kernel) (by decide) rfl rfl (by decide) rfl (Nat.le_of_ble_eq_true rfl) (fun r33 => ?_)
      exact xm_iret (pc := 36) (by decide +kernel) rfl rfl
  · refine xm_blk0 (pc' := 15) (lv' := [(0, .ref 0), (1, .int a1), (2, .int r6.1)]) (st' := [.int r6.1]) (u' := (xU r6.2)) [(.iload_n 2, (0, 0, 0), 0, 0)] (by decide +kernel) rfl ?_
    exact xm_iret (pc := 15) (by decide +kernel) rfl rfl
theorem ev_X3_refusedRulings (N : Nat) (a1 : Int32) (u : xN) : ∀ r, f_X3_refusedRulings N a1 u = some r → xEm md_X3_refusedRulings yX3_refusedRulings [.ref 0, .int a1] (xU u) (some (.int r.1), xU r.2) := xm_met (res := rsM) (as := [.ref 0, .int a1]) (go_X3_refusedRulings N a1 u) (by decide) rfl (Nat.le_of_ble_eq_true rfl)
theorem mw_X3_isContradiction : xMv yX3_isContradiction cX3_isContradiction 8 (some .boolean) 3 := xMv_of (p1 := 684) (p2 := 683) (p3 := 92) (p4 := 29) (by decide +kernel)
/-! NeitherBare.isContradiction(III)Z (0, None, None, None) -/
abbrev md_X3_isContradiction : xMd := (cX3_isContradiction, RX3, 8, some .boolean, 2)
def f_X3_isContradiction_L146 (u : xN) (t0 : Int32) : Option Int32 := gdl [isb t0] (some t0)
set_option maxRecDepth 20000 in
theorem go_X3_isContradiction_L146 (u : xN) (t0 : Int32) : xGm md_X3_isContradiction (rsI (xU u)) (f_X3_isContradiction_L146 u t0) 146 [] [.int t0] (xU u) := by
  unfold f_X3_isContradiction_L146
  exact xm_zret (pc := 146) (by decide +kernel) rfl rfl
def f_X3_isContradiction_L103 (u : xN) (v4 : Int32) (v5 : Int32) (v6 : Int32) (t0 : Int32) : Option Int32 := if v6 = t0 then some (0 : Int32) else if v6 = (0 : Int32) then (if v4 < v5 then f_X3_isContradiction_L146 u (0 : Int32) else f_X3_isContradiction_L146 u (1 : Int32)) else if v5 < v4 then f_X3_isContradiction_L146 u (0 : Int32) else f_X3_isContradiction_L146 u (1 : Int32)
set_option maxRecDepth 20000 in
theorem go_X3_isContradiction_L103 (u : xN) (v4 : Int32) (v5 : Int32) (v6 : Int32) (t0 : Int32) : xGm md_X3_isContradiction (rsI (xU u)) (f_X3_isContradiction_L103 u v4 v5 v6 t0) 103 [(4, .int v4), (5, .int v5), (6, .int v6)] [.int t0] (xU u) := by
  unfold f_X3_isContradiction_L103
  refine xm_blk0 (pc' := 109) (lv' := [(4, .int v4), (5, .int v5), (6, .int v6), (7, .int t0)]) (st' := [.int t0, .int v6]) (u' := (xU u)) [(.istore 7, (0, 0, 0), 0, 0), (.iload 6, (0, 0, 0), 0, 0), (.iload 7, (0, 0, 0), 0, 0)] (by decide +kernel) rfl ?_
  refine xm_icmp_ne (pc := 109) (off := 5) (tgt := 114) (by decide +kernel) (by decide) ?_ ?_
  · refine xm_blk0 (pc' := 116) (lv' := [(4, .int v4), (5, .int v5), (6, .int v6), (7, .int t0)]) (st' := [.int v6]) (u' := (xU u)) [(.iload 6, (0, 0, 0), 0, 0)] (by decide +kernel) rfl ?_
    refine xm_if_eq (pc := 116) (off := 18) (tgt := 134) (by decide +kernel) (by decide) ?_ ?_
    · refine xm_blk0 (pc' := 138) (lv' := [(4, .int v4), (5, .int v5), (6, .int v6), (7, .int t0)]) (st' := [.int v5, .int v4]) (u' := (xU u)) [(.iload 4, (0, 0, 0), 0, 0), (.iload 5, (0, 0, 0), 0, 0)] (by decide +kernel) rfl ?_
      refine xm_icmp_lt (pc := 138) (off := 7) (tgt := 145) (by decide +kernel) (by decide) ?_ ?_
      · refine xm_blk0 (pc' := 146) (lv' := [(4, .int v4), (5, .int v5), (6, .int v6), (7, .int t0)]) (st' := [.int (0 : Int32)]) (u' := (xU u)) [(.iconst 0, (0, 0, 0), 0, 0)] (by decide +kernel) rfl ?_
        refine xm_wk [] (lv' := []) rfl ?_
        exact go_X3_isContradiction_L146 u (0 : Int32)
      · refine xm_blk0 (pc' := 142) (lv' := [(4, .int v4), (5, .int v5), (6, .int v6), (7, .int t0)]) (st' := [.int (1 : Int32)]) (u' := (xU u)) [(.iconst 1, (0, 0, 0), 1, 0)] (by decide +kernel) rfl ?_
        refine xm_goto (pc := 142) (off := 4) (tgt := 146) (by decide +kernel) (by decide) ?_
        refine xm_wk [] (lv' := []) rfl ?_
        exact go_X3_isContradiction_L146 u (1 : Int32)
    · refine xm_blk0 (pc' := 123) (lv' := [(4, .int v4), (5, .int v5), (6, .int v6), (7, .int t0)]) (st' := [.int v4, .int v5]) (u' := (xU u)) [(.iload 5, (0, 0, 0), 0, 0), (.iload 4, (0, 0, 0), 0, 0)] (by decide +kernel) rfl ?_
      refine xm_icmp_lt (pc := 123) (off := 7) (tgt := 130) (by decide +kernel) (by decide) ?_ ?_
      · refine xm_blk0 (pc' := 131) (lv' := [(4, .int v4), (5, .int v5), (6, .int v6), (7, .int t0)]) (st' := [.int (0 : Int32)]) (u' := (xU u)) [(.iconst 0, (0, 0, 0), 0, 0)] (by decide +kernel) rfl ?_
        refine xm_goto (pc := 131) (off := 15) (tgt := 146) (by decide +kernel) (by decide) ?_
        refine xm_wk [] (lv' := []) rfl ?_
        exact go_X3_isContradiction_L146 u (0 : Int32)
      · refine xm_blk0 (pc' := 127) (lv' := [(4, .int v4), (5, .int v5), (6, .int v6), (7, .int t0)]) (st' := [.int (1 : Int32)]) (u' := (xU u)) [(.iconst 1, (0, 0, 0), 1, 0)] (by decide +kernel) rfl ?_
        refine xm_goto (pc := 127) (off := 19) (tgt := 146) (by decide +kernel) (by decide) ?_
        refine xm_wk [] (lv' := []) rfl ?_
        exact go_X3_isContradiction_L146 u (1 : Int32)
  · refine xm_blk0 (pc' := 113) (lv' := [(4, .int v4), (5, .int v5), (6, .int v6), (7, .int t0)]) (st' := [.int (0 : Int32)]) (u' := (xU u)) [(.iconst 0, (0, 0, 0), 0, 0)] (by decide +kernel) rfl ?_
    exact xm_zret0 (pc := 113) (by decide +kernel) rfl (by decide) rfl
def f_X3_isContradiction_L79 (u : xN) (v1 : Int32) (v3 : Int32) (v4 : Int32) (v5 : Int32) (t0 : Int32) : Option Int32 := Option.bind (f_X1_cellOf_1 v1 (((3 : Int32) * v3) + (2 : Int32)) u) (fun r91 => if r91 = (1 : Int32) then f_X3_isContradiction_L103 u v4 v5 t0 (1 : Int32) else f_X3_isContradiction_L103 u v4 v5 t0 (0 : Int32))
set_option maxRecDepth 20000 in
theorem go_X3_isContradiction_L79 (u : xN) (v1 : Int32) (v3 : Int32) (v4 : Int32) (v5 : Int32) (t0 : Int32) : xGm md_X3_isContradiction (rsI (xU u)) (f_X3_isContradiction_L79 u v1 v3 v4 v5 t0) 79 [(0, .ref 0), (1, .int v1), (3, .int v3), (4, .int v4), (5, .int v5)] [.int t0] (xU u) := by
  unfold f_X3_isContradiction_L79
  refine xm_blk0 (pc' := 91) (lv' := [(0, .ref 0), (1, .int v1), (3, .int v3), (4, .int v4), (5, .int v5), (6, .int t0)]) (st' := [.int (((3 : Int32) * v3) + (2 : Int32)), .int v1, .ref 1]) (u' := (xU u)) [(.istore 6, (0, 0, 0), 0, 0), (.aload_n 0, (0, 0, 0), 0, 0), (.getfield 14, (3, 0, 206), 0, 0), (.iload_n 1, (0, 0, 0), 0, 0), (.iconst 3, (0, 0, 0), 3, 0), (.iload_n 3, (0, 0, 0), 0, 0), (.imul, (0, 0, 0), 0, 0), (.iconst 2, (0, 0, 0), 2, 0), (.iadd, (0, 0, 0), 0, 0)] (by decide +kernel) rfl ?_
  refine xm_Vi (pc := 91) (mz := md_X1_cellOf_1) (idx := 67) (p1 := 292) (a := 1) (as := [.int v1, .int (((3 : Int32) * v3) + (2 : Int32))]) (st := []) (ev_X1_cellOf_1 v1 (((3 : Int32) * v3) + (2 : Int32)) u) mw_X1_cellOf (by decide +kernel) (by decide +kernel) (by decide) rfl rfl (by decide) rfl (Nat.le_of_ble_eq_true rfl) (fun r91 => ?_)
  refine xm_blk0 (pc' := 95) (lv' := [(0, .ref 0), (1, .int v1), (3, .int v3), (4, .int v4), (5, .int v5), (6, .int t0)]) (st' := [.int (1 : Int32), .int r91]) (u' := (xU u)) [(.iconst 1, (0, 0, 0), 1, 0)] (by decide +kernel) rfl ?_
  refine xm_icmp_ne (pc := 95) (off := 7) (tgt := 102) (by decide +kernel) (by decide) ?_ ?_
  · refine xm_blk0 (pc' := 103) (lv' := [(0, .ref 0), (1, .int v1), (3, .int v3), (4, .int v4), (5, .int v5), (6, .int t0)]) (st' := [.int (0 : Int32)]) (u' := (xU u)) [(.iconst 0, (0, 0, 0), 0, 0)] (by decide +kernel) rfl ?_
    refine xm_wk [3, 4, 5] (lv' := [(4, .int v4), (5, .int v5), (6, .int t0)]) rfl ?_
    exact go_X3_isContradiction_L103 u v4 v5 t0 (0 : Int32)
  · refine xm_blk0 (pc' := 99) (lv' := [(0, .ref 0), (1, .int v1), (3, .int v3), (4, .int v4), (5, .int v5), (6, .int t0)]) (st' := [.int (1 : Int32)]) (u' := (xU u)) [(.iconst 1, (0, 0, 0), 1, 0)] (by decide +kernel) rfl ?_
    refine xm_goto (pc := 99) (off := 4) (tgt := 103) (by decide +kernel) (by decide) ?_
    refine xm_wk [3, 4, 5] (lv' := [(4, .int v4), (5, .int v5), (6, .int t0)]) rfl ?_
    exact go_X3_isContradiction_L103 u v4 v5 t0 (1 : Int32)
def f_X3_isContradiction (a1 : Int32) (a2 : Int32) (a3 : Int32) (u : xN) : Option Int32 := Option.bind (f_X1_cellOf_1 a1 ((3 : Int32) * a2) u) (fun r8 => Option.bind (f_X1_cellOf_1 a1 ((3 : Int32) * a3) u) (fun r19 => if r8 = r19 then Option.bind (f_X1_cellOf_1 a1 (((3 : Int32) * a2) + (1 : Int32)) u) (fun r37 => Option.bind (f_X1_cellOf_1 a1 (((3 : Int32) * a3) + (1 : Int32)) u) (fun r52 => Option.bind (f_X1_cellOf_1 a1 (((3 : Int32) * a2) + (2 : Int32)) u) (fun r67 => if r67 = (1 : Int32) then f_X3_isContradiction_L79 u a1 a3 r37 r52 (1 : Int32) else f_X3_isContradiction_L79 u a1 a3 r37 r52 (0 : Int32)))) else some (0 : Int32)))
set_option maxRecDepth 20000 in
theorem go_X3_isContradiction (a1 : Int32) (a2 : Int32) (a3 : Int32) (u : xN) : xGm md_X3_isContradiction (rsI (xU u)) (f_X3_isContradiction a1 a2 a3 u) 0 [(0, .ref 0), (1, .int a1), (2, .int a2), (3, .int a3)] [] (xU u) := by
  unfold f_X3_isContradiction
  refine xm_blk0 (pc' := 8) (lv' := [(0, .ref 0), (1, .int a1), (2, .int a2), (3, .int a3)]) (st' := [.int ((3 : Int32) * a2), .int a1, .ref 1]) (u' := (xU u)) [(.aload_n 0, (0, 0, 0), 0, 0), (.getfield 14, (3, 0, 206), 0, 0), (.iload_n 1, (0, 0, 0), 0, 0), (.iconst 3, (0, 0, 0), 3, 0), (.iload_n 2, (0, 0, 0), 0, 0), (.imul, (0, 0, 0), 0, 0)] (by decide +kernel) rfl ?_
  refine xm_Vi (pc := 8) (mz := md_X1_cellOf_1) (idx := 67) (p1 := 292) (a := 1) (as := [.int a1, .int ((3 : Int32) * a2)]) (st := []) (ev_X1_cellOf_1 a1 ((3 : Int32) * a2) u) mw_X1_cellOf (by decide +kernel) (by decide +kernel) (by decide) rfl rfl (by decide) rfl (Nat.le_of_ble_eq_true rfl) (fun r8 => ?_)
  refine xm_blk0 (pc' := 19) (lv' := [(0, .ref 0), (1, .int a1), (2, .int a2), (3, .int a3)]) (st' := [.int ((3 : Int32) * a3), .int a1, .ref 1, .int r8]) (u' := (xU u)) [(.aload_n 0, (0, 0, 0), 0, 0), (.getfield 14, (3, 0, 206), 0, 0), (.iload_n 1, (0, 0, 0), 0, 0), (.iconst 3, (0, 0, 0), 3, 0), (.iload_n 3, (0, 0, 0), 0, 0), (.imul, (0, 0, 0), 0, 0)] (by decide +kernel) rfl ?_
  refine xm_Vi (pc := 19) (mz := md_X1_cellOf_1) (idx := 67) (p1 := 292) (a := 1) (as := [.int a1, .int ((3 : Int32) * a3)]) (st := [.int r8]) (ev_X1_cellOf_1 a1 ((3 : Int32) * a3) u) mw_X1_cellOf (by decide +kernel) (by decide +kernel) (by decide) rfl rfl (by decide) rfl (Nat.le_of_ble_eq_true rfl) (fun r19 => ?_)
  refine xm_icmp_eq (pc := 22) (off := 5) (tgt := 27) (by decide +kernel) (by decide) ?_ ?_
  · refine xm_blk0 (pc' := 37) (lv' := [(0, .ref 0), (1, .int a1), (2, .int a2), (3, .int a3)]) (st' := [.int (((3 : Int32) * a2) + (1 : Int32)), .int a1, .ref 1]) (u' := (xU u)) [(.aload_n 0, (0, 0, 0), 0, 0), (.getfield 14, (3, 0, 206), 0, 0), (.iload_n 1, (0, 0, 0), 0, 0), (.iconst 3, (0, 0, 0), 3, 0), (.iload_n 2, (0, 0, 0), 0, 0), (.imul, (0, 0, 0), 0, 0), (.iconst 1, (0, 0, 0), 1, 0), (.iadd, (0, 0, 0), 0, 0)] (by decide +kernel) rfl ?_
    refine xm_Vi (pc := 37) (mz := md_X1_cellOf_1) (idx := 67) (p1 := 292) (a := 1) (as := [.int a1, .int (((3 : Int32) * a2) + (1 : Int32))]) (st := []) (ev_X1_cellOf_1 a1 (((3 : Int32) * a2) + (1 : Int32)) u) mw_X1_cellOf (by decide +kernel) (by decide +kernel) (by decide) rfl rfl (by decide) rfl (Nat.le_of_ble_eq_true rfl) (fun r37 => ?_)
    refine xm_blk0 (pc' := 52) (lv' := [(0, .ref 0), (1, .int a1), (2, .int a2), (3, .int a3), (4, .int r37)]) (st' := [.int (((3 : Int32) * a3) + (1 : Int32)), .int a1, .ref 1]) (u' := (xU u)) [(.istore 4, (0, 0, 0), 0, 0), (.aload_n 0, (0, 0, 0), 0, 0), (.getfield 14, (3, 0, 206), 0, 0), (.iload_n 1, (0, 0, 0), 0, 0), (.iconst 3, (0, 0, 0), 3, 0), (.iload_n 3, (0, 0, 0), 0, 0), (.imul, (0, 0, 0), 0, 0), (.iconst 1, (0, 0, 0), 1, 0), (.iadd, (0, 0, 0), 0, 0)] (by decide +kernel) rfl ?_
    refine xm_Vi (pc := 52) (mz := md_X1_cellOf_1) (idx := 67) (p1 := 292) (a := 1) (as := [.int a1, .int (((3 : Int32) * a3) + (1 : Int32))]) (st := []) (ev_X1_cellOf_1 a1 (((3 : Int32) * a3) + (1 : Int32)) u) mw_X1_cellOf (by decide +kernel) (by decide +kernel) (by decide) rfl rfl (by decide) rfl (Nat.le_of_ble_eq_true rfl) (fun r52 => ?_)
    refine xm_blk0 (pc' := 67) (lv' := [(0, .ref 0), (1, .int a1), (2, .int a2), (3, .int a3), (4, .int r37), (5, .int r52)]) (st' := [.int (((3 : Int32) * a2) + (2 : Int32)), .int a1, .ref 1]) (u' := (xU u)) [(.istore 5, (0, 0, 0), 0, 0), (.aload_n 0, (0, 0, 0), 0, 0), (.getfield 14, (3, 0, 206), 0, 0), (.iload_n 1, (0, 0, 0), 0, 0), (.iconst 3, (0, 0, 0), 3, 0), (.iload_n 2, (0, 0, 0), 0, 0), (.imul, (0, 0, 0), 0, 0), (.iconst 2, (0, 0, 0), 2, 0), (.iadd, (0, 0, 0), 0, 0)] (by decide +kernel) rfl ?_
    refine xm_Vi (pc := 67) (mz := md_X1_cellOf_1) (idx := 67) (p1 := 292) (a := 1) (as := [.int a1, .int (((3 : Int32) * a2) + (2 : Int32))]) (st := []) (ev_X1_cellOf_1 a1 (((3 : Int32) * a2) + (2 : Int32)) u) mw_X1_cellOf (by decide +kernel) (by decide +kernel) (by decide) rfl rfl (by decide) rfl (Nat.le_of_ble_eq_true rfl) (fun r67 => ?_)
    refine xm_blk0 (pc' := 71) (lv' := [(0, .ref 0), (1, .int a1), (2, .int a2), (3, .int a3), (4, .int r37), (5, .int r52)]) (st' := [.int (1 : Int32), .int r67]) (u' := (xU u)) [(.iconst 1, (0, 0, 0), 1, 0)] (by decide +kernel) rfl ?_
    refine xm_icmp_ne (pc := 71) (off := 7) (tgt := 78) (by decide +kernel) (by decide) ?_ ?_
    · refine xm_blk0 (pc' := 79) (lv' := [(0, .ref 0), (1, .int a1), (2, .int a2), (3, .int a3), (4, .int r37), (5, .int r52)]) (st' := [.int (0 : Int32)]) (u' := (xU u)) [(.iconst 0, (0, 0, 0), 0, 0)] (by decide +kernel) rfl ?_
      refine xm_wk [0, 1, 3, 4, 5] (lv' := [(0, .ref 0), (1, .int a1), (3, .int a3), (4, .int r37), (5, .int r52)]) rfl ?_
      exact go_X3_isContradiction_L79 u a1 a3 r37 r52 (0 : Int32)
    · refine xm_blk0 (pc' := 75) (lv' := [(0, .ref 0), (1, .int a1), (2, .int a2), (3, .int a3), (4, .int r37), (5, .int r52)]) (st' := [.int (1 : Int32)]) (u' := (xU u)) [(.iconst 1, (0, 0, 0), 1, 0)] (by decide +kernel) rfl ?_
      refine xm_goto (pc := 75) (off := 4) (tgt := 79) (by decide +kernel) (by decide) ?_
      refine xm_wk [0, 1, 3, 4, 5] (lv' := [(0, .ref 0), (1, .int a1), (3, .int a3), (4, .int r37), (5, .int r52)]) rfl ?_
      exact go_X3_isContradiction_L79 u a1 a3 r37 r52 (1 : Int32)
  · refine xm_blk0 (pc' := 26) (lv' := [(0, .ref 0), (1, .int a1), (2, .int a2), (3, .int a3)]) (st' := [.int (0 : Int32)]) (u' := (xU u)) [(.iconst 0, (0, 0, 0), 0, 0)] (by decide +kernel) rfl ?_
    exact xm_zret0 (pc := 26) (by decide +kernel) rfl (by decide) rfl
theorem ev_X3_isContradiction (a1 : Int32) (a2 : Int32) (a3 : Int32) (u : xN) : ∀ r, f_X3_isContradiction a1 a2 a3 u = some r → xEm md_X3_isContradiction yX3_isContradiction [.ref 0, .int a1, .int a2, .int a3] (xU u) (some (.int r), (xU u)) := xm_met (res := (rsI (xU u))) (as := [.ref 0, .int a1, .int a2, .int a3]) (go_X3_isContradiction a1 a2 a3 u) (by decide) rfl (Nat.le_of_ble_eq_true rfl)
theorem mw_X3_contradict : xMv yX3_contradict cX3_contradict 8 (some .int) 1 := xMv_of (p1 := 673) (p2 := 671) (p3 := 92) (p4 := 672) (by decide +kernel)
/-! NeitherBare.contradict(I)I (0, None) -/
abbrev md_X3_contradict : xMd := (cX3_contradict, RX3, 8, some .int, 4)
def f_X3_contradict_L77 (N : Nat) (rec35 : Int32 → Int32 → Int32 → Int32 → Int32 → xN → Option (Int32 × xN)) (rec45 : Int32 → Int32 → Int32 → Int32 → Int32 → Int32 → xN → Option (Int32 × xN)) (v1 : Int32) (v3 : Int32) (v4 : Int32) (v5 : Int32) (v6 : Int32) (v7 : Int32) (u : xN) : Option (Int32 × xN) := rec45 v1 v3 v4 v5 v6 (v7 + (-1 : Int32)) u
set_option maxRecDepth 20000 in
theorem go_X3_contradict_L77 (N : Nat) (rec35 : Int32 → Int32 → Int32 → Int32 → Int32 → xN → Option (Int32 × xN)) (h35 : ∀ (v1 : Int32) (v3 : Int32) (v4 : Int32) (v5 : Int32) (v6 : Int32) (u : xN), xGm md_X3_contradict rsM (rec35 v1 v3 v4 v5 v6 u) 35 [(0, .ref 0), (1, .int v1), (3, .int v3), (4, .int v4), (5, .int v5), (6, .int v6)] [] (xU u)) (rec45 : Int32 → Int32 → Int32 → Int32 → Int32 → Int32 → xN → Option (Int32 × xN)) (h45 : ∀ (v1 : Int32) (v3 : Int32) (v4 : Int32) (v5 : Int32) (v6 : Int32) (v7 : Int32) (u : xN), xGm md_X3_contradict rsM (rec45 v1 v3 v4 v5 v6 v7 u) 45 [(0, .ref 0), (1, .int v1), (3, .int v3), (4, .int v4), (5, .int v5), (6, .int v6), (7, .int v7)] [] (xU u)) (v1 : Int32) (v3 : Int32) (v4 : Int32) (v5 : Int32) (v6 : Int32) (v7 : Int32) (u : xN) : xGm md_X3_contradict rsM (f_X3_contradict_L77 N rec35 rec45 v1 v3 v4 v5 v6 v7 u) 77 [(0, .ref 0), (1, .int v1), (3, .int v3), (4, .int v4), (5, .int v5), (6, .int v6), (7, .int v7)] [] (xU u) := by
  unfold f_X3_contradict_L77
  refine xm_blk0 (pc' := 80) (lv' := [(0, .ref 0), (1, .int v1), (3, .int v3), (4, .int v4), (5, .int v5), (6, .int v6), (7, .int (v7 + (-1 : Int32)))]) (st' := []) (u' := (xU u)) [(.iinc 7 (-1), (0, 0, 0), -1, 0)] (by decide +kernel) rfl ?_
  refine xm_goto (pc := 80) (off := -35) (tgt := 45) (by decide +kernel) (by decide) ?_
  exact h45 v1 v3 v4 v5 v6 (v7 + (-1 : Int32)) u
def f_X3_contradict_L45b (N : Nat) (rec35 : Int32 → Int32 → Int32 → Int32 → Int32 → xN → Option (Int32 × xN)) (rec45 : Int32 → Int32 → Int32 → Int32 → Int32 → Int32 → xN → Option (Int32 × xN)) (v1 : Int32) (v3 : Int32) (v4 : Int32) (v5 : Int32) (v6 : Int32) (v7 : Int32) (u : xN) : Option (Int32 × xN) := if v7 ≤ v6 then rec35 v1 v3 v4 v5 (v6 + (-1 : Int32)) u else Option.bind (f_X3_isContradiction v1 v6 v7 u) (fun r58 => if r58 = (0 : Int32) then f_X3_contradict_L77 N rec35 rec45 v1 v3 v4 v5 v6 v7 u else f_X3_contradict_L77 N rec35 rec45 v1 v3 (v4 + (1 : Int32)) (((100 : Int32) * v6) + v7) v6 v7 u)
set_option maxRecDepth 20000 in
theorem go_X3_contradict_L45b (N : Nat) (rec35 : Int32 → Int32 → Int32 → Int32 → Int32 → xN → Option (Int32 × xN)) (h35 : ∀ (v1 : Int32) (v3 : Int32) (v4 : Int32) (v5 : Int32) (v6 : Int32) (u : xN), xGm md_X3_contradict rsM (rec35 v1 v3 v4 v5 v6 u) 35 [(0, .ref 0), (1, .int v1), (3, .int v3), (4, .int v4), (5, .int v5), (6, .int v6)] [] (xU u)) (rec45 : Int32 → Int32 → Int32 → Int32 → Int32 → Int32 → xN → Option (Int32 × xN)) (h45 : ∀ (v1 : Int32) (v3 : Int32) (v4 : Int32) (v5 : Int32) (v6 : Int32) (v7 : Int32) (u : xN), xGm md_X3_contradict rsM (rec45 v1 v3 v4 v5 v6 v7 u) 45 [(0, .ref 0), (1, .int v1), (3, .int v3), (4, .int v4), (5, .int v5), (6, .int v6), (7, .int v7)] [] (xU u)) (v1 : Int32) (v3 : Int32) (v4 : Int32) (v5 : Int32) (v6 : Int32) (v7 : Int32) (u : xN) : xGm md_X3_contradict rsM (f_X3_contradict_L45b N rec35 rec45 v1 v3 v4 v5 v6 v7 u) 45 [(0, .ref 0), (1, .int v1), (3, .int v3), (4, .int v4), (5, .int v5), (6, .int v6), (7, .int v7)] [] (xU u) := by
  unfold f_X3_contradict_L45b
  refine xm_blk0 (pc' := 49) (lv' := [(0, .ref 0), (1, .int v1), (3, .int v3), (4, .int v4), (5, .int v5), (6, .int v6), (7, .int v7)]) (st' := [.int v6, .int v7]) (u' := (xU u)) [(.iload 7, (0, 0, 0), 0, 0), (.iload 6, (0, 0, 0), 0, 0)] (by decide +kernel) rfl ?_
  refine xm_icmp_le (pc := 49) (off := 34) (tgt := 83) (by decide +kernel) (by decide) ?_ ?_
  · refine xm_blk0 (pc' := 86) (lv' := [(0, .ref 0), (1, .int v1), (3, .int v3), (4, .int v4), (5, .int v5), (6, .int (v6 + (-1 : Int32))), (7, .int v7)]) (st' := []) (u' := (xU u)) [(.iinc 6 (-1), (0, 0, 0), -1, 0)] (by decide +kernel) rfl ?_
    refine xm_goto (pc := 86) (off := -51) (tgt := 35) (by decide +kernel) (by decide) ?_
    refine xm_wk [0, 1, 2, 3, 4, 5] (lv' := [(0, .ref 0), (1, .int v1), (3, .int v3), (4, .int v4), (5, .int v5), (6, .int (v6 + (-1 : Int32)))]) rfl ?_
    exact h35 v1 v3 v4 v5 (v6 + (-1 : Int32)) u
  · refine xm_blk0 (pc' := 58) (lv' := [(0, .ref 0), (1, .int v1), (3, .int v3), (4, .int v4), (5, .int v5), (6, .int v6), (7, .int v7)]) (st' := [.int v7, .int v6, .int v1, .ref 0]) (u' := (xU u)) [(.aload_n 0, (0, 0, 0), 0, 0), (.iload_n 1, (0, 0, 0), 0, 0), (.iload 6, (0, 0, 0), 0, 0), (.iload 7, (0, 0, 0), 0, 0)] (by decide +kernel) rfl ?_
    refine xm_Vi (pc := 58) (mz := md_X3_isContradiction) (idx := 268) (p1 := 681) (a := 0) (as := [.int v1, .int v6, .int v7]) (st := []) (ev_X3_isContradiction v1 v6 v7 u) mw_X3_isContradiction (by decide +kernel) (by decide +kernel) (by decide) rfl rfl (by decide) rfl (Nat.le_of_ble_eq_true rfl) (fun r58 => ?_)
    refine xm_if_eq (pc := 61) (off := 16) (tgt := 77) (by decide +kernel) (by decide) ?_ ?_
    · exact go_X3_contradict_L77 N rec35 h35 rec45 h45 v1 v3 v4 v5 v6 v7 u
    · refine xm_blk0 (pc' := 77) (lv' := [(0, .ref 0), (1, .int v1), (3, .int v3), (4, .int (v4 + (1 : Int32))), (5, .int (((100 : Int32) * v6) + v7)), (6, .int v6), (7, .int v7)]) (st' := []) (u' := (xU u)) [(.iinc 4 1, (0, 0, 0), 1, 0), (.bipush 100, (0, 0, 0), 100, 0), (.iload 6, (0, 0, 0), 0, 0), (.imul, (0, 0, 0), 0, 0), (.iload 7, (0, 0, 0), 0, 0), (.iadd, (0, 0, 0), 0, 0), (.istore 5, (0, 0, 0), 0, 0)] (by decide +kernel) rfl ?_
      exact go_X3_contradict_L77 N rec35 h35 rec45 h45 v1 v3 (v4 + (1 : Int32)) (((100 : Int32) * v6) + v7) v6 v7 u
def f_X3_contradict_L45 (N : Nat) (rec35 : Int32 → Int32 → Int32 → Int32 → Int32 → xN → Option (Int32 × xN)) : Nat → Int32 → Int32 → Int32 → Int32 → Int32 → Int32 → xN → Option (Int32 × xN)
  | 0 => fun _ _ _ _ _ _ _ => none
  | n + 1 => fun v1 v3 v4 v5 v6 v7 u => f_X3_contradict_L45b N rec35 (f_X3_contradict_L45 N rec35 n) v1 v3 v4 v5 v6 v7 u
theorem go_X3_contradict_L45 (N : Nat) (rec35 : Int32 → Int32 → Int32 → Int32 → Int32 → xN → Option (Int32 × xN)) (h35 : ∀ (v1 : Int32) (v3 : Int32) (v4 : Int32) (v5 : Int32) (v6 : Int32) (u : xN), xGm md_X3_contradict rsM (rec35 v1 v3 v4 v5 v6 u) 35 [(0, .ref 0), (1, .int v1), (3, .int v3), (4, .int v4), (5, .int v5), (6, .int v6)] [] (xU u)) : ∀ (n : Nat) (v1 : Int32) (v3 : Int32) (v4 : Int32) (v5 : Int32) (v6 : Int32) (v7 : Int32) (u : xN), xGm md_X3_contradict rsM (f_X3_contradict_L45 N rec35 n v1 v3 v4 v5 v6 v7 u) 45 [(0, .ref 0), (1, .int v1), (3, .int v3), (4, .int v4), (5, .int v5), (6, .int v6), (7, .int v7)] [] (xU u) := by
  intro n
  induction n with
  | zero => intro v1 v3 v4 v5 v6 v7 u; exact xm_none
  | succ n ih => intro v1 v3 v4 v5 v6 v7 u; exact go_X3_contradict_L45b N rec35 h35 _ ih v1 v3 v4 v5 v6 v7 u
def f_X3_contradict_L35b (N : Nat) (rec35 : Int32 → Int32 → Int32 → Int32 → Int32 → xN → Option (Int32 × xN)) (v1 : Int32) (v3 : Int32) (v4 : Int32) (v5 : Int32) (v6 : Int32) (u : xN) : Option (Int32 × xN) := if v6 < (0 : Int32) then some (v4, mI u 0 10 v5) else f_X3_contradict_L45 N rec35 N v1 v3 v4 v5 v6 (v3 - (1 : Int32)) u
set_option maxRecDepth 20000 in
theorem go_X3_contradict_L35b (N : Nat) (rec35 : Int32 → Int32 → Int32 → Int32 → Int32 → xN → Option (Int32 × xN)) (h35 : ∀ (v1 : Int32) (v3 : Int32) (v4 : Int32) (v5 : Int32) (v6 : Int32) (u : xN), xGm md_X3_contradict rsM (rec35 v1 v3 v4 v5 v6 u) 35 [(0, .ref 0), (1, .int v1), (3, .int v3), (4, .int v4), (5, .int v5), (6, .int v6)] [] (xU u)) (v1 : Int32) (v3 : Int32) (v4 : Int32) (v5 : Int32) (v6 : Int32) (u : xN) : xGm md_X3_contradict rsM (f_X3_contradict_L35b N rec35 v1 v3 v4 v5 v6 u) 35 [(0, .ref 0), (1, .int v1), (3, .int v3), (4, .int v4), (5, .int v5), (6, .int v6)] [] (xU u) := by
  unfold f_X3_contradict_L35b
  refine xm_blk0 (pc' := 37) (lv' := [(0, .ref 0), (1, .int v1), (3, .int v3), (4, .int v4), (5, .int v5), (6, .int v6)]) (st' := [.int v6]) (u' := (xU u)) [(.iload 6, (0, 0, 0), 0, 0)] (by decide +kernel) rfl ?_
  refine xm_if_lt (pc := 37) (off := 52) (tgt := 89) (by decide +kernel) (by decide) ?_ ?_
  · refine xm_blk0 (pc' := 97) (lv' := [(0, .ref 0), (1, .int v1), (3, .int v3), (4, .int v4), (5, .int v5), (6, .int v6)]) (st' := [.int v4]) (u' := (xU (mI u 0 10 v5))) [(.aload_n 0, (0, 0, 0), 0, 0), (.iload 5, (0, 0, 0), 0, 0), (.putfield 71, (3, 10, 216), 0, 0), (.iload 4, (0, 0, 0), 0, 0)] (by decide +kernel) rfl ?_
    exact xm_iret (pc := 97) (by decide +kernel) rfl rfl
  · refine xm_blk0 (pc' := 45) (lv' := [(0, .ref 0), (1, .int v1), (3, .int v3), (4, .int v4), (5, .int v5), (6, .int v6), (7, .int (v3 - (1 : Int32)))]) (st' := []) (u' := (xU u)) [(.iload_n 3, (0, 0, 0), 0, 0), (.iconst 1, (0, 0, 0), 1, 0), (.isub, (0, 0, 0), 0, 0), (.istore 7, (0, 0, 0), 0, 0)] (by decide +kernel) rfl ?_
    exact go_X3_contradict_L45 N rec35 h35 N v1 v3 v4 v5 v6 (v3 - (1 : Int32)) u
def f_X3_contradict_L35 (N : Nat) : Nat → Int32 → Int32 → Int32 → Int32 → Int32 → xN → Option (Int32 × xN)
  | 0 => fun _ _ _ _ _ _ => none
  | n + 1 => fun v1 v3 v4 v5 v6 u => f_X3_contradict_L35b N (f_X3_contradict_L35 N n) v1 v3 v4 v5 v6 u
theorem go_X3_contradict_L35 (N : Nat) : ∀ (n : Nat) (v1 : Int32) (v3 : Int32) (v4 : Int32) (v5 : Int32) (v6 : Int32) (u : xN), xGm md_X3_contradict rsM (f_X3_contradict_L35 N n v1 v3 v4 v5 v6 u) 35 [(0, .ref 0), (1, .int v1), (3, .int v3), (4, .int v4), (5, .int v5), (6, .int v6)] [] (xU u) := by
  intro n
  induction n with
  | zero => intro v1 v3 v4 v5 v6 u; exact xm_none
  | succ n ih => intro v1 v3 v4 v5 v6 u; exact go_X3_contradict_L35b N _ ih v1 v3 v4 v5 v6 u
def f_X3_contradict (N : Nat) (a1 : Int32) (u : xN) : Option (Int32 × xN) := Option.bind (f_X3_refusedRulings N a1 u) (fun r2 => if r2.1 = (0 : Int32) then Option.bind (f_X1_sizeOf_1 a1 r2.2) (fun r17 => gdl [nzi (3 : Int32)] (f_X3_contradict_L35 N N a1 (r17 / (3 : Int32)) (0 : Int32) (-9 : Int32) ((r17 / (3 : Int32)) - (1 : Int32)) r2.2)) else some (r2.1, r2.2))
set_option maxRecDepth 20000 in
theorem go_X3_contradict (N : Nat) (a1 : Int32) (u : xN) : xGm md_X3_contradict rsM (f_X3_contradict N a1 u) 0 [(0, .ref 0), (1, .int a1)] [] (xU u) := by
  unfold f_X3_contradict
  refine xm_blk0 (pc' := 2) (lv' := [(0, .ref 0), (1, .int a1)]) (st' := [.int a1, .ref 0]) (u' := (xU u)) [(.aload_n 0, (0, 0, 0), 0, 0), (.iload_n 1, (0, 0, 0), 0, 0)] (by decide +kernel) rfl ?_
  refine xm_Vm (pc := 2) (mz := md_X3_refusedRulings) (idx := 265) (p1 := 674) (a := 0) (as := [.int a1]) (st := []) (ev_X3_refusedRulings N a1 u) mw_X3_refusedRulings (by decide +kernel) (by decide +kernel) (by decide) rfl rfl (by decide) rfl (Nat.le_of_ble_eq_true rfl) (fun r2 => ?_)
  refine xm_blk0 (pc' := 7) (lv' := [(0, .ref 0), (1, .int a1), (2, .int r2.1)]) (st' := [.int r2.1]) (u' := (xU r2.2)) [(.istore_n 2, (0, 0, 0), 0, 0), (.iload_n 2, (0, 0, 0), 0, 0)] (by decide +kernel) rfl ?_
  refine xm_if_eq (pc := 7) (off := 5) (tgt := 12) (by decide +kernel) (by decide) ?_ ?_
  · refine xm_blk0 (pc' := 17) (lv' := [(0, .ref 0), (1, .int a1), (2, .int r2.1)]) (st' := [.int a1, .ref 1]) (u' := (xU r2.2)) [(.aload_n 0, (0, 0, 0), 0, 0), (.getfield 14, (3, 0, 206), 0, 0), (.iload_n 1, (0, 0, 0), 0, 0)] (by decide +kernel) rfl ?_
    refine xm_Vi (pc := 17) (mz := md_X1_sizeOf_1) (idx := 104) (p1 := 327) (a := 1) (as := [.int a1]) (st := []) (ev_X1_sizeOf_1 a1 r2.2) mw_X1_sizeOf (by decide +kernel) (by decide +kernel) (by decide) rfl rfl (by decide) rfl (Nat.le_of_ble_eq_true rfl) (fun r17 => ?_)
    refine xm_blk (bs := [nzi (3 : Int32)]) (pc' := 35) (lv' := [(0, .ref 0), (1, .int a1), (2, .int r2.1), (3, .int (r17 / (3 : Int32))), (4, .int (0 : Int32)), (5, .int (-9 : Int32)), (6, .int ((r17 / (3 : Int32)) - (1 : Int32)))]) (st' := []) (u' := (xU r2.2)) [(.iconst 3, (0, 0, 0), 3, 0), (.idiv, (0, 0, 0), 0, 0), (.istore_n 3, (0, 0, 0), 0, 0), (.iconst 0, (0, 0, 0), 0, 0), (.istore 4, (0, 0, 0), 0, 0), (.bipush (-9), (0, 0, 0), -9, 0), (.istore 5, (0, 0, 0), 0, 0), (.iload_n 3, (0, 0, 0), 0, 0), (.iconst 1, (0, 0, 0), 1, 0), (.isub, (0, 0, 0), 0, 0), (.istore 6, (0, 0, 0), 0, 0)] (by decide +kernel) rfl ?_
    refine xm_wk [0, 1, 3, 4, 5, 6] (lv' := [(0, .ref 0), (1, .int a1), (3, .int (r17 / (3 : Int32))), (4, .int (0 : Int32)), (5, .int (-9 : Int32)), (6, .int ((r17 / (3 : Int32)) - (1 : Int32)))]) rfl ?_
    exact go_X3_contradict_L35 N N a1 (r17 / (3 : Int32)) (0 : Int32) (-9 : Int32) ((r17 / (3 : Int32)) - (1 : Int32)) r2.2
  · refine xm_blk0 (pc' := 11) (lv' := [(0, .ref 0), (1, .int a1), (2, .int r2.1)]) (st' := [.int r2.1]) (u' := (xU r2.2)) [(.iload_n 2, (0, 0, 0), 0, 0)] (by decide +kernel) rfl ?_
    exact xm_iret (pc := 11) (by decide +kernel) rfl rfl
theorem ev_X3_contradict (N : Nat) (a1 : Int32) (u : xN) : ∀ r, f_X3_contradict N a1 u = some r → xEm md_X3_contradict yX3_contradict [.ref 0, .int a1] (xU u) (some (.int r.1), xU r.2) := xm_met (res := rsM) (as := [.ref 0, .int a1]) (go_X3_contradict N a1 u) (by decide) rfl (Nat.le_of_ble_eq_true rfl)
