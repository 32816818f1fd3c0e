theorem mw_X4_border : xMv yX4_border cX4_border 3 (some .int) 2 := xMv_of (p1 := 1078) (p2 := 1076) (p3 := 97) (p4 := 1077) (by decide +kernel)
/-! NeitherBareModel.border(II)I (39, None, None) -/
abbrev md_X4_border : xMd := (cX4_border, RX4, 3, some .int, 3)
def f_X4_border_L33 (u : xN) (t0 : Int32) : Option Int32 := some t0
set_option maxRecDepth 20000 in
theorem go_X4_border_L33 (u : xN) (t0 : Int32) : xGm md_X4_border (rsI (xU u)) (f_X4_border_L33 u t0) 33 [] [.int t0] (xU u) := by
  unfold f_X4_border_L33
  exact xm_iret (pc := 33) (by decide +kernel) rfl rfl
def f_X4_border_L32 (u : xN) : Option Int32 := f_X4_border_L33 u (-1 : Int32)
set_option maxRecDepth 20000 in
theorem go_X4_border_L32 (u : xN) : xGm md_X4_border (rsI (xU u)) (f_X4_border_L32 u) 32 [] [] (xU u) := by
  unfold f_X4_border_L32
  refine xm_blk0 (pc' := 33) (lv' := []) (st' := [.int (-1 : Int32)]) (u' := (xU u)) [(.iconst (-1), (0, 0, 0), -1, 0)] (by decide +kernel) rfl ?_
  exact go_X4_border_L33 u (-1 : Int32)
def f_X4_border (a1 : Int32) (a2 : Int32) (u : xN) : Option Int32 := Option.bind (f_X4_isTrait a1) (fun r1 => if r1 = (0 : Int32) then f_X4_border_L32 u else Option.bind (f_X4_in (Int32.toInt64 a2) (0 : Int64) (1 : Int64)) (fun r11 => if r11 = (0 : Int32) then f_X4_border_L32 u else gdl [inb (((2 : Int32) + ((2 : Int32) * a1)) + a2) 1480] (f_X4_border_L33 u (u.1 40 (Int32.toNatClampNeg (((2 : Int32) + ((2 : Int32) * a1)) + a2))))))
set_option maxRecDepth 20000 in
theorem go_X4_border (a1 : Int32) (a2 : Int32) (u : xN) : xGm md_X4_border (rsI (xU u)) (f_X4_border a1 a2 u) 0 [(0, .ref 39), (1, .int a1), (2, .int a2)] [] (xU u) := by
  unfold f_X4_border
  refine xm_blk0 (pc' := 1) (lv' := [(0, .ref 39), (1, .int a1), (2, .int a2)]) (st' := [.int a1]) (u' := (xU u)) [(.iload_n 1, (0, 0, 0), 0, 0)] (by decide +kernel) rfl ?_
  refine xm_Si (pc := 1) (mz := md_X4_isTrait) (idx := 209) (p1 := 1079) (as := [.int a1]) (st := []) (ev_X4_isTrait a1 u) mw_X4_isTrait (by decide +kernel) (by decide +kernel) (by decide) rfl (Nat.le_of_ble_eq_true rfl) (fun r1 => ?_)
  refine xm_if_eq (pc := 4) (off := 28) (tgt := 32) (by decide +kernel) (by decide) ?_ ?_
  · refine xm_wk [] (lv' := []) rfl ?_
    exact go_X4_border_L32 u
  · refine xm_blk0 (pc' := 11) (lv' := [(0, .ref 39), (1, .int a1), (2, .int a2)]) (st' := [.long (1 : Int64), .long (0 : Int64), .long (Int32.toInt64 a2)]) (u' := (xU u)) [(.iload_n 2, (0, 0, 0), 0, 0), (.i2l, (0, 0, 0), 0, 0), (.lconst 0, (0, 0, 0), 0, 0), (.lconst 1, (0, 0, 0), 0, 1)] (by decide +kernel) rfl ?_
    refine xm_Si (pc := 11) (mz := md_X4_in) (idx := 72) (p1 := 905) (as := [.long (Int32.toInt64 a2), .long (0 : Int64), .long (1 : Int64)]) (st := []) (ev_X4_in (Int32.toInt64 a2) (0 : Int64) (1 : Int64) u) mw_X4_in (by decide +kernel) (by decide +kernel) (by decide) rfl (Nat.le_of_ble_eq_true rfl) (fun r11 => ?_)
    refine xm_if_eq (pc := 14) (off := 18) (tgt := 32) (by decide +kernel) (by decide) ?_ ?_
    · refine xm_wk [] (lv' := []) rfl ?_
      exact go_X4_border_L32 u
    · refine xm_blk (bs := [inb (((2 : Int32) + ((2 : Int32) * a1)) + a2) 1480]) (pc' := 29) (lv' := [(0, .ref 39), (1, .int a1), (2, .int a2)]) (st' := [.int (u.1 40 (Int32.toNatClampNeg (((2 : Int32) + ((2 : Int32) * a1)) + a2)))]) (u' := (xU u)) [(.aload_n 0, (0, 0, 0), 0, 0), (.getfield 7, (4, 0, 820), 0, 0), (.iconst 2, (0, 0, 0), 2, 0), (.iconst 2, (0, 0, 0), 2, 0), (.iload_n 1, (0, 0, 0), 0, 0), (.imul, (0, 0, 0), 0, 0), (.iadd, (0, 0, 0), 0, 0), (.iload_n 2, (0, 0, 0), 0, 0), (.iadd, (0, 0, 0), 0, 0), (.iaload, (0, 0, 0), 0, 0)] (by decide +kernel) rfl ?_
      refine xm_goto (pc := 29) (off := 4) (tgt := 33) (by decide +kernel) (by decide) ?_
      refine xm_wk [] (lv' := []) rfl ?_
      exact go_X4_border_L33 u (u.1 40 (Int32.toNatClampNeg (((2 : Int32) + ((2 : Int32) * a1)) + a2)))
theorem ev_X4_border (a1 : Int32) (a2 : Int32) (u : xN) : ∀ r, f_X4_border a1 a2 u = some r → xEm md_X4_border yX4_border [.ref 39, .int a1, .int a2] (xU u) (some (.int r), (xU u)) := xm_met (res := (rsI (xU u))) (as := [.ref 39, .int a1, .int a2]) (go_X4_border a1 a2 u) (by decide) rfl (Nat.le_of_ble_eq_true rfl)
theorem mw_X4_keepPast : xMv yX4_keepPast cX4_keepPast 2 none 0 := xMv_of (p1 := 1089) (p2 := 1088) (p3 := 97) (p4 := 66) (by decide +kernel)
/-! NeitherBareModel.keepPast()V (39,) -/
abbrev md_X4_keepPast : xMd := (cX4_keepPast, RX4, 2, none, 1)
def f_X4_keepPast_L2b (N : Nat) (rec2 : Int32 → xN → Option xN) (v1 : Int32) (u : xN) : Option xN := if (9 : Int32) ≤ v1 then (gdl [inb (0 : Int32) 1480, inb (0 : Int32) 1480] (some (mI u 40 (Int32.toNatClampNeg (0 : Int32)) ((u.1 40 (Int32.toNatClampNeg (0 : Int32))) + (1 : Int32))))) else gdl [inb (0 : Int32) 1480, inb ((1 : Int32) + v1) 1480, inb (((10 : Int32) + ((9 : Int32) * (u.1 40 (Int32.toNatClampNeg (0 : Int32))))) + v1) 1480] (rec2 (v1 + (1 : Int32)) (mI u 40 (Int32.toNatClampNeg (((10 : Int32) + ((9 : Int32) * (u.1 40 (Int32.toNatClampNeg (0 : Int32))))) + v1)) (u.1 40 (Int32.toNatClampNeg ((1 : Int32) + v1)))))
set_option maxRecDepth 20000 in
theorem go_X4_keepPast_L2b (N : Nat) (rec2 : Int32 → xN → Option xN) (h2 : ∀ (v1 : Int32) (u : xN), xGm md_X4_keepPast rsV (rec2 v1 u) 2 [(0, .ref 39), (1, .int v1)] [] (xU u)) (v1 : Int32) (u : xN) : xGm md_X4_keepPast rsV (f_X4_keepPast_L2b N rec2 v1 u) 2 [(0, .ref 39), (1, .int v1)] [] (xU u) := by
  unfold f_X4_keepPast_L2b
  refine xm_blk0 (pc' := 5) (lv' := [(0, .ref 39), (1, .int v1)]) (st' := [.int (9 : Int32), .int v1]) (u' := (xU u)) [(.iload_n 1, (0, 0, 0), 0, 0), (.bipush 9, (0, 0, 0), 9, 0)] (by decide +kernel) rfl ?_
  refine xm_icmp_ge (pc := 5) (off := 36) (tgt := 41) (by decide +kernel) (by decide) ?_ ?_
  · refine xm_blk (bs := [inb (0 : Int32) 1480, inb (0 : Int32) 1480]) (pc' := 51) (lv' := [(0, .ref 39), (1, .int v1)]) (st' := []) (u' := (xU (mI u 40 (Int32.toNatClampNeg (0 : Int32)) ((u.1 40 (Int32.toNatClampNeg (0 : Int32))) + (1 : Int32))))) [(.aload_n 0, (0, 0, 0), 0, 0), (.getfield 7, (4, 0, 820), 0, 0), (.iconst 0, (0, 0, 0), 0, 0), (.dup2, (0, 0, 0), 0, 0), (.iaload, (0, 0, 0), 0, 0), (.iconst 1, (0, 0, 0), 1, 0), (.iadd, (0, 0, 0), 0, 0), (.iastore, (0, 0, 0), 0, 0)] (by decide +kernel) rfl ?_
    exact xm_vret (pc := 51) (by decide +kernel) rfl rfl
  · refine xm_blk (bs := [inb (0 : Int32) 1480, inb ((1 : Int32) + v1) 1480, inb (((10 : Int32) + ((9 : Int32) * (u.1 40 (Int32.toNatClampNeg (0 : Int32))))) + v1) 1480]) (pc' := 38) (lv' := [(0, .ref 39), (1, .int (v1 + (1 : Int32)))]) (st' := []) (u' := (xU (mI u 40 (Int32.toNatClampNeg (((10 : Int32) + ((9 : Int32) * (u.1 40 (Int32.toNatClampNeg (0 : Int32))))) + v1)) (u.1 40 (Int32.toNatClampNeg ((1 : Int32) + v1)))))) [(.aload_n 0, (0, 0, 0), 0, 0), (.getfield 7, (4, 0, 820), 0, 0), (.bipush 10, (0, 0, 0), 10, 0), (.bipush 9, (0, 0, 0), 9, 0), (.aload_n 0, (0, 0, 0), 0, 0), (.getfield 7, (4, 0, 820), 0, 0), (.iconst 0, (0, 0, 0), 0, 0), (.iaload, (0, 0, 0), 0, 0), (.imul, (0, 0, 0), 0, 0), (.iadd, (0, 0, 0), 0, 0), (.iload_n 1, (0, 0, 0), 0, 0), (.iadd, (0, 0, 0), 0, 0), (.aload_n 0, (0, 0, 0), 0, 0), (.getfield 7, (4, 0, 820), 0, 0), (.iconst 1, (0, 0, 0), 1, 0), (.iload_n 1, (0, 0, 0), 0, 0), (.iadd, (0, 0, 0), 0, 0), (.iaload, (0, 0, 0), 0, 0), (.iastore, (0, 0, 0), 0, 0), (.iinc 1 1, (0, 0, 0), 1, 0)] (by decide +kernel) rfl ?_
    refine xm_goto (pc := 38) (off := -36) (tgt := 2) (by decide +kernel) (by decide) ?_
    exact h2 (v1 + (1 : Int32)) (mI u 40 (Int32.toNatClampNeg (((10 : Int32) + ((9 : Int32) * (u.1 40 (Int32.toNatClampNeg (0 : Int32))))) + v1)) (u.1 40 (Int32.toNatClampNeg ((1 : Int32) + v1))))
def f_X4_keepPast_L2 (N : Nat) : Nat → Int32 → xN → Option xN
  | 0 => fun _ _ => none
  | n + 1 => fun v1 u => f_X4_keepPast_L2b N (f_X4_keepPast_L2 N n) v1 u
theorem go_X4_keepPast_L2 (N : Nat) : ∀ (n : Nat) (v1 : Int32) (u : xN), xGm md_X4_keepPast rsV (f_X4_keepPast_L2 N n v1 u) 2 [(0, .ref 39), (1, .int v1)] [] (xU u) := by
  intro n
  induction n with
  | zero => intro v1 u; exact xm_none
  | succ n ih => intro v1 u; exact go_X4_keepPast_L2b N _ ih v1 u
def f_X4_keepPast (N : Nat) (u : xN) : Option xN := f_X4_keepPast_L2 N N (0 : Int32) u
set_option maxRecDepth 20000 in
theorem go_X4_keepPast (N : Nat) (u : xN) : xGm md_X4_keepPast rsV (f_X4_keepPast N u) 0 [(0, .ref 39)] [] (xU u) := by
  unfold f_X4_keepPast
  refine xm_blk0 (pc' := 2) (lv' := [(0, .ref 39), (1, .int (0 : Int32))]) (st' := []) (u' := (xU u)) [(.iconst 0, (0, 0, 0), 0, 0), (.istore_n 1, (0, 0, 0), 0, 0)] (by decide +kernel) rfl ?_
  exact go_X4_keepPast_L2 N N (0 : Int32) u
theorem ev_X4_keepPast (N : Nat) (u : xN) : ∀ r, f_X4_keepPast N u = some r → xEm md_X4_keepPast yX4_keepPast [.ref 39] (xU u) (none, xU r) := xm_met (res := rsV) (as := [.ref 39]) (go_X4_keepPast N u) (by decide) rfl (Nat.le_of_ble_eq_true rfl)
theorem mw_X4_bits : xMs yX4_bits cX4_bits 3 (some .int) 1 := xMs_of (p1 := 1092) (p2 := 1091) (p3 := 97) (by decide +kernel)
/-! NeitherBareModel.bits(I)I  -/
abbrev md_X4_bits : xMd := (cX4_bits, RX4, 3, some .int, 1)
def f_X4_bits_L4b (N : Nat) (rec4 : Int32 → Int32 → Int32 → Option Int32) (v0 : Int32) (v1 : Int32) (v2 : Int32) : Option Int32 := if (13 : Int32) ≤ v2 then some v1 else rec4 v0 (v1 + ((v0 >>> (v2 &&& 31)) &&& (1 : Int32))) (v2 + (1 : Int32))
set_option maxRecDepth 20000 in
theorem go_X4_bits_L4b (N : Nat) (u : xN) (rec4 : Int32 → Int32 → Int32 → Option Int32) (h4 : ∀ (v0 : Int32) (v1 : Int32) (v2 : Int32), xGm md_X4_bits (rsI (xU u)) (rec4 v0 v1 v2) 4 [(0, .int v0), (1, .int v1), (2, .int v2)] [] (xU u)) (v0 : Int32) (v1 : Int32) (v2 : Int32) : xGm md_X4_bits (rsI (xU u)) (f_X4_bits_L4b N rec4 v0 v1 v2) 4 [(0, .int v0), (1, .int v1), (2, .int v2)] [] (xU u) := by
  unfold f_X4_bits_L4b
  refine xm_blk0 (pc' := 7) (lv' := [(0, .int v0), (1, .int v1), (2, .int v2)]) (st' := [.int (13 : Int32), .int v2]) (u' := (xU u)) [(.iload_n 2, (0, 0, 0), 0, 0), (.bipush 13, (0, 0, 0), 13, 0)] (by decide +kernel) rfl ?_
  refine xm_icmp_ge (pc := 7) (off := 17) (tgt := 24) (by decide +kernel) (by decide) ?_ ?_
  · refine xm_blk0 (pc' := 25) (lv' := [(0, .int v0), (1, .int v1), (2, .int v2)]) (st' := [.int v1]) (u' := (xU u)) [(.iload_n 1, (0, 0, 0), 0, 0)] (by decide +kernel) rfl ?_
    exact xm_iret (pc := 25) (by decide +kernel) rfl rfl
  · refine xm_blk0 (pc' := 21) (lv' := [(0, .int v0), (1, .int (v1 + ((v0 >>> (v2 &&& 31)) &&& (1 : Int32)))), (2, .int (v2 + (1 : Int32)))]) (st' := []) (u' := (xU u)) [(.iload_n 1, (0, 0, 0), 0, 0), (.iload_n 0, (0, 0, 0), 0, 0), (.iload_n 2, (0, 0, 0), 0, 0), (.ishr, (0, 0, 0), 0, 0), (.iconst 1, (0, 0, 0), 1, 0), (.iand, (0, 0, 0), 0, 0), (.iadd, (0, 0, 0), 0, 0), (.istore_n 1, (0, 0, 0), 0, 0), (.iinc 2 1, (0, 0, 0), 1, 0)] (by decide +kernel) rfl ?_
    refine xm_goto (pc := 21) (off := -17) (tgt := 4) (by decide +kernel) (by decide) ?_
    exact h4 v0 (v1 + ((v0 >>> (v2 &&& 31)) &&& (1 : Int32))) (v2 + (1 : Int32))
def f_X4_bits_L4 (N : Nat) : Nat → Int32 → Int32 → Int32 → Option Int32
  | 0 => fun _ _ _ => none
  | n + 1 => fun v0 v1 v2 => f_X4_bits_L4b N (f_X4_bits_L4 N n) v0 v1 v2
theorem go_X4_bits_L4 (N : Nat) (u : xN) : ∀ (n : Nat) (v0 : Int32) (v1 : Int32) (v2 : Int32), xGm md_X4_bits (rsI (xU u)) (f_X4_bits_L4 N n v0 v1 v2) 4 [(0, .int v0), (1, .int v1), (2, .int v2)] [] (xU u) := by
  intro n
  induction n with
  | zero => intro v0 v1 v2; exact xm_none
  | succ n ih => intro v0 v1 v2; exact go_X4_bits_L4b N u _ ih v0 v1 v2
def f_X4_bits (N : Nat) (a0 : Int32) : Option Int32 := f_X4_bits_L4 N N a0 (0 : Int32) (0 : Int32)
set_option maxRecDepth 20000 in
theorem go_X4_bits (N : Nat) (a0 : Int32) (u : xN) : xGm md_X4_bits (rsI (xU u)) (f_X4_bits N a0) 0 [(0, .int a0)] [] (xU u) := by
  unfold f_X4_bits
  refine xm_blk0 (pc' := 4) (lv' := [(0, .int a0), (1, .int (0 : Int32)), (2, .int (0 : Int32))]) (st' := []) (u' := (xU u)) [(.iconst 0, (0, 0, 0), 0, 0), (.istore_n 1, (0, 0, 0), 0, 0), (.iconst 0, (0, 0, 0), 0, 0), (.istore_n 2, (0, 0, 0), 0, 0)] (by decide +kernel) rfl ?_
  exact go_X4_bits_L4 N u N a0 (0 : Int32) (0 : Int32)
theorem ev_X4_bits (N : Nat) (a0 : Int32) (u : xN) : ∀ r, f_X4_bits N a0 = some r → xEm md_X4_bits yX4_bits [.int a0] (xU u) (some (.int r), (xU u)) := xm_met (res := (rsI (xU u))) (as := [.int a0]) (go_X4_bits N a0 u) (by decide) rfl (Nat.le_of_ble_eq_true rfl)
theorem mw_X4_strike : xMv yX4_strike cX4_strike 3 (some .int) 2 := xMv_of (p1 := 1085) (p2 := 1083) (p3 := 97) (p4 := 1084) (by decide +kernel)
/-! NeitherBareModel.strike(II)I (39, None, None) -/
abbrev md_X4_strike : xMd := (cX4_strike, RX4, 3, some .int, 3)
def f_X4_strike_L18 (N : Nat) (u : xN) : Option (Int32 × xN) := some ((-1 : Int32), u)
set_option maxRecDepth 20000 in
theorem go_X4_strike_L18 (N : Nat) (u : xN) : xGm md_X4_strike rsM (f_X4_strike_L18 N u) 18 [] [] (xU u) := by
  unfold f_X4_strike_L18
  refine xm_blk0 (pc' := 19) (lv' := []) (st' := [.int (-1 : Int32)]) (u' := (xU u)) [(.iconst (-1), (0, 0, 0), -1, 0)] (by decide +kernel) rfl ?_
  exact xm_iret (pc := 19) (by decide +kernel) rfl rfl
def f_X4_strike_L39 (N : Nat) (v1 : Int32) (t0 : Int32) (t1 : Int32) (u : xN) : Option (Int32 × xN) := if t1 = t0 then some ((-4 : Int32), u) else gdl [inb (0 : Int32) 1480] (if (u.1 40 (Int32.toNatClampNeg (0 : Int32))) = (40 : Int32) then some ((-2 : Int32), u) else Option.bind (f_X4_keepPast N u) (fun r60 => gdl [inb (1 : Int32) 1480, inb (1 : Int32) 1480, inb (1 : Int32) 1480] (Option.bind (f_X4_bits N ((mI r60 40 (Int32.toNatClampNeg (1 : Int32)) ((r60.1 40 (Int32.toNatClampNeg (1 : Int32))) ^^^ ((1 : Int32) <<< (v1 &&& 31)))).1 40 (Int32.toNatClampNeg (1 : Int32)))) (fun r81 => some (r81, mI r60 40 (Int32.toNatClampNeg (1 : Int32)) ((r60.1 40 (Int32.toNatClampNeg (1 : Int32))) ^^^ ((1 : Int32) <<< (v1 &&& 31))))))))
set_option maxRecDepth 20000 in
theorem go_X4_strike_L39 (N : Nat) (v1 : Int32) (t0 : Int32) (t1 : Int32) (u : xN) : xGm md_X4_strike rsM (f_X4_strike_L39 N v1 t0 t1 u) 39 [(0, .ref 39), (1, .int v1)] [.int t0, .int t1] (xU u) := by
  unfold f_X4_strike_L39
  refine xm_icmp_ne (pc := 39) (off := 6) (tgt := 45) (by decide +kernel) (by decide) ?_ ?_
  · refine xm_blk (bs := [inb (0 : Int32) 1480]) (pc' := 53) (lv' := [(0, .ref 39), (1, .int v1)]) (st' := [.int (40 : Int32), .int (u.1 40 (Int32.toNatClampNeg (0 : Int32)))]) (u' := (xU u)) [(.aload_n 0, (0, 0, 0), 0, 0), (.getfield 7, (4, 0, 820), 0, 0), (.iconst 0, (0, 0, 0), 0, 0), (.iaload, (0, 0, 0), 0, 0), (.bipush 40, (0, 0, 0), 40, 0)] (by decide +kernel) rfl ?_
    refine xm_icmp_ne (pc := 53) (off := 6) (tgt := 59) (by decide +kernel) (by decide) ?_ ?_
    · refine xm_blk0 (pc' := 60) (lv' := [(0, .ref 39), (1, .int v1)]) (st' := [.ref 39]) (u' := (xU u)) [(.aload_n 0, (0, 0, 0), 0, 0)] (by decide +kernel) rfl ?_
      refine xm_Vv (pc := 60) (mz := md_X4_keepPast) (idx := 212) (p1 := 1086) (a := 39) (as := []) (st := []) (ev_X4_keepPast N u) mw_X4_keepPast (by decide +kernel) (by decide +kernel) (by decide) rfl rfl (by decide) rfl (Nat.le_of_ble_eq_true rfl) (fun r60 => ?_)
      refine xm_blk (bs := [inb (1 : Int32) 1480, inb (1 : Int32) 1480, inb (1 : Int32) 1480]) (pc' := 81) (lv' := [(0, .ref 39), (1, .int v1)]) (st' := [.int ((mI r60 40 (Int32.toNatClampNeg (1 : Int32)) ((r60.1 40 (Int32.toNatClampNeg (1 : Int32))) ^^^ ((1 : Int32) <<< (v1 &&& 31)))).1 40 (Int32.toNatClampNeg (1 : Int32)))]) (u' := (xU (mI r60 40 (Int32.toNatClampNeg (1 : Int32)) ((r60.1 40 (Int32.toNatClampNeg (1 : Int32))) ^^^ ((1 : Int32) <<< (v1 &&& 31)))))) [(.aload_n 0, (0, 0, 0), 0, 0), (.getfield 7, (4, 0, 820), 0, 0), (.iconst 1, (0, 0, 0), 1, 0), (.dup2, (0, 0, 0), 0, 0), (.iaload, (0, 0, 0), 0, 0), (.iconst 1, (0, 0, 0), 1, 0), (.iload_n 1, (0, 0, 0), 0, 0), (.ishl, (0, 0, 0), 0, 0), (.ixor, (0, 0, 0), 0, 0), (.iastore, (0, 0, 0), 0, 0), (.aload_n 0, (0, 0, 0), 0, 0), (.getfield 7, (4, 0, 820), 0, 0), (.iconst 1, (0, 0, 0), 1, 0), (.iaload, (0, 0, 0), 0, 0)] (by decide +kernel) rfl ?_
      refine xm_Si (pc := 81) (mz := md_X4_bits) (idx := 215) (p1 := 1090) (as := [.int ((mI r60 40 (Int32.toNatClampNeg (1 : Int32)) ((r60.1 40 (Int32.toNatClampNeg (1 : Int32))) ^^^ ((1 : Int32) <<< (v1 &&& 31)))).1 40 (Int32.toNatClampNeg (1 : Int32)))]) (st := []) (ev_X4_bits N ((mI r60 40 (Int32.toNatClampNeg (1 : Int32)) ((r60.1 40 (Int32.toNatClampNeg (1 : Int32))) ^^^ ((1 : Int32) <<< (v1 &&& 31)))).1 40 (Int32.toNatClampNeg (1 : Int32))) (mI r60 40 (Int32.toNatClampNeg (1 : Int32)) ((r60.1 40 (Int32.toNatClampNeg (1 : Int32))) ^^^ ((1 : Int32) <<< (v1 &&& 31))))) mw_X4_bits (by decide +kernel) (by decide +kernel) (by decide) rfl (Nat.le_of_ble_eq_true rfl) (fun r81 => ?_)
      exact xm_iret (pc := 84) (by decide +kernel) rfl rfl
    · refine xm_blk0 (pc' := 58) (lv' := [(0, .ref 39), (1, .int v1)]) (st' := [.int (-2 : Int32)]) (u' := (xU u)) [(.bipush (-2), (0, 0, 0), -2, 0)] (by decide +kernel) rfl ?_
      exact xm_iret (pc := 58) (by decide +kernel) rfl rfl
  · refine xm_blk0 (pc' := 44) (lv' := [(0, .ref 39), (1, .int v1)]) (st' := [.int (-4 : Int32)]) (u' := (xU u)) [(.bipush (-4), (0, 0, 0), -4, 0)] (by decide +kernel) rfl ?_
    exact xm_iret (pc := 44) (by decide +kernel) rfl rfl
def f_X4_strike (N : Nat) (a1 : Int32) (a2 : Int32) (u : xN) : Option (Int32 × xN) := Option.bind (f_X4_isClause a1 u) (fun r2 => if r2 = (0 : Int32) then f_X4_strike_L18 N u else Option.bind (f_X4_in (Int32.toInt64 a2) (0 : Int64) (1 : Int64)) (fun r12 => if r12 = (0 : Int32) then f_X4_strike_L18 N u else gdl [inb (1 : Int32) 1480] (Option.bind (f_X4_has (u.1 40 (Int32.toNatClampNeg (1 : Int32))) a1) (fun r27 => if a2 = (0 : Int32) then f_X4_strike_L39 N a1 (1 : Int32) r27 u else f_X4_strike_L39 N a1 (0 : Int32) r27 u))))
set_option maxRecDepth 20000 in
theorem go_X4_strike (N : Nat) (a1 : Int32) (a2 : Int32) (u : xN) : xGm md_X4_strike rsM (f_X4_strike N a1 a2 u) 0 [(0, .ref 39), (1, .int a1), (2, .int a2)] [] (xU u) := by
  unfold f_X4_strike
  refine xm_blk0 (pc' := 2) (lv' := [(0, .ref 39), (1, .int a1), (2, .int a2)]) (st' := [.int a1, .ref 39]) (u' := (xU u)) [(.aload_n 0, (0, 0, 0), 0, 0), (.iload_n 1, (0, 0, 0), 0, 0)] (by decide +kernel) rfl ?_
  refine xm_Vi (pc := 2) (mz := md_X4_isClause) (idx := 194) (p1 := 1008) (a := 39) (as := [.int a1]) (st := []) (ev_X4_isClause a1 u) mw_X4_isClause (by decide +kernel) (by decide +kernel) (by decide) rfl rfl (by decide) rfl (Nat.le_of_ble_eq_true rfl) (fun r2 => ?_)
  refine xm_if_eq (pc := 5) (off := 13) (tgt := 18) (by decide +kernel) (by decide) ?_ ?_
  · refine xm_wk [] (lv' := []) rfl ?_
    exact go_X4_strike_L18 N u
  · refine xm_blk0 (pc' := 12) (lv' := [(0, .ref 39), (1, .int a1), (2, .int a2)]) (st' := [.long (1 : Int64), .long (0 : Int64), .long (Int32.toInt64 a2)]) (u' := (xU u)) [(.iload_n 2, (0, 0, 0), 0, 0), (.i2l, (0, 0, 0), 0, 0), (.lconst 0, (0, 0, 0), 0, 0), (.lconst 1, (0, 0, 0), 0, 1)] (by decide +kernel) rfl ?_
    refine xm_Si (pc := 12) (mz := md_X4_in) (idx := 72) (p1 := 905) (as := [.long (Int32.toInt64 a2), .long (0 : Int64), .long (1 : Int64)]) (st := []) (ev_X4_in (Int32.toInt64 a2) (0 : Int64) (1 : Int64) u) mw_X4_in (by decide +kernel) (by decide +kernel) (by decide) rfl (Nat.le_of_ble_eq_true rfl) (fun r12 => ?_)
    refine xm_if_ne (pc := 15) (off := 5) (tgt := 20) (by decide +kernel) (by decide) ?_ ?_
    · refine xm_blk (bs := [inb (1 : Int32) 1480]) (pc' := 27) (lv' := [(0, .ref 39), (1, .int a1), (2, .int a2)]) (st' := [.int a1, .int (u.1 40 (Int32.toNatClampNeg (1 : Int32)))]) (u' := (xU u)) [(.aload_n 0, (0, 0, 0), 0, 0), (.getfield 7, (4, 0, 820), 0, 0), (.iconst 1, (0, 0, 0), 1, 0), (.iaload, (0, 0, 0), 0, 0), (.iload_n 1, (0, 0, 0), 0, 0)] (by decide +kernel) rfl ?_
      refine xm_Si (pc := 27) (mz := md_X4_has) (idx := 153) (p1 := 1032) (as := [.int (u.1 40 (Int32.toNatClampNeg (1 : Int32))), .int a1]) (st := []) (ev_X4_has (u.1 40 (Int32.toNatClampNeg (1 : Int32))) a1 u) mw_X4_has (by decide +kernel) (by decide +kernel) (by decide) rfl (Nat.le_of_ble_eq_true rfl) (fun r27 => ?_)
      refine xm_blk0 (pc' := 31) (lv' := [(0, .ref 39), (1, .int a1), (2, .int a2)]) (st' := [.int a2, .int r27]) (u' := (xU u)) [(.iload_n 2, (0, 0, 0), 0, 0)] (by decide +kernel) rfl ?_
      refine xm_if_ne (pc := 31) (off := 7) (tgt := 38) (by decide +kernel) (by decide) ?_ ?_
      · refine xm_blk0 (pc' := 39) (lv' := [(0, .ref 39), (1, .int a1), (2, .int a2)]) (st' := [.int (0 : Int32), .int r27]) (u' := (xU u)) [(.iconst 0, (0, 0, 0), 0, 0)] (by decide +kernel) rfl ?_
        refine xm_wk [0, 1] (lv' := [(0, .ref 39), (1, .int a1)]) rfl ?_
        exact go_X4_strike_L39 N a1 (0 : Int32) r27 u
      · refine xm_blk0 (pc' := 35) (lv' := [(0, .ref 39), (1, .int a1), (2, .int a2)]) (st' := [.int (1 : Int32), .int r27]) (u' := (xU u)) [(.iconst 1, (0, 0, 0), 1, 0)] (by decide +kernel) rfl ?_
        refine xm_goto (pc := 35) (off := 4) (tgt := 39) (by decide +kernel) (by decide) ?_
        refine xm_wk [0, 1] (lv' := [(0, .ref 39), (1, .int a1)]) rfl ?_
        exact go_X4_strike_L39 N a1 (1 : Int32) r27 u
    · refine xm_wk [] (lv' := []) rfl ?_
      exact go_X4_strike_L18 N u
theorem ev_X4_strike (N : Nat) (a1 : Int32) (a2 : Int32) (u : xN) : ∀ r, f_X4_strike N a1 a2 u = some r → xEm md_X4_strike yX4_strike [.ref 39, .int a1, .int a2] (xU u) (some (.int r.1), xU r.2) := xm_met (res := rsM) (as := [.ref 39, .int a1, .int a2]) (go_X4_strike N a1 a2 u) (by decide) rfl (Nat.le_of_ble_eq_true rfl)
theorem mw_X4_isBorder : xMs yX4_isBorder cX4_isBorder 2 (some .boolean) 2 := xMs_of (p1 := 1099) (p2 := 1098) (p3 := 97) (by decide +kernel)
/-! NeitherBareModel.isBorder(II)Z  -/
abbrev md_X4_isBorder : xMd := (cX4_isBorder, RX4, 2, some .boolean, 2)
def f_X4_isBorder_L38 (t0 : Int32) : Option Int32 := gdl [isb t0] (some t0)
set_option maxRecDepth 20000 in
theorem go_X4_isBorder_L38 (u : xN) (t0 : Int32) : xGm md_X4_isBorder (rsI (xU u)) (f_X4_isBorder_L38 t0) 38 [] [.int t0] (xU u) := by
  unfold f_X4_isBorder_L38
  exact xm_zret (pc := 38) (by decide +kernel) rfl rfl
def f_X4_isBorder_L33  : Option Int32 := f_X4_isBorder_L38 (1 : Int32)
set_option maxRecDepth 20000 in
theorem go_X4_isBorder_L33 (u : xN) : xGm md_X4_isBorder (rsI (xU u)) (f_X4_isBorder_L33) 33 [] [] (xU u) := by
  unfold f_X4_isBorder_L33
  refine xm_blk0 (pc' := 34) (lv' := []) (st' := [.int (1 : Int32)]) (u' := (xU u)) [(.iconst 1, (0, 0, 0), 1, 0)] (by decide +kernel) rfl ?_
  refine xm_goto (pc := 34) (off := 4) (tgt := 38) (by decide +kernel) (by decide) ?_
  exact go_X4_isBorder_L38 u (1 : Int32)
def f_X4_isBorder_L37  : Option Int32 := f_X4_isBorder_L38 (0 : Int32)
set_option maxRecDepth 20000 in
theorem go_X4_isBorder_L37 (u : xN) : xGm md_X4_isBorder (rsI (xU u)) (f_X4_isBorder_L37) 37 [] [] (xU u) := by
  unfold f_X4_isBorder_L37
  refine xm_blk0 (pc' := 38) (lv' := []) (st' := [.int (0 : Int32)]) (u' := (xU u)) [(.iconst 0, (0, 0, 0), 0, 0)] (by decide +kernel) rfl ?_
  exact go_X4_isBorder_L38 u (0 : Int32)
def f_X4_isBorder_L16 (v0 : Int32) (v1 : Int32) : Option Int32 := if v0 = (1 : Int32) then Option.bind (f_X4_in (Int32.toInt64 v1) (1 : Int64) (5 : Int64)) (fun r27 => if r27 = (0 : Int32) then f_X4_isBorder_L37 else f_X4_isBorder_L33) else f_X4_isBorder_L37
set_option maxRecDepth 20000 in
theorem go_X4_isBorder_L16 (u : xN) (v0 : Int32) (v1 : Int32) : xGm md_X4_isBorder (rsI (xU u)) (f_X4_isBorder_L16 v0 v1) 16 [(0, .int v0), (1, .int v1)] [] (xU u) := by
  unfold f_X4_isBorder_L16
  refine xm_blk0 (pc' := 18) (lv' := [(0, .int v0), (1, .int v1)]) (st' := [.int (1 : Int32), .int v0]) (u' := (xU u)) [(.iload_n 0, (0, 0, 0), 0, 0), (.iconst 1, (0, 0, 0), 1, 0)] (by decide +kernel) rfl ?_
  refine xm_icmp_ne (pc := 18) (off := 19) (tgt := 37) (by decide +kernel) (by decide) ?_ ?_
  · refine xm_wk [] (lv' := []) rfl ?_
    exact go_X4_isBorder_L37 u
  · refine xm_blk0 (pc' := 27) (lv' := [(0, .int v0), (1, .int v1)]) (st' := [.long (5 : Int64), .long (1 : Int64), .long (Int32.toInt64 v1)]) (u' := (xU u)) [(.iload_n 1, (0, 0, 0), 0, 0), (.i2l, (0, 0, 0), 0, 0), (.lconst 1, (0, 0, 0), 0, 1), (.ldc2_w 70, (0, 0, 904), 0, 5)] (by decide +kernel) rfl ?_
    refine xm_Si (pc := 27) (mz := md_X4_in) (idx := 72) (p1 := 905) (as := [.long (Int32.toInt64 v1), .long (1 : Int64), .long (5 : Int64)]) (st := []) (ev_X4_in (Int32.toInt64 v1) (1 : Int64) (5 : Int64) u) mw_X4_in (by decide +kernel) (by decide +kernel) (by decide) rfl (Nat.le_of_ble_eq_true rfl) (fun r27 => ?_)
    refine xm_if_eq (pc := 30) (off := 7) (tgt := 37) (by decide +kernel) (by decide) ?_ ?_
    · refine xm_wk [] (lv' := []) rfl ?_
      exact go_X4_isBorder_L37 u
    · refine xm_wk [] (lv' := []) rfl ?_
      exact go_X4_isBorder_L33 u
def f_X4_isBorder (a0 : Int32) (a1 : Int32) : Option Int32 := if a0 = (0 : Int32) then Option.bind (f_X4_in (Int32.toInt64 a1) (0 : Int64) (4 : Int64)) (fun r10 => if r10 = (0 : Int32) then f_X4_isBorder_L16 a0 a1 else f_X4_isBorder_L33) else f_X4_isBorder_L16 a0 a1
set_option maxRecDepth 20000 in
theorem go_X4_isBorder (a0 : Int32) (a1 : Int32) (u : xN) : xGm md_X4_isBorder (rsI (xU u)) (f_X4_isBorder a0 a1) 0 [(0, .int a0), (1, .int a1)] [] (xU u) := by
  unfold f_X4_isBorder
  refine xm_blk0 (pc' := 1) (lv' := [(0, .int a0), (1, .int a1)]) (st' := [.int a0]) (u' := (xU u)) [(.iload_n 0, (0, 0, 0), 0, 0)] (by decide +kernel) rfl ?_
  refine xm_if_ne (pc := 1) (off := 15) (tgt := 16) (by decide +kernel) (by decide) ?_ ?_
  · exact go_X4_isBorder_L16 u a0 a1
  · refine xm_blk0 (pc' := 10) (lv' := [(0, .int a0), (1, .int a1)]) (st' := [.long (4 : Int64), .long (0 : Int64), .long (Int32.toInt64 a1)]) (u' := (xU u)) [(.iload_n 1, (0, 0, 0), 0, 0), (.i2l, (0, 0, 0), 0, 0), (.lconst 0, (0, 0, 0), 0, 0), (.ldc2_w 188, (0, 0, 1003), 0, 4)] (by decide +kernel) rfl ?_
    refine xm_Si (pc := 10) (mz := md_X4_in) (idx := 72) (p1 := 905) (as := [.long (Int32.toInt64 a1), .long (0 : Int64), .long (4 : Int64)]) (st := []) (ev_X4_in (Int32.toInt64 a1) (0 : Int64) (4 : Int64) u) mw_X4_in (by decide +kernel) (by decide +kernel) (by decide) rfl (Nat.le_of_ble_eq_true rfl) (fun r10 => ?_)
    refine xm_if_ne (pc := 13) (off := 20) (tgt := 33) (by decide +kernel) (by decide) ?_ ?_
    · refine xm_wk [] (lv' := []) rfl ?_
      exact go_X4_isBorder_L33 u
    · exact go_X4_isBorder_L16 u a0 a1
theorem ev_X4_isBorder (a0 : Int32) (a1 : Int32) (u : xN) : ∀ r, f_X4_isBorder a0 a1 = some r → xEm md_X4_isBorder yX4_isBorder [.int a0, .int a1] (xU u) (some (.int r), (xU u)) := xm_met (res := (rsI (xU u))) (as := [.int a0, .int a1]) (go_X4_isBorder a0 a1 u) (by decide) rfl (Nat.le_of_ble_eq_true rfl)
theorem mw_X4_isBelow : xMv yX4_isBelow cX4_isBelow 4 (some .boolean) 3 := xMv_of (p1 := 1103) (p2 := 1102) (p3 := 97) (p4 := 67) (by decide +kernel)
/-! NeitherBareModel.isBelow(III)Z (39, None, None, None) -/
abbrev md_X4_isBelow : xMd := (cX4_isBelow, RX4, 4, some .boolean, 2)
def f_X4_isBelow_L35 (u : xN) (t0 : Int32) : Option Int32 := gdl [isb t0] (some t0)
set_option maxRecDepth 20000 in
theorem go_X4_isBelow_L35 (u : xN) (t0 : Int32) : xGm md_X4_isBelow (rsI (xU u)) (f_X4_isBelow_L35 u t0) 35 [] [.int t0] (xU u) := by
  unfold f_X4_isBelow_L35
  exact xm_zret (pc := 35) (by decide +kernel) rfl rfl
def f_X4_isBelow (a1 : Int32) (a2 : Int32) (a3 : Int32) (u : xN) : Option Int32 := if a2 = (0 : Int32) then Option.bind (f_X4_upperOf a1 u) (fun r7 => if r7 ≤ a3 then f_X4_isBelow_L35 u (0 : Int32) else f_X4_isBelow_L35 u (1 : Int32)) else Option.bind (f_X4_lowerOf a1 u) (fun r23 => if a3 ≤ r23 then f_X4_isBelow_L35 u (0 : Int32) else f_X4_isBelow_L35 u (1 : Int32))
set_option maxRecDepth 20000 in
theorem go_X4_isBelow (a1 : Int32) (a2 : Int32) (a3 : Int32) (u : xN) : xGm md_X4_isBelow (rsI (xU u)) (f_X4_isBelow a1 a2 a3 u) 0 [(0, .ref 39), (1, .int a1), (2, .int a2), (3, .int a3)] [] (xU u) := by
  unfold f_X4_isBelow
  refine xm_blk0 (pc' := 1) (lv' := [(0, .ref 39), (1, .int a1), (2, .int a2), (3, .int a3)]) (st' := [.int a2]) (u' := (xU u)) [(.iload_n 2, (0, 0, 0), 0, 0)] (by decide +kernel) rfl ?_
  refine xm_if_ne (pc := 1) (off := 20) (tgt := 21) (by decide +kernel) (by decide) ?_ ?_
  · refine xm_blk0 (pc' := 23) (lv' := [(0, .ref 39), (1, .int a1), (2, .int a2), (3, .int a3)]) (st' := [.int a1, .ref 39]) (u' := (xU u)) [(.aload_n 0, (0, 0, 0), 0, 0), (.iload_n 1, (0, 0, 0), 0, 0)] (by decide +kernel) rfl ?_
    refine xm_Vi (pc := 23) (mz := md_X4_lowerOf) (idx := 163) (p1 := 1039) (a := 39) (as := [.int a1]) (st := []) (ev_X4_lowerOf a1 u) mw_X4_lowerOf (by decide +kernel) (by decide +kernel) (by decide) rfl rfl (by decide) rfl (Nat.le_of_ble_eq_true rfl) (fun r23 => ?_)
    refine xm_blk0 (pc' := 27) (lv' := [(0, .ref 39), (1, .int a1), (2, .int a2), (3, .int a3)]) (st' := [.int a3, .int r23]) (u' := (xU u)) [(.iload_n 3, (0, 0, 0), 0, 0)] (by decide +kernel) rfl ?_
    refine xm_icmp_ge (pc := 27) (off := 7) (tgt := 34) (by decide +kernel) (by decide) ?_ ?_
    · refine xm_blk0 (pc' := 35) (lv' := [(0, .ref 39), (1, .int a1), (2, .int a2), (3, .int a3)]) (st' := [.int (0 : Int32)]) (u' := (xU u)) [(.iconst 0, (0, 0, 0), 0, 0)] (by decide +kernel) rfl ?_
      refine xm_wk [] (lv' := []) rfl ?_
      exact go_X4_isBelow_L35 u (0 : Int32)
    · refine xm_blk0 (pc' := 31) (lv' := [(0, .ref 39), (1, .int a1), (2, .int a2), (3, .int a3)]) (st' := [.int (1 : Int32)]) (u' := (xU u)) [(.iconst 1, (0, 0, 0), 1, 0)] (by decide +kernel) rfl ?_
      refine xm_goto (pc := 31) (off := 4) (tgt := 35) (by decide +kernel) (by decide) ?_
      refine xm_wk [] (lv' := []) rfl ?_
      exact go_X4_isBelow_L35 u (1 : Int32)
  · refine xm_blk0 (pc' := 7) (lv' := [(0, .ref 39), (1, .int a1), (2, .int a2), (3, .int a3)]) (st' := [.int a1, .ref 39, .int a3]) (u' := (xU u)) [(.iload_n 3, (0, 0, 0), 0, 0), (.aload_n 0, (0, 0, 0), 0, 0), (.iload_n 1, (0, 0, 0), 0, 0)] (by decide +kernel) rfl ?_
    refine xm_Vi (pc := 7) (mz := md_X4_upperOf) (idx := 160) (p1 := 1043) (a := 39) (as := [.int a1]) (st := [.int a3]) (ev_X4_upperOf a1 u) mw_X4_upperOf (by decide +kernel) (by decide +kernel) (by decide) rfl rfl (by decide) rfl (Nat.le_of_ble_eq_true rfl) (fun r7 => ?_)
    refine xm_icmp_ge (pc := 10) (off := 7) (tgt := 17) (by decide +kernel) (by decide) ?_ ?_
    · refine xm_blk0 (pc' := 18) (lv' := [(0, .ref 39), (1, .int a1), (2, .int a2), (3, .int a3)]) (st' := [.int (0 : Int32)]) (u' := (xU u)) [(.iconst 0, (0, 0, 0), 0, 0)] (by decide +kernel) rfl ?_
      refine xm_goto (pc := 18) (off := 17) (tgt := 35) (by decide +kernel) (by decide) ?_
      refine xm_wk [] (lv' := []) rfl ?_
      exact go_X4_isBelow_L35 u (0 : Int32)
    · refine xm_blk0 (pc' := 14) (lv' := [(0, .ref 39), (1, .int a1), (2, .int a2), (3, .int a3)]) (st' := [.int (1 : Int32)]) (u' := (xU u)) [(.iconst 1, (0, 0, 0), 1, 0)] (by decide +kernel) rfl ?_
      refine xm_goto (pc := 14) (off := 21) (tgt := 35) (by decide +kernel) (by decide) ?_
      refine xm_wk [] (lv' := []) rfl ?_
      exact go_X4_isBelow_L35 u (1 : Int32)
theorem ev_X4_isBelow (a1 : Int32) (a2 : Int32) (a3 : Int32) (u : xN) : ∀ r, f_X4_isBelow a1 a2 a3 u = some r → xEm md_X4_isBelow yX4_isBelow [.ref 39, .int a1, .int a2, .int a3] (xU u) (some (.int r), (xU u)) := xm_met (res := (rsI (xU u))) (as := [.ref 39, .int a1, .int a2, .int a3]) (go_X4_isBelow a1 a2 a3 u) (by decide) rfl (Nat.le_of_ble_eq_true rfl)
theorem mw_X4_move : xMv yX4_move cX4_move 5 (some .int) 3 := xMv_of (p1 := 1096) (p2 := 1094) (p3 := 97) (p4 := 1095) (by decide +kernel)
/-! NeitherBareModel.move(III)I (39, None, None, None) -/
abbrev md_X4_move : xMd := (cX4_move, RX4, 5, some .int, 3)
def f_X4_move_L15 (N : Nat) (u : xN) : Option (Int32 × xN) := some ((-1 : Int32), u)
set_option maxRecDepth 20000 in
theorem go_X4_move_L15 (N : Nat) (u : xN) : xGm md_X4_move rsM (f_X4_move_L15 N u) 15 [] [] (xU u) := by
  unfold f_X4_move_L15
  refine xm_blk0 (pc' := 16) (lv' := []) (st' := [.int (-1 : Int32)]) (u' := (xU u)) [(.iconst (-1), (0, 0, 0), -1, 0)] (by decide +kernel) rfl ?_
  exact xm_iret (pc := 16) (by decide +kernel) rfl rfl
def f_X4_move_L47 (N : Nat) (u : xN) : Option (Int32 × xN) := some ((-4 : Int32), u)
set_option maxRecDepth 20000 in
theorem go_X4_move_L47 (N : Nat) (u : xN) : xGm md_X4_move rsM (f_X4_move_L47 N u) 47 [] [] (xU u) := by
  unfold f_X4_move_L47
  refine xm_blk0 (pc' := 49) (lv' := []) (st' := [.int (-4 : Int32)]) (u' := (xU u)) [(.bipush (-4), (0, 0, 0), -4, 0)] (by decide +kernel) rfl ?_
  exact xm_iret (pc := 49) (by decide +kernel) rfl rfl
def f_X4_move (N : Nat) (a1 : Int32) (a2 : Int32) (a3 : Int32) (u : xN) : Option (Int32 × xN) := Option.bind (f_X4_isTrait a1) (fun r1 => if r1 = (0 : Int32) then f_X4_move_L15 N u else Option.bind (f_X4_isBorder a2 a3) (fun r9 => if r9 = (0 : Int32) then f_X4_move_L15 N u else gdl [inb (((2 : Int32) + ((2 : Int32) * a1)) + a2) 1480] (Option.bind (f_X4_isBelow a1 a2 a3 u) (fun r35 => if r35 = (0 : Int32) then f_X4_move_L47 N u else if (u.1 40 (Int32.toNatClampNeg (((2 : Int32) + ((2 : Int32) * a1)) + a2))) = a3 then f_X4_move_L47 N u else gdl [inb (0 : Int32) 1480] (if (u.1 40 (Int32.toNatClampNeg (0 : Int32))) = (40 : Int32) then some ((-2 : Int32), u) else Option.bind (f_X4_keepPast N u) (fun r65 => gdl [inb (((2 : Int32) + ((2 : Int32) * a1)) + a2) 1480] (some ((u.1 40 (Int32.toNatClampNeg (((2 : Int32) + ((2 : Int32) * a1)) + a2))), mI r65 40 (Int32.toNatClampNeg (((2 : Int32) + ((2 : Int32) * a1)) + a2)) a3))))))))
set_option maxRecDepth 20000 in
theorem go_X4_move (N : Nat) (a1 : Int32) (a2 : Int32) (a3 : Int32) (u : xN) : xGm md_X4_move rsM (f_X4_move N a1 a2 a3 u) 0 [(0, .ref 39), (1, .int a1), (2, .int a2), (3, .int a3)] [] (xU u) := by
  unfold f_X4_move
  refine xm_blk0 (pc' := 1) (lv' := [(0, .ref 39), (1, .int a1), (2, .int a2), (3, .int a3)]) (st' := [.int a1]) (u' := (xU u)) [(.iload_n 1, (0, 0, 0), 0, 0)] (by decide +kernel) rfl ?_
  refine xm_Si (pc := 1) (mz := md_X4_isTrait) (idx := 209) (p1 := 1079) (as := [.int a1]) (st := []) (ev_X4_isTrait a1 u) mw_X4_isTrait (by decide +kernel) (by decide +kernel) (by decide) rfl (Nat.le_of_ble_eq_true rfl) (fun r1 => ?_)
  refine xm_if_eq (pc := 4) (off := 11) (tgt := 15) (by decide +kernel) (by decide) ?_ ?_
  · refine xm_wk [] (lv' := []) rfl ?_
    exact go_X4_move_L15 N u
  · refine xm_blk0 (pc' := 9) (lv' := [(0, .ref 39), (1, .int a1), (2, .int a2), (3, .int a3)]) (st' := [.int a3, .int a2]) (u' := (xU u)) [(.iload_n 2, (0, 0, 0), 0, 0), (.iload_n 3, (0, 0, 0), 0, 0)] (by decide +kernel) rfl ?_
    refine xm_Si (pc := 9) (mz := md_X4_isBorder) (idx := 218) (p1 := 1097) (as := [.int a2, .int a3]) (st := []) (ev_X4_isBorder a2 a3 u) mw_X4_isBorder (by decide +kernel) (by decide +kernel) (by decide) rfl (Nat.le_of_ble_eq_true rfl) (fun r9 => ?_)
    refine xm_if_ne (pc := 12) (off := 5) (tgt := 17) (by decide +kernel) (by decide) ?_ ?_
    · refine xm_blk (bs := [inb (((2 : Int32) + ((2 : Int32) * a1)) + a2) 1480]) (pc' := 35) (lv' := [(0, .ref 39), (1, .int a1), (2, .int a2), (3, .int a3), (4, .int (u.1 40 (Int32.toNatClampNeg (((2 : Int32) + ((2 : Int32) * a1)) + a2))))]) (st' := [.int a3, .int a2, .int a1, .ref 39]) (u' := (xU u)) [(.aload_n 0, (0, 0, 0), 0, 0), (.getfield 7, (4, 0, 820), 0, 0), (.iconst 2, (0, 0, 0), 2, 0), (.iconst 2, (0, 0, 0), 2, 0), (.iload_n 1, (0, 0, 0), 0, 0), (.imul, (0, 0, 0), 0, 0), (.iadd, (0, 0, 0), 0, 0), (.iload_n 2, (0, 0, 0), 0, 0), (.iadd, (0, 0, 0), 0, 0), (.iaload, (0, 0, 0), 0, 0), (.istore 4, (0, 0, 0), 0, 0), (.aload_n 0, (0, 0, 0), 0, 0), (.iload_n 1, (0, 0, 0), 0, 0), (.iload_n 2, (0, 0, 0), 0, 0), (.iload_n 3, (0, 0, 0), 0, 0)] (by decide +kernel) rfl ?_
      refine xm_Vi (pc := 35) (mz := md_X4_isBelow) (idx := 221) (p1 := 1100) (a := 39) (as := [.int a1, .int a2, .int a3]) (st := []) (ev_X4_isBelow a1 a2 a3 u) mw_X4_isBelow (by decide +kernel) (by decide +kernel) (by decide) rfl rfl (by decide) rfl (Nat.le_of_ble_eq_true rfl) (fun r35 => ?_)
      refine xm_if_eq (pc := 38) (off := 9) (tgt := 47) (by decide +kernel) (by decide) ?_ ?_
      · refine xm_wk [] (lv' := []) rfl ?_
        exact go_X4_move_L47 N u
      · refine xm_blk0 (pc' := 44) (lv' := [(0, .ref 39), (1, .int a1), (2, .int a2), (3, .int a3), (4, .int (u.1 40 (Int32.toNatClampNeg (((2 : Int32) + ((2 : Int32) * a1)) + a2))))]) (st' := [.int a3, .int (u.1 40 (Int32.toNatClampNeg (((2 : Int32) + ((2 : Int32) * a1)) + a2)))]) (u' := (xU u)) [(.iload 4, (0, 0, 0), 0, 0), (.iload_n 3, (0, 0, 0), 0, 0)] (by decide +kernel) rfl ?_
        refine xm_icmp_ne (pc := 44) (off := 6) (tgt := 50) (by decide +kernel) (by decide) ?_ ?_
        · refine xm_blk (bs := [inb (0 : Int32) 1480]) (pc' := 58) (lv' := [(0, .ref 39), (1, .int a1), (2, .int a2), (3, .int a3), (4, .int (u.1 40 (Int32.toNatClampNeg (((2 : Int32) + ((2 : Int32) * a1)) + a2))))]) (st' := [.int (40 : Int32), .int (u.1 40 (Int32.toNatClampNeg (0 : Int32)))]) (u' := (xU u)) [(.aload_n 0, (0, 0, 0), 0, 0), (.getfield 7, (4, 0, 820), 0, 0), (.iconst 0, (0, 0, 0), 0, 0), (.iaload, (0, 0, 0), 0, 0), (.bipush 40, (0, 0, 0), 40, 0)] (by decide +kernel) rfl ?_
          refine xm_icmp_ne (pc := 58) (off := 6) (tgt := 64) (by decide +kernel) (by decide) ?_ ?_
          · refine xm_blk0 (pc' := 65) (lv' := [(0, .ref 39), (1, .int a1), (2, .int a2), (3, .int a3), (4, .int (u.1 40 (Int32.toNatClampNeg (((2 : Int32) + ((2 : Int32) * a1)) + a2))))]) (st' := [.ref 39]) (u' := (xU u)) [(.aload_n 0, (0, 0, 0), 0, 0)] (by decide +kernel) rfl ?_
            refine xm_Vv (pc := 65) (mz := md_X4_keepPast) (idx := 212) (p1 := 1086) (a := 39) (as := []) (st := []) (ev_X4_keepPast N u) mw_X4_keepPast (by decide +kernel) (by decide +kernel) (by decide) rfl rfl (by decide) rfl (Nat.le_of_ble_eq_true rfl) (fun r65 => ?_)
            refine xm_blk (bs := [inb (((2 : Int32) + ((2 : Int32) * a1)) + a2) 1480]) (pc' := 83) (lv' := [(0, .ref 39), (1, .int a1), (2, .int a2), (3, .int a3), (4, .int (u.1 40 (Int32.toNatClampNeg (((2 : Int32) + ((2 : Int32) * a1)) + a2))))]) (st' := [.int (u.1 40 (Int32.toNatClampNeg (((2 : Int32) + ((2 : Int32) * a1)) + a2)))]) (u' := (xU (mI r65 40 (Int32.toNatClampNeg (((2 : Int32) + ((2 : Int32) * a1)) + a2)) a3))) [(.aload_n 0, (0, 0, 0), 0, 0), (.getfield 7, (4, 0, 820), 0, 0), (.iconst 2, (0, 0, 0), 2, 0), (.iconst 2, (0, 0, 0), 2, 0), (.iload_n 1, (0, 0, 0), 0, 0), (.imul, (0, 0, 0), 0, 0), (.iadd, (0, 0, 0), 0, 0), (.iload_n 2, (0, 0, 0), 0, 0), (.iadd, (0, 0, 0), 0, 0), (.iload_n 3, (0, 0, 0), 0, 0), (.iastore, (0, 0, 0), 0, 0), (.iload 4, (0, 0, 0), 0, 0)] (by decide +kernel) rfl ?_
            exact xm_iret (pc := 83) (by decide +kernel) rfl rfl
          · refine xm_blk0 (pc' := 63) (lv' := [(0, .ref 39), (1, .int a1), (2, .int a2), (3, .int a3), (4, .int (u.1 40 (Int32.toNatClampNeg (((2 : Int32) + ((2 : Int32) * a1)) + a2))))]) (st' := [.int (-2 : Int32)]) (u' := (xU u)) [(.bipush (-2), (0, 0, 0), -2, 0)] (by decide +kernel) rfl ?_
            exact xm_iret (pc := 63) (by decide +kernel) rfl rfl
        · refine xm_wk [] (lv' := []) rfl ?_
          exact go_X4_move_L47 N u
    · refine xm_wk [] (lv' := []) rfl ?_
      exact go_X4_move_L15 N u
theorem ev_X4_move (N : Nat) (a1 : Int32) (a2 : Int32) (a3 : Int32) (u : xN) : ∀ r, f_X4_move N a1 a2 a3 u = some r → xEm md_X4_move yX4_move [.ref 39, .int a1, .int a2, .int a3] (xU u) (some (.int r.1), xU r.2) := xm_met (res := rsM) (as := [.ref 39, .int a1, .int a2, .int a3]) (go_X4_move N a1 a2 a3 u) (by decide) rfl (Nat.le_of_ble_eq_true rfl)
theorem mw_X4_undo : xMv yX4_undo cX4_undo 4 (some .int) 1 := xMv_of (p1 := 1107) (p2 := 1105) (p3 := 97) (p4 := 1106) (by decide +kernel)
/-! NeitherBareModel.undo(I)I (39, None) -/
abbrev md_X4_undo : xMd := (cX4_undo, RX4, 4, some .int, 2)
def f_X4_undo_L67 (N : Nat) (v1 : Int32) (v2 : Int32) (u : xN) : Option (Int32 × xN) := gdl [inb (0 : Int32) 1480] (some (v2, mI u 40 (Int32.toNatClampNeg (0 : Int32)) v1))
set_option maxRecDepth 20000 in
theorem go_X4_undo_L67 (N : Nat) (v1 : Int32) (v2 : Int32) (u : xN) : xGm md_X4_undo rsM (f_X4_undo_L67 N v1 v2 u) 67 [(0, .ref 39), (1, .int v1), (2, .int v2)] [] (xU u) := by
  unfold f_X4_undo_L67
  refine xm_blk (bs := [inb (0 : Int32) 1480]) (pc' := 75) (lv' := [(0, .ref 39), (1, .int v1), (2, .int v2)]) (st' := [.int v2]) (u' := (xU (mI u 40 (Int32.toNatClampNeg (0 : Int32)) v1))) [(.aload_n 0, (0, 0, 0), 0, 0), (.getfield 7, (4, 0, 820), 0, 0), (.iconst 0, (0, 0, 0), 0, 0), (.iload_n 1, (0, 0, 0), 0, 0), (.iastore, (0, 0, 0), 0, 0), (.iload_n 2, (0, 0, 0), 0, 0)] (by decide +kernel) rfl ?_
  exact xm_iret (pc := 75) (by decide +kernel) rfl rfl
def f_X4_undo_L29b (N : Nat) (rec29 : Int32 → Int32 → Int32 → xN → Option (Int32 × xN)) (v1 : Int32) (v2 : Int32) (v3 : Int32) (u : xN) : Option (Int32 × xN) := if (9 : Int32) ≤ v3 then f_X4_undo_L67 N v1 v2 u else if v2 ≤ (0 : Int32) then f_X4_undo_L67 N v1 v2 u else gdl [inb (((10 : Int32) + ((9 : Int32) * v1)) + v3) 1480, inb ((1 : Int32) + v3) 1480] (rec29 v1 v2 (v3 + (1 : Int32)) (mI u 40 (Int32.toNatClampNeg ((1 : Int32) + v3)) (u.1 40 (Int32.toNatClampNeg (((10 : Int32) + ((9 : Int32) * v1)) + v3)))))
set_option maxRecDepth 20000 in
theorem go_X4_undo_L29b (N : Nat) (rec29 : Int32 → Int32 → Int32 → xN → Option (Int32 × xN)) (h29 : ∀ (v1 : Int32) (v2 : Int32) (v3 : Int32) (u : xN), xGm md_X4_undo rsM (rec29 v1 v2 v3 u) 29 [(0, .ref 39), (1, .int v1), (2, .int v2), (3, .int v3)] [] (xU u)) (v1 : Int32) (v2 : Int32) (v3 : Int32) (u : xN) : xGm md_X4_undo rsM (f_X4_undo_L29b N rec29 v1 v2 v3 u) 29 [(0, .ref 39), (1, .int v1), (2, .int v2), (3, .int v3)] [] (xU u) := by
  unfold f_X4_undo_L29b
  refine xm_blk0 (pc' := 32) (lv' := [(0, .ref 39), (1, .int v1), (2, .int v2), (3, .int v3)]) (st' := [.int (9 : Int32), .int v3]) (u' := (xU u)) [(.iload_n 3, (0, 0, 0), 0, 0), (.bipush 9, (0, 0, 0), 9, 0)] (by decide +kernel) rfl ?_
  refine xm_icmp_ge (pc := 32) (off := 35) (tgt := 67) (by decide +kernel) (by decide) ?_ ?_
  · refine xm_wk [0, 1, 2] (lv' := [(0, .ref 39), (1, .int v1), (2, .int v2)]) rfl ?_
    exact go_X4_undo_L67 N v1 v2 u
  · refine xm_blk0 (pc' := 36) (lv' := [(0, .ref 39), (1, .int v1), (2, .int v2), (3, .int v3)]) (st' := [.int v2]) (u' := (xU u)) [(.iload_n 2, (0, 0, 0), 0, 0)] (by decide +kernel) rfl ?_
    refine xm_if_le (pc := 36) (off := 31) (tgt := 67) (by decide +kernel) (by decide) ?_ ?_
    · refine xm_wk [0, 1, 2] (lv' := [(0, .ref 39), (1, .int v1), (2, .int v2)]) rfl ?_
      exact go_X4_undo_L67 N v1 v2 u
    · refine xm_blk (bs := [inb (((10 : Int32) + ((9 : Int32) * v1)) + v3) 1480, inb ((1 : Int32) + v3) 1480]) (pc' := 64) (lv' := [(0, .ref 39), (1, .int v1), (2, .int v2), (3, .int (v3 + (1 : Int32)))]) (st' := []) (u' := (xU (mI u 40 (Int32.toNatClampNeg ((1 : Int32) + v3)) (u.1 40 (Int32.toNatClampNeg (((10 : Int32) + ((9 : Int32) * v1)) + v3)))))) [(.aload_n 0, (0, 0, 0), 0, 0), (.getfield 7, (4, 0, 820), 0, 0), (.iconst 1, (0, 0, 0), 1, 0), (.iload_n 3, (0, 0, 0), 0, 0), (.iadd, (0, 0, 0), 0, 0), (.aload_n 0, (0, 0, 0), 0, 0), (.getfield 7, (4, 0, 820), 0, 0), (.bipush 10, (0, 0, 0), 10, 0), (.bipush 9, (0, 0, 0), 9, 0), (.iload_n 1, (0, 0, 0), 0, 0), (.imul, (0, 0, 0), 0, 0), (.iadd, (0, 0, 0), 0, 0), (.iload_n 3, (0, 0, 0), 0, 0), (.iadd, (0, 0, 0), 0, 0), (.iaload, (0, 0, 0), 0, 0), (.iastore, (0, 0, 0), 0, 0), (.iinc 3 1, (0, 0, 0), 1, 0)] (by decide +kernel) rfl ?_
      refine xm_goto (pc := 64) (off := -35) (tgt := 29) (by decide +kernel) (by decide) ?_
      exact h29 v1 v2 (v3 + (1 : Int32)) (mI u 40 (Int32.toNatClampNeg ((1 : Int32) + v3)) (u.1 40 (Int32.toNatClampNeg (((10 : Int32) + ((9 : Int32) * v1)) + v3))))
def f_X4_undo_L29 (N : Nat) : Nat → Int32 → Int32 → Int32 → xN → Option (Int32 × xN)
  | 0 => fun _ _ _ _ => none
  | n + 1 => fun v1 v2 v3 u => f_X4_undo_L29b N (f_X4_undo_L29 N n) v1 v2 v3 u
theorem go_X4_undo_L29 (N : Nat) : ∀ (n : Nat) (v1 : Int32) (v2 : Int32) (v3 : Int32) (u : xN), xGm md_X4_undo rsM (f_X4_undo_L29 N n v1 v2 v3 u) 29 [(0, .ref 39), (1, .int v1), (2, .int v2), (3, .int v3)] [] (xU u) := by
  intro n
  induction n with
  | zero => intro v1 v2 v3 u; exact xm_none
  | succ n ih => intro v1 v2 v3 u; exact go_X4_undo_L29b N _ ih v1 v2 v3 u
def f_X4_undo (N : Nat) (a1 : Int32) (u : xN) : Option (Int32 × xN) := gdl [inb (0 : Int32) 1480] (Option.bind (f_X4_in (Int32.toInt64 a1) (0 : Int64) (Int32.toInt64 (u.1 40 (Int32.toNatClampNeg (0 : Int32))))) (fun r10 => if r10 = (0 : Int32) then some ((-1 : Int32), u) else gdl [inb (0 : Int32) 1480] (f_X4_undo_L29 N N a1 ((u.1 40 (Int32.toNatClampNeg (0 : Int32))) - a1) (0 : Int32) u)))
set_option maxRecDepth 20000 in
theorem go_X4_undo (N : Nat) (a1 : Int32) (u : xN) : xGm md_X4_undo rsM (f_X4_undo N a1 u) 0 [(0, .ref 39), (1, .int a1)] [] (xU u) := by
  unfold f_X4_undo
  refine xm_blk (bs := [inb (0 : Int32) 1480]) (pc' := 10) (lv' := [(0, .ref 39), (1, .int a1)]) (st' := [.long (Int32.toInt64 (u.1 40 (Int32.toNatClampNeg (0 : Int32)))), .long (0 : Int64), .long (Int32.toInt64 a1)]) (u' := (xU u)) [(.iload_n 1, (0, 0, 0), 0, 0), (.i2l, (0, 0, 0), 0, 0), (.lconst 0, (0, 0, 0), 0, 0), (.aload_n 0, (0, 0, 0), 0, 0), (.getfield 7, (4, 0, 820), 0, 0), (.iconst 0, (0, 0, 0), 0, 0), (.iaload, (0, 0, 0), 0, 0), (.i2l, (0, 0, 0), 0, 0)] (by decide +kernel) rfl ?_
  refine xm_Si (pc := 10) (mz := md_X4_in) (idx := 72) (p1 := 905) (as := [.long (Int32.toInt64 a1), .long (0 : Int64), .long (Int32.toInt64 (u.1 40 (Int32.toNatClampNeg (0 : Int32))))]) (st := []) (ev_X4_in (Int32.toInt64 a1) (0 : Int64) (Int32.toInt64 (u.1 40 (Int32.toNatClampNeg (0 : Int32)))) u) mw_X4_in (by decide +kernel) (by decide +kernel) (by decide) rfl (Nat.le_of_ble_eq_true rfl) (fun r10 => ?_)
  refine xm_if_ne (pc := 13) (off := 5) (tgt := 18) (by decide +kernel) (by decide) ?_ ?_
  · refine xm_blk (bs := [inb (0 : Int32) 1480]) (pc' := 29) (lv' := [(0, .ref 39), (1, .int a1), (2, .int ((u.1 40 (Int32.toNatClampNeg (0 : Int32))) - a1)), (3, .int (0 : Int32))]) (st' := []) (u' := (xU u)) [(.aload_n 0, (0, 0, 0), 0, 0), (.getfield 7, (4, 0, 820), 0, 0), (.iconst 0, (0, 0, 0), 0, 0), (.iaload, (0, 0, 0), 0, 0), (.iload_n 1, (0, 0, 0), 0, 0), (.isub, (0, 0, 0), 0, 0), (.istore_n 2, (0, 0, 0), 0, 0), (.iconst 0, (0, 0, 0), 0, 0), (.istore_n 3, (0, 0, 0), 0, 0)] (by decide +kernel) rfl ?_
    exact go_X4_undo_L29 N N a1 ((u.1 40 (Int32.toNatClampNeg (0 : Int32))) - a1) (0 : Int32) u
  · refine xm_blk0 (pc' := 17) (lv' := [(0, .ref 39), (1, .int a1)]) (st' := [.int (-1 : Int32)]) (u' := (xU u)) [(.iconst (-1), (0, 0, 0), -1, 0)] (by decide +kernel) rfl ?_
    exact xm_iret (pc := 17) (by decide +kernel) rfl rfl
theorem ev_X4_undo (N : Nat) (a1 : Int32) (u : xN) : ∀ r, f_X4_undo N a1 u = some r → xEm md_X4_undo yX4_undo [.ref 39, .int a1] (xU u) (some (.int r.1), xU r.2) := xm_met (res := rsM) (as := [.ref 39, .int a1]) (go_X4_undo N a1 u) (by decide) rfl (Nat.le_of_ble_eq_true rfl)
theorem mw_X4_copyCourt : xMv yX4_copyCourt cX4_copyCourt 4 none 2 := xMv_of (p1 := 1116) (p2 := 1115) (p3 := 97) (p4 := 68) (by decide +kernel)
/-! NeitherBareModel.copyCourt(II)V (39, None, None) -/
abbrev md_X4_copyCourt : xMd := (cX4_copyCourt, RX4, 4, none, 1)
def f_X4_copyCourt_L2b (N : Nat) (rec2 : Int32 → Int32 → Int32 → xN → Option xN) (v1 : Int32) (v2 : Int32) (v3 : Int32) (u : xN) : Option xN := if (370 : Int32) ≤ v3 then some u else gdl [inb (v1 + v3) 1480, inb (v2 + v3) 1480] (rec2 v1 v2 (v3 + (1 : Int32)) (mI u 40 (Int32.toNatClampNeg (v2 + v3)) (u.1 40 (Int32.toNatClampNeg (v1 + v3)))))
set_option maxRecDepth 20000 in
theorem go_X4_copyCourt_L2b (N : Nat) (rec2 : Int32 → Int32 → Int32 → xN → Option xN) (h2 : ∀ (v1 : Int32) (v2 : Int32) (v3 : Int32) (u : xN), xGm md_X4_copyCourt rsV (rec2 v1 v2 v3 u) 2 [(0, .ref 39), (1, .int v1), (2, .int v2), (3, .int v3)] [] (xU u)) (v1 : Int32) (v2 : Int32) (v3 : Int32) (u : xN) : xGm md_X4_copyCourt rsV (f_X4_copyCourt_L2b N rec2 v1 v2 v3 u) 2 [(0, .ref 39), (1, .int v1), (2, .int v2), (3, .int v3)] [] (xU u) := by
  unfold f_X4_copyCourt_L2b
  refine xm_blk0 (pc' := 6) (lv' := [(0, .ref 39), (1, .int v1), (2, .int v2), (3, .int v3)]) (st' := [.int (370 : Int32), .int v3]) (u' := (xU u)) [(.iload_n 3, (0, 0, 0), 0, 0), (.sipush 370, (0, 0, 0), 370, 0)] (by decide +kernel) rfl ?_
  refine xm_icmp_ge (pc := 6) (off := 25) (tgt := 31) (by decide +kernel) (by decide) ?_ ?_
  · exact xm_vret (pc := 31) (by decide +kernel) rfl rfl
  · refine xm_blk (bs := [inb (v1 + v3) 1480, inb (v2 + v3) 1480]) (pc' := 28) (lv' := [(0, .ref 39), (1, .int v1), (2, .int v2), (3, .int (v3 + (1 : Int32)))]) (st' := []) (u' := (xU (mI u 40 (Int32.toNatClampNeg (v2 + v3)) (u.1 40 (Int32.toNatClampNeg (v1 + v3)))))) [(.aload_n 0, (0, 0, 0), 0, 0), (.getfield 7, (4, 0, 820), 0, 0), (.iload_n 2, (0, 0, 0), 0, 0), (.iload_n 3, (0, 0, 0), 0, 0), (.iadd, (0, 0, 0), 0, 0), (.aload_n 0, (0, 0, 0), 0, 0), (.getfield 7, (4, 0, 820), 0, 0), (.iload_n 1, (0, 0, 0), 0, 0), (.iload_n 3, (0, 0, 0), 0, 0), (.iadd, (0, 0, 0), 0, 0), (.iaload, (0, 0, 0), 0, 0), (.iastore, (0, 0, 0), 0, 0), (.iinc 3 1, (0, 0, 0), 1, 0)] (by decide +kernel) rfl ?_
    refine xm_goto (pc := 28) (off := -26) (tgt := 2) (by decide +kernel) (by decide) ?_
    exact h2 v1 v2 (v3 + (1 : Int32)) (mI u 40 (Int32.toNatClampNeg (v2 + v3)) (u.1 40 (Int32.toNatClampNeg (v1 + v3))))
def f_X4_copyCourt_L2 (N : Nat) : Nat → Int32 → Int32 → Int32 → xN → Option xN
  | 0 => fun _ _ _ _ => none
  | n + 1 => fun v1 v2 v3 u => f_X4_copyCourt_L2b N (f_X4_copyCourt_L2 N n) v1 v2 v3 u
theorem go_X4_copyCourt_L2 (N : Nat) : ∀ (n : Nat) (v1 : Int32) (v2 : Int32) (v3 : Int32) (u : xN), xGm md_X4_copyCourt rsV (f_X4_copyCourt_L2 N n v1 v2 v3 u) 2 [(0, .ref 39), (1, .int v1), (2, .int v2), (3, .int v3)] [] (xU u) := by
  intro n
  induction n with
  | zero => intro v1 v2 v3 u; exact xm_none
  | succ n ih => intro v1 v2 v3 u; exact go_X4_copyCourt_L2b N _ ih v1 v2 v3 u
def f_X4_copyCourt (N : Nat) (a1 : Int32) (a2 : Int32) (u : xN) : Option xN := f_X4_copyCourt_L2 N N a1 a2 (0 : Int32) u
set_option maxRecDepth 20000 in
theorem go_X4_copyCourt (N : Nat) (a1 : Int32) (a2 : Int32) (u : xN) : xGm md_X4_copyCourt rsV (f_X4_copyCourt N a1 a2 u) 0 [(0, .ref 39), (1, .int a1), (2, .int a2)] [] (xU u) := by
  unfold f_X4_copyCourt
  refine xm_blk0 (pc' := 2) (lv' := [(0, .ref 39), (1, .int a1), (2, .int a2), (3, .int (0 : Int32))]) (st' := []) (u' := (xU u)) [(.iconst 0, (0, 0, 0), 0, 0), (.istore_n 3, (0, 0, 0), 0, 0)] (by decide +kernel) rfl ?_
  exact go_X4_copyCourt_L2 N N a1 a2 (0 : Int32) u
theorem ev_X4_copyCourt (N : Nat) (a1 : Int32) (a2 : Int32) (u : xN) : ∀ r, f_X4_copyCourt N a1 a2 u = some r → xEm md_X4_copyCourt yX4_copyCourt [.ref 39, .int a1, .int a2] (xU u) (none, xU r) := xm_met (res := rsV) (as := [.ref 39, .int a1, .int a2]) (go_X4_copyCourt N a1 a2 u) (by decide) rfl (Nat.le_of_ble_eq_true rfl)
theorem mw_X4_keep : xMv yX4_keep cX4_keep 2 (some .int) 1 := xMv_of (p1 := 1111) (p2 := 1109) (p3 := 97) (p4 := 1110) (by decide +kernel)
/-! NeitherBareModel.keep(I)I (39, None) -/
abbrev md_X4_keep : xMd := (cX4_keep, RX4, 2, some .int, 2)
def f_X4_keep (N : Nat) (a1 : Int32) (u : xN) : Option (Int32 × xN) := Option.bind (f_X4_in (Int32.toInt64 a1) (0 : Int64) (2 : Int64)) (fun r6 => if r6 = (0 : Int32) then some ((-1 : Int32), u) else if (u.1 39 1) = (0 : Int32) then some ((-4 : Int32), u) else Option.bind (f_X4_copyCourt N (0 : Int32) ((370 : Int32) * ((1 : Int32) + a1)) u) (fun r33 => gdl [inb (0 : Int32) 1480] (some ((r33.1 40 (Int32.toNatClampNeg (0 : Int32))), r33))))
set_option maxRecDepth 20000 in
theorem go_X4_keep (N : Nat) (a1 : Int32) (u : xN) : xGm md_X4_keep rsM (f_X4_keep N a1 u) 0 [(0, .ref 39), (1, .int a1)] [] (xU u) := by
  unfold f_X4_keep
  refine xm_blk0 (pc' := 6) (lv' := [(0, .ref 39), (1, .int a1)]) (st' := [.long (2 : Int64), .long (0 : Int64), .long (Int32.toInt64 a1)]) (u' := (xU u)) [(.iload_n 1, (0, 0, 0), 0, 0), (.i2l, (0, 0, 0), 0, 0), (.lconst 0, (0, 0, 0), 0, 0), (.ldc2_w 224, (0, 0, 1112), 0, 2)] (by decide +kernel) rfl ?_
  refine xm_Si (pc := 6) (mz := md_X4_in) (idx := 72) (p1 := 905) (as := [.long (Int32.toInt64 a1), .long (0 : Int64), .long (2 : Int64)]) (st := []) (ev_X4_in (Int32.toInt64 a1) (0 : Int64) (2 : Int64) u) mw_X4_in (by decide +kernel) (by decide +kernel) (by decide) rfl (Nat.le_of_ble_eq_true rfl) (fun r6 => ?_)
  refine xm_if_ne (pc := 9) (off := 5) (tgt := 14) (by decide +kernel) (by decide) ?_ ?_
  · refine xm_blk0 (pc' := 18) (lv' := [(0, .ref 39), (1, .int a1)]) (st' := [.int (u.1 39 1)]) (u' := (xU u)) [(.aload_n 0, (0, 0, 0), 0, 0), (.getfield 147, (4, 1, 821), 0, 0)] (by decide +kernel) rfl ?_
    refine xm_if_ne (pc := 18) (off := 6) (tgt := 24) (by decide +kernel) (by decide) ?_ ?_
    · refine xm_blk0 (pc' := 33) (lv' := [(0, .ref 39), (1, .int a1)]) (st' := [.int ((370 : Int32) * ((1 : Int32) + a1)), .int (0 : Int32), .ref 39]) (u' := (xU u)) [(.aload_n 0, (0, 0, 0), 0, 0), (.iconst 0, (0, 0, 0), 0, 0), (.sipush 370, (0, 0, 0), 370, 0), (.iconst 1, (0, 0, 0), 1, 0), (.iload_n 1, (0, 0, 0), 0, 0), (.iadd, (0, 0, 0), 0, 0), (.imul, (0, 0, 0), 0, 0)] (by decide +kernel) rfl ?_
      refine xm_Vv (pc := 33) (mz := md_X4_copyCourt) (idx := 226) (p1 := 1113) (a := 39) (as := [.int (0 : Int32), .int ((370 : Int32) * ((1 : Int32) + a1))]) (st := []) (ev_X4_copyCourt N (0 : Int32) ((370 : Int32) * ((1 : Int32) + a1)) u) mw_X4_copyCourt (by decide +kernel) (by decide +kernel) (by decide) rfl rfl (by decide) rfl (Nat.le_of_ble_eq_true rfl) (fun r33 => ?_)
      refine xm_blk (bs := [inb (0 : Int32) 1480]) (pc' := 42) (lv' := [(0, .ref 39), (1, .int a1)]) (st' := [.int (r33.1 40 (Int32.toNatClampNeg (0 : Int32)))]) (u' := (xU r33)) [(.aload_n 0, (0, 0, 0), 0, 0), (.getfield 7, (4, 0, 820), 0, 0), (.iconst 0, (0, 0, 0), 0, 0), (.iaload, (0, 0, 0), 0, 0)] (by decide +kernel) rfl ?_
      exact xm_iret (pc := 42) (by decide +kernel) rfl rfl
    · refine xm_blk0 (pc' := 23) (lv' := [(0, .ref 39), (1, .int a1)]) (st' := [.int (-4 : Int32)]) (u' := (xU u)) [(.bipush (-4), (0, 0, 0), -4, 0)] (by decide +kernel) rfl ?_
      exact xm_iret (pc := 23) (by decide +kernel) rfl rfl
  · refine xm_blk0 (pc' := 13) (lv' := [(0, .ref 39), (1, .int a1)]) (st' := [.int (-1 : Int32)]) (u' := (xU u)) [(.iconst (-1), (0, 0, 0), -1, 0)] (by decide +kernel) rfl ?_
    exact xm_iret (pc := 13) (by decide +kernel) rfl rfl
theorem ev_X4_keep (N : Nat) (a1 : Int32) (u : xN) : ∀ r, f_X4_keep N a1 u = some r → xEm md_X4_keep yX4_keep [.ref 39, .int a1] (xU u) (some (.int r.1), xU r.2) := xm_met (res := rsM) (as := [.ref 39, .int a1]) (go_X4_keep N a1 u) (by decide) rfl (Nat.le_of_ble_eq_true rfl)
theorem mw_X4_on : xMv yX4_on cX4_on 2 (some .int) 1 := xMv_of (p1 := 1120) (p2 := 1118) (p3 := 97) (p4 := 1119) (by decide +kernel)
/-! NeitherBareModel.on(I)I (39, None) -/
abbrev md_X4_on : xMd := (cX4_on, RX4, 2, some .int, 2)
def f_X4_on (N : Nat) (a1 : Int32) (u : xN) : Option (Int32 × xN) := Option.bind (f_X4_in (Int32.toInt64 a1) (0 : Int64) (2 : Int64)) (fun r6 => if r6 = (0 : Int32) then some ((-1 : Int32), u) else gdl [inb (((370 : Int32) * ((1 : Int32) + a1)) + (0 : Int32)) 1480] (if (0 : Int32) ≤ (u.1 40 (Int32.toNatClampNeg (((370 : Int32) * ((1 : Int32) + a1)) + (0 : Int32)))) then Option.bind (f_X4_copyCourt N ((370 : Int32) * ((1 : Int32) + a1)) (0 : Int32) u) (fun r46 => gdl [inb (0 : Int32) 1480] (some ((r46.1 40 (Int32.toNatClampNeg (0 : Int32))), r46))) else Option.bind (f_X4_find (1 : Int32) u) (fun r33 => some (r33.1, r33.2))))
set_option maxRecDepth 20000 in
theorem go_X4_on (N : Nat) (a1 : Int32) (u : xN) : xGm md_X4_on rsM (f_X4_on N a1 u) 0 [(0, .ref 39), (1, .int a1)] [] (xU u) := by
  unfold f_X4_on
  refine xm_blk0 (pc' := 6) (lv' := [(0, .ref 39), (1, .int a1)]) (st' := [.long (2 : Int64), .long (0 : Int64), .long (Int32.toInt64 a1)]) (u' := (xU u)) [(.iload_n 1, (0, 0, 0), 0, 0), (.i2l, (0, 0, 0), 0, 0), (.lconst 0, (0, 0, 0), 0, 0), (.ldc2_w 224, (0, 0, 1112), 0, 2)] (by decide +kernel) rfl ?_
  refine xm_Si (pc := 6) (mz := md_X4_in) (idx := 72) (p1 := 905) (as := [.long (Int32.toInt64 a1), .long (0 : Int64), .long (2 : Int64)]) (st := []) (ev_X4_in (Int32.toInt64 a1) (0 : Int64) (2 : Int64) u) mw_X4_in (by decide +kernel) (by decide +kernel) (by decide) rfl (Nat.le_of_ble_eq_true rfl) (fun r6 => ?_)
  refine xm_if_ne (pc := 9) (off := 5) (tgt := 14) (by decide +kernel) (by decide) ?_ ?_
  · refine xm_blk (bs := [inb (((370 : Int32) * ((1 : Int32) + a1)) + (0 : Int32)) 1480]) (pc' := 28) (lv' := [(0, .ref 39), (1, .int a1)]) (st' := [.int (u.1 40 (Int32.toNatClampNeg (((370 : Int32) * ((1 : Int32) + a1)) + (0 : Int32))))]) (u' := (xU u)) [(.aload_n 0, (0, 0, 0), 0, 0), (.getfield 7, (4, 0, 820), 0, 0), (.sipush 370, (0, 0, 0), 370, 0), (.iconst 1, (0, 0, 0), 1, 0), (.iload_n 1, (0, 0, 0), 0, 0), (.iadd, (0, 0, 0), 0, 0), (.imul, (0, 0, 0), 0, 0), (.iconst 0, (0, 0, 0), 0, 0), (.iadd, (0, 0, 0), 0, 0), (.iaload, (0, 0, 0), 0, 0)] (by decide +kernel) rfl ?_
    refine xm_if_ge (pc := 28) (off := 9) (tgt := 37) (by decide +kernel) (by decide) ?_ ?_
    · refine xm_blk0 (pc' := 46) (lv' := [(0, .ref 39), (1, .int a1)]) (st' := [.int (0 : Int32), .int ((370 : Int32) * ((1 : Int32) + a1)), .ref 39]) (u' := (xU u)) [(.aload_n 0, (0, 0, 0), 0, 0), (.sipush 370, (0, 0, 0), 370, 0), (.iconst 1, (0, 0, 0), 1, 0), (.iload_n 1, (0, 0, 0), 0, 0), (.iadd, (0, 0, 0), 0, 0), (.imul, (0, 0, 0), 0, 0), (.iconst 0, (0, 0, 0), 0, 0)] (by decide +kernel) rfl ?_
      refine xm_Vv (pc := 46) (mz := md_X4_copyCourt) (idx := 226) (p1 := 1113) (a := 39) (as := [.int ((370 : Int32) * ((1 : Int32) + a1)), .int (0 : Int32)]) (st := []) (ev_X4_copyCourt N ((370 : Int32) * ((1 : Int32) + a1)) (0 : Int32) u) mw_X4_copyCourt (by decide +kernel) (by decide +kernel) (by decide) rfl rfl (by decide) rfl (Nat.le_of_ble_eq_true rfl) (fun r46 => ?_)
      refine xm_blk (bs := [inb (0 : Int32) 1480]) (pc' := 55) (lv' := [(0, .ref 39), (1, .int a1)]) (st' := [.int (r46.1 40 (Int32.toNatClampNeg (0 : Int32)))]) (u' := (xU r46)) [(.aload_n 0, (0, 0, 0), 0, 0), (.getfield 7, (4, 0, 820), 0, 0), (.iconst 0, (0, 0, 0), 0, 0), (.iaload, (0, 0, 0), 0, 0)] (by decide +kernel) rfl ?_
      exact xm_iret (pc := 55) (by decide +kernel) rfl rfl
    · refine xm_blk0 (pc' := 33) (lv' := [(0, .ref 39), (1, .int a1)]) (st' := [.int (1 : Int32), .ref 39]) (u' := (xU u)) [(.aload_n 0, (0, 0, 0), 0, 0), (.iconst 1, (0, 0, 0), 1, 0)] (by decide +kernel) rfl ?_
      refine xm_Vm (pc := 33) (mz := md_X4_find) (idx := 82) (p1 := 908) (a := 39) (as := [.int (1 : Int32)]) (st := []) (ev_X4_find (1 : Int32) u) mw_X4_find (by decide +kernel) (by decide +kernel) (by decide) rfl rfl (by decide) rfl (Nat.le_of_ble_eq_true rfl) (fun r33 => ?_)
      exact xm_iret (pc := 36) (by decide +kernel) rfl rfl
  · refine xm_blk0 (pc' := 13) (lv' := [(0, .ref 39), (1, .int a1)]) (st' := [.int (-1 : Int32)]) (u' := (xU u)) [(.iconst (-1), (0, 0, 0), -1, 0)] (by decide +kernel) rfl ?_
    exact xm_iret (pc := 13) (by decide +kernel) rfl rfl
theorem ev_X4_on (N : Nat) (a1 : Int32) (u : xN) : ∀ r, f_X4_on N a1 u = some r → xEm md_X4_on yX4_on [.ref 39, .int a1] (xU u) (some (.int r.1), xU r.2) := xm_met (res := rsM) (as := [.ref 39, .int a1]) (go_X4_on N a1 u) (by decide) rfl (Nat.le_of_ble_eq_true rfl)
theorem mw_X4_isWay : xMv yX4_isWay cX4_isWay 2 (some .boolean) 1 := xMv_of (p1 := 1128) (p2 := 1127) (p3 := 97) (p4 := 69) (by decide +kernel)
/-! NeitherBareModel.isWay(I)Z (39, None) -/
abbrev md_X4_isWay : xMd := (cX4_isWay, RX4, 2, some .boolean, 2)
def f_X4_isWay (a1 : Int32) (u : xN) : Option Int32 := Option.bind (f_X4_ways u) (fun r4 => Option.bind (f_X4_in (Int32.toInt64 a1) (0 : Int64) (Int32.toInt64 (r4 - (1 : Int32)))) (fun r10 => gdl [isb r10] (some r10)))
set_option maxRecDepth 20000 in
theorem go_X4_isWay (a1 : Int32) (u : xN) : xGm md_X4_isWay (rsI (xU u)) (f_X4_isWay a1 u) 0 [(0, .ref 39), (1, .int a1)] [] (xU u) := by
  unfold f_X4_isWay
  refine xm_blk0 (pc' := 4) (lv' := [(0, .ref 39), (1, .int a1)]) (st' := [.ref 39, .long (0 : Int64), .long (Int32.toInt64 a1)]) (u' := (xU u)) [(.iload_n 1, (0, 0, 0), 0, 0), (.i2l, (0, 0, 0), 0, 0), (.lconst 0, (0, 0, 0), 0, 0), (.aload_n 0, (0, 0, 0), 0, 0)] (by decide +kernel) rfl ?_
  refine xm_Vi (pc := 4) (mz := md_X4_ways) (idx := 150) (p1 := 1020) (a := 39) (as := []) (st := [.long (0 : Int64), .long (Int32.toInt64 a1)]) (ev_X4_ways u) mw_X4_ways (by decide +kernel) (by decide +kernel) (by decide) rfl rfl (by decide) rfl (Nat.le_of_ble_eq_true rfl) (fun r4 => ?_)
  refine xm_blk0 (pc' := 10) (lv' := [(0, .ref 39), (1, .int a1)]) (st' := [.long (Int32.toInt64 (r4 - (1 : Int32))), .long (0 : Int64), .long (Int32.toInt64 a1)]) (u' := (xU u)) [(.iconst 1, (0, 0, 0), 1, 0), (.isub, (0, 0, 0), 0, 0), (.i2l, (0, 0, 0), 0, 0)] (by decide +kernel) rfl ?_
  refine xm_Si (pc := 10) (mz := md_X4_in) (idx := 72) (p1 := 905) (as := [.long (Int32.toInt64 a1), .long (0 : Int64), .long (Int32.toInt64 (r4 - (1 : Int32)))]) (st := []) (ev_X4_in (Int32.toInt64 a1) (0 : Int64) (Int32.toInt64 (r4 - (1 : Int32))) u) mw_X4_in (by decide +kernel) (by decide +kernel) (by decide) rfl (Nat.le_of_ble_eq_true rfl) (fun r10 => ?_)
  exact xm_zret (pc := 13) (by decide +kernel) rfl rfl
theorem ev_X4_isWay (a1 : Int32) (u : xN) : ∀ r, f_X4_isWay a1 u = some r → xEm md_X4_isWay yX4_isWay [.ref 39, .int a1] (xU u) (some (.int r), (xU u)) := xm_met (res := (rsI (xU u))) (as := [.ref 39, .int a1]) (go_X4_isWay a1 u) (by decide) rfl (Nat.le_of_ble_eq_true rfl)
theorem mw_X4_value : xMv yX4_value cX4_value 3 (some .int) 2 := xMv_of (p1 := 1124) (p2 := 1122) (p3 := 97) (p4 := 1123) (by decide +kernel)
/-! NeitherBareModel.value(II)I (39, None, None) -/
abbrev md_X4_value : xMd := (cX4_value, RX4, 3, some .int, 3)
def f_X4_value_L25 (N : Nat) (u : xN) (t0 : Int32) : Option Int32 := some t0
set_option maxRecDepth 20000 in
theorem go_X4_value_L25 (N : Nat) (u : xN) (t0 : Int32) : xGm md_X4_value (rsI (xU u)) (f_X4_value_L25 N u t0) 25 [] [.int t0] (xU u) := by
  unfold f_X4_value_L25
  exact xm_iret (pc := 25) (by decide +kernel) rfl rfl
def f_X4_value_L24 (N : Nat) (u : xN) : Option Int32 := f_X4_value_L25 N u (-1 : Int32)
set_option maxRecDepth 20000 in
theorem go_X4_value_L24 (N : Nat) (u : xN) : xGm md_X4_value (rsI (xU u)) (f_X4_value_L24 N u) 24 [] [] (xU u) := by
  unfold f_X4_value_L24
  refine xm_blk0 (pc' := 25) (lv' := []) (st' := [.int (-1 : Int32)]) (u' := (xU u)) [(.iconst (-1), (0, 0, 0), -1, 0)] (by decide +kernel) rfl ?_
  exact go_X4_value_L25 N u (-1 : Int32)
def f_X4_value (N : Nat) (a1 : Int32) (a2 : Int32) (u : xN) : Option Int32 := Option.bind (f_X4_isWay a1 u) (fun r2 => if r2 = (0 : Int32) then f_X4_value_L24 N u else Option.bind (f_X4_isTrait a2) (fun r9 => if r9 = (0 : Int32) then f_X4_value_L24 N u else Option.bind (f_X4_valueOf N a1 a2 u) (fun r18 => f_X4_value_L25 N u r18)))
set_option maxRecDepth 20000 in
theorem go_X4_value (N : Nat) (a1 : Int32) (a2 : Int32) (u : xN) : xGm md_X4_value (rsI (xU u)) (f_X4_value N a1 a2 u) 0 [(0, .ref 39), (1, .int a1), (2, .int a2)] [] (xU u) := by
  unfold f_X4_value
  refine xm_blk0 (pc' := 2) (lv' := [(0, .ref 39), (1, .int a1), (2, .int a2)]) (st' := [.int a1, .ref 39]) (u' := (xU u)) [(.aload_n 0, (0, 0, 0), 0, 0), (.iload_n 1, (0, 0, 0), 0, 0)] (by decide +kernel) rfl ?_
  refine xm_Vi (pc := 2) (mz := md_X4_isWay) (idx := 229) (p1 := 1125) (a := 39) (as := [.int a1]) (st := []) (ev_X4_isWay a1 u) mw_X4_isWay (by decide +kernel) (by decide +kernel) (by decide) rfl rfl (by decide) rfl (Nat.le_of_ble_eq_true rfl) (fun r2 => ?_)
  refine xm_if_eq (pc := 5) (off := 19) (tgt := 24) (by decide +kernel) (by decide) ?_ ?_
  · refine xm_wk [] (lv' := []) rfl ?_
    exact go_X4_value_L24 N u
  · refine xm_blk0 (pc' := 9) (lv' := [(0, .ref 39), (1, .int a1), (2, .int a2)]) (st' := [.int a2]) (u' := (xU u)) [(.iload_n 2, (0, 0, 0), 0, 0)] (by decide +kernel) rfl ?_
    refine xm_Si (pc := 9) (mz := md_X4_isTrait) (idx := 209) (p1 := 1079) (as := [.int a2]) (st := []) (ev_X4_isTrait a2 u) mw_X4_isTrait (by decide +kernel) (by decide +kernel) (by decide) rfl (Nat.le_of_ble_eq_true rfl) (fun r9 => ?_)
    refine xm_if_eq (pc := 12) (off := 12) (tgt := 24) (by decide +kernel) (by decide) ?_ ?_
    · refine xm_wk [] (lv' := []) rfl ?_
      exact go_X4_value_L24 N u
    · refine xm_blk0 (pc' := 18) (lv' := [(0, .ref 39), (1, .int a1), (2, .int a2)]) (st' := [.int a2, .int a1, .ref 39]) (u' := (xU u)) [(.aload_n 0, (0, 0, 0), 0, 0), (.iload_n 1, (0, 0, 0), 0, 0), (.iload_n 2, (0, 0, 0), 0, 0)] (by decide +kernel) rfl ?_
      refine xm_Vi (pc := 18) (mz := md_X4_valueOf) (idx := 157) (p1 := 1028) (a := 39) (as := [.int a1, .int a2]) (st := []) (ev_X4_valueOf N a1 a2 u) mw_X4_valueOf (by decide +kernel) (by decide +kernel) (by decide) rfl rfl (by decide) rfl (Nat.le_of_ble_eq_true rfl) (fun r18 => ?_)
      refine xm_goto (pc := 21) (off := 4) (tgt := 25) (by decide +kernel) (by decide) ?_
      refine xm_wk [] (lv' := []) rfl ?_
      exact go_X4_value_L25 N u r18
theorem ev_X4_value (N : Nat) (a1 : Int32) (a2 : Int32) (u : xN) : ∀ r, f_X4_value N a1 a2 u = some r → xEm md_X4_value yX4_value [.ref 39, .int a1, .int a2] (xU u) (some (.int r), (xU u)) := xm_met (res := (rsI (xU u))) (as := [.ref 39, .int a1, .int a2]) (go_X4_value N a1 a2 u) (by decide) rfl (Nat.le_of_ble_eq_true rfl)
theorem mw_X4_costOf : xMv yX4_costOf cX4_costOf 4 (some .int) 1 := xMv_of (p1 := 1136) (p2 := 1135) (p3 := 97) (p4 := 70) (by decide +kernel)
/-! NeitherBareModel.costOf(I)I (39, None) -/
abbrev md_X4_costOf : xMd := (cX4_costOf, RX4, 4, some .int, 2)
def f_X4_costOf_L35 (N : Nat) (u : xN) (rec4 : Int32 → Int32 → Int32 → Option Int32) (v1 : Int32) (v3 : Int32) (t0 : Int32) (t1 : Int32) : Option Int32 := rec4 v1 (t1 + t0) (v3 + (1 : Int32))
set_option maxRecDepth 20000 in
theorem go_X4_costOf_L35 (N : Nat) (u : xN) (rec4 : Int32 → Int32 → Int32 → Option Int32) (h4 : ∀ (v1 : Int32) (v2 : Int32) (v3 : Int32), xGm md_X4_costOf (rsI (xU u)) (rec4 v1 v2 v3) 4 [(0, .ref 39), (1, .int v1), (2, .int v2), (3, .int v3)] [] (xU u)) (v1 : Int32) (v3 : Int32) (t0 : Int32) (t1 : Int32) : xGm md_X4_costOf (rsI (xU u)) (f_X4_costOf_L35 N u rec4 v1 v3 t0 t1) 35 [(0, .ref 39), (1, .int v1), (3, .int v3)] [.int t0, .int t1] (xU u) := by
  unfold f_X4_costOf_L35
  refine xm_blk0 (pc' := 40) (lv' := [(0, .ref 39), (1, .int v1), (2, .int (t1 + t0)), (3, .int (v3 + (1 : Int32)))]) (st' := []) (u' := (xU u)) [(.iadd, (0, 0, 0), 0, 0), (.istore_n 2, (0, 0, 0), 0, 0), (.iinc 3 1, (0, 0, 0), 1, 0)] (by decide +kernel) rfl ?_
  refine xm_goto (pc := 40) (off := -36) (tgt := 4) (by decide +kernel) (by decide) ?_
  exact h4 v1 (t1 + t0) (v3 + (1 : Int32))
def f_X4_costOf_L4b (N : Nat) (u : xN) (rec4 : Int32 → Int32 → Int32 → Option Int32) (v1 : Int32) (v2 : Int32) (v3 : Int32) : Option Int32 := if (u.1 39 1) ≤ v3 then some v2 else Option.bind (f_X4_has v1 v3) (fun r15 => if r15 = (0 : Int32) then f_X4_costOf_L35 N u rec4 v1 v3 (0 : Int32) v2 else gdl [inb (((5 : Int32) * v3) + (4 : Int32)) 30] (f_X4_costOf_L35 N u rec4 v1 v3 (u.1 41 (Int32.toNatClampNeg (((5 : Int32) * v3) + (4 : Int32)))) v2))
set_option maxRecDepth 20000 in
theorem go_X4_costOf_L4b (N : Nat) (u : xN) (rec4 : Int32 → Int32 → Int32 → Option Int32) (h4 : ∀ (v1 : Int32) (v2 : Int32) (v3 : Int32), xGm md_X4_costOf (rsI (xU u)) (rec4 v1 v2 v3) 4 [(0, .ref 39), (1, .int v1), (2, .int v2), (3, .int v3)] [] (xU u)) (v1 : Int32) (v2 : Int32) (v3 : Int32) : xGm md_X4_costOf (rsI (xU u)) (f_X4_costOf_L4b N u rec4 v1 v2 v3) 4 [(0, .ref 39), (1, .int v1), (2, .int v2), (3, .int v3)] [] (xU u) := by
  unfold f_X4_costOf_L4b
  refine xm_blk0 (pc' := 9) (lv' := [(0, .ref 39), (1, .int v1), (2, .int v2), (3, .int v3)]) (st' := [.int (u.1 39 1), .int v3]) (u' := (xU u)) [(.iload_n 3, (0, 0, 0), 0, 0), (.aload_n 0, (0, 0, 0), 0, 0), (.getfield 147, (4, 1, 821), 0, 0)] (by decide +kernel) rfl ?_
  refine xm_icmp_ge (pc := 9) (off := 34) (tgt := 43) (by decide +kernel) (by decide) ?_ ?_
  · refine xm_blk0 (pc' := 44) (lv' := [(0, .ref 39), (1, .int v1), (2, .int v2), (3, .int v3)]) (st' := [.int v2]) (u' := (xU u)) [(.iload_n 2, (0, 0, 0), 0, 0)] (by decide +kernel) rfl ?_
    exact xm_iret (pc := 44) (by decide +kernel) rfl rfl
  · refine xm_blk0 (pc' := 15) (lv' := [(0, .ref 39), (1, .int v1), (2, .int v2), (3, .int v3)]) (st' := [.int v3, .int v1, .int v2]) (u' := (xU u)) [(.iload_n 2, (0, 0, 0), 0, 0), (.iload_n 1, (0, 0, 0), 0, 0), (.iload_n 3, (0, 0, 0), 0, 0)] (by decide +kernel) rfl ?_
    refine xm_Si (pc := 15) (mz := md_X4_has) (idx := 153) (p1 := 1032) (as := [.int v1, .int v3]) (st := [.int v2]) (ev_X4_has v1 v3 u) mw_X4_has (by decide +kernel) (by decide +kernel) (by decide) rfl (Nat.le_of_ble_eq_true rfl) (fun r15 => ?_)
    refine xm_if_eq (pc := 18) (off := 16) (tgt := 34) (by decide +kernel) (by decide) ?_ ?_
    · refine xm_blk0 (pc' := 35) (lv' := [(0, .ref 39), (1, .int v1), (2, .int v2), (3, .int v3)]) (st' := [.int (0 : Int32), .int v2]) (u' := (xU u)) [(.iconst 0, (0, 0, 0), 0, 0)] (by decide +kernel) rfl ?_
      refine xm_wk [0, 1, 3] (lv' := [(0, .ref 39), (1, .int v1), (3, .int v3)]) rfl ?_
      exact go_X4_costOf_L35 N u rec4 h4 v1 v3 (0 : Int32) v2
    · refine xm_blk (bs := [inb (((5 : Int32) * v3) + (4 : Int32)) 30]) (pc' := 31) (lv' := [(0, .ref 39), (1, .int v1), (2, .int v2), (3, .int v3)]) (st' := [.int (u.1 41 (Int32.toNatClampNeg (((5 : Int32) * v3) + (4 : Int32)))), .int v2]) (u' := (xU u)) [(.aload_n 0, (0, 0, 0), 0, 0), (.getfield 13, (4, 2, 822), 0, 0), (.iconst 5, (0, 0, 0), 5, 0), (.iload_n 3, (0, 0, 0), 0, 0), (.imul, (0, 0, 0), 0, 0), (.iconst 4, (0, 0, 0), 4, 0), (.iadd, (0, 0, 0), 0, 0), (.iaload, (0, 0, 0), 0, 0)] (by decide +kernel) rfl ?_
      refine xm_goto (pc := 31) (off := 4) (tgt := 35) (by decide +kernel) (by decide) ?_
      refine xm_wk [0, 1, 3] (lv' := [(0, .ref 39), (1, .int v1), (3, .int v3)]) rfl ?_
      exact go_X4_costOf_L35 N u rec4 h4 v1 v3 (u.1 41 (Int32.toNatClampNeg (((5 : Int32) * v3) + (4 : Int32)))) v2
def f_X4_costOf_L4 (N : Nat) (u : xN) : Nat → Int32 → Int32 → Int32 → Option Int32
  | 0 => fun _ _ _ => none
  | n + 1 => fun v1 v2 v3 => f_X4_costOf_L4b N u (f_X4_costOf_L4 N u n) v1 v2 v3
theorem go_X4_costOf_L4 (N : Nat) (u : xN) : ∀ (n : Nat) (v1 : Int32) (v2 : Int32) (v3 : Int32), xGm md_X4_costOf (rsI (xU u)) (f_X4_costOf_L4 N u n v1 v2 v3) 4 [(0, .ref 39), (1, .int v1), (2, .int v2), (3, .int v3)] [] (xU u) := by
  intro n
  induction n with
  | zero => intro v1 v2 v3; exact xm_none
  | succ n ih => intro v1 v2 v3; exact go_X4_costOf_L4b N u _ ih v1 v2 v3
def f_X4_costOf (N : Nat) (a1 : Int32) (u : xN) : Option Int32 := f_X4_costOf_L4 N u N a1 (0 : Int32) (0 : Int32)
set_option maxRecDepth 20000 in
theorem go_X4_costOf (N : Nat) (a1 : Int32) (u : xN) : xGm md_X4_costOf (rsI (xU u)) (f_X4_costOf N a1 u) 0 [(0, .ref 39), (1, .int a1)] [] (xU u) := by
  unfold f_X4_costOf
  refine xm_blk0 (pc' := 4) (lv' := [(0, .ref 39), (1, .int a1), (2, .int (0 : Int32)), (3, .int (0 : Int32))]) (st' := []) (u' := (xU u)) [(.iconst 0, (0, 0, 0), 0, 0), (.istore_n 2, (0, 0, 0), 0, 0), (.iconst 0, (0, 0, 0), 0, 0), (.istore_n 3, (0, 0, 0), 0, 0)] (by decide +kernel) rfl ?_
  exact go_X4_costOf_L4 N u N a1 (0 : Int32) (0 : Int32)
theorem ev_X4_costOf (N : Nat) (a1 : Int32) (u : xN) : ∀ r, f_X4_costOf N a1 u = some r → xEm md_X4_costOf yX4_costOf [.ref 39, .int a1] (xU u) (some (.int r), (xU u)) := xm_met (res := (rsI (xU u))) (as := [.ref 39, .int a1]) (go_X4_costOf N a1 u) (by decide) rfl (Nat.le_of_ble_eq_true rfl)
theorem mw_X4_cost : xMv yX4_cost cX4_cost 2 (some .int) 1 := xMv_of (p1 := 1132) (p2 := 1130) (p3 := 97) (p4 := 1131) (by decide +kernel)
/-! NeitherBareModel.cost(I)I (39, None) -/
abbrev md_X4_cost : xMd := (cX4_cost, RX4, 2, some .int, 3)
def f_X4_cost_L17 (N : Nat) (u : xN) (t0 : Int32) : Option Int32 := some t0
set_option maxRecDepth 20000 in
theorem go_X4_cost_L17 (N : Nat) (u : xN) (t0 : Int32) : xGm md_X4_cost (rsI (xU u)) (f_X4_cost_L17 N u t0) 17 [] [.int t0] (xU u) := by
  unfold f_X4_cost_L17
  exact xm_iret (pc := 17) (by decide +kernel) rfl rfl
def f_X4_cost (N : Nat) (a1 : Int32) (u : xN) : Option Int32 := Option.bind (f_X4_isWay a1 u) (fun r2 => if r2 = (0 : Int32) then f_X4_cost_L17 N u (-1 : Int32) else Option.bind (f_X4_costOf N a1 u) (fun r10 => f_X4_cost_L17 N u r10))
set_option maxRecDepth 20000 in
theorem go_X4_cost (N : Nat) (a1 : Int32) (u : xN) : xGm md_X4_cost (rsI (xU u)) (f_X4_cost N a1 u) 0 [(0, .ref 39), (1, .int a1)] [] (xU u) := by
  unfold f_X4_cost
  refine xm_blk0 (pc' := 2) (lv' := [(0, .ref 39), (1, .int a1)]) (st' := [.int a1, .ref 39]) (u' := (xU u)) [(.aload_n 0, (0, 0, 0), 0, 0), (.iload_n 1, (0, 0, 0), 0, 0)] (by decide +kernel) rfl ?_
  refine xm_Vi (pc := 2) (mz := md_X4_isWay) (idx := 229) (p1 := 1125) (a := 39) (as := [.int a1]) (st := []) (ev_X4_isWay a1 u) mw_X4_isWay (by decide +kernel) (by decide +kernel) (by decide) rfl rfl (by decide) rfl (Nat.le_of_ble_eq_true rfl) (fun r2 => ?_)
  refine xm_if_eq (pc := 5) (off := 11) (tgt := 16) (by decide +kernel) (by decide) ?_ ?_
  · refine xm_blk0 (pc' := 17) (lv' := [(0, .ref 39), (1, .int a1)]) (st' := [.int (-1 : Int32)]) (u' := (xU u)) [(.iconst (-1), (0, 0, 0), -1, 0)] (by decide +kernel) rfl ?_
    refine xm_wk [] (lv' := []) rfl ?_
    exact go_X4_cost_L17 N u (-1 : Int32)
  · refine xm_blk0 (pc' := 10) (lv' := [(0, .ref 39), (1, .int a1)]) (st' := [.int a1, .ref 39]) (u' := (xU u)) [(.aload_n 0, (0, 0, 0), 0, 0), (.iload_n 1, (0, 0, 0), 0, 0)] (by decide +kernel) rfl ?_
    refine xm_Vi (pc := 10) (mz := md_X4_costOf) (idx := 232) (p1 := 1133) (a := 39) (as := [.int a1]) (st := []) (ev_X4_costOf N a1 u) mw_X4_costOf (by decide +kernel) (by decide +kernel) (by decide) rfl rfl (by decide) rfl (Nat.le_of_ble_eq_true rfl) (fun r10 => ?_)
    refine xm_goto (pc := 13) (off := 4) (tgt := 17) (by decide +kernel) (by decide) ?_
    refine xm_wk [] (lv' := []) rfl ?_
    exact go_X4_cost_L17 N u r10
theorem ev_X4_cost (N : Nat) (a1 : Int32) (u : xN) : ∀ r, f_X4_cost N a1 u = some r → xEm md_X4_cost yX4_cost [.ref 39, .int a1] (xU u) (some (.int r), (xU u)) := xm_met (res := (rsI (xU u))) (as := [.ref 39, .int a1]) (go_X4_cost N a1 u) (by decide) rfl (Nat.le_of_ble_eq_true rfl)
theorem mw_X4_holdsIn : xMv yX4_holdsIn cX4_holdsIn 3 (some .boolean) 2 := xMv_of (p1 := 1152) (p2 := 1151) (p3 := 97) (p4 := 73) (by decide +kernel)
/-! NeitherBareModel.holdsIn(II)Z (39, None, None) -/
abbrev md_X4_holdsIn : xMd := (cX4_holdsIn, RX4, 3, some .boolean, 5)
def f_X4_holdsIn (N : Nat) (a1 : Int32) (a2 : Int32) (u : xN) : Option Int32 := gdl [inb a1 8, inb a1 8, inb a1 8] (Option.bind (f_X4_holdsOf N (u.1 42 (Int32.toNatClampNeg a1)) (u.1 43 (Int32.toNatClampNeg a1)) (u.1 44 (Int32.toNatClampNeg a1)) a2 u) (fun r20 => gdl [isb r20] (some r20)))
set_option maxRecDepth 20000 in
theorem go_X4_holdsIn (N : Nat) (a1 : Int32) (a2 : Int32) (u : xN) : xGm md_X4_holdsIn (rsI (xU u)) (f_X4_holdsIn N a1 a2 u) 0 [(0, .ref 39), (1, .int a1), (2, .int a2)] [] (xU u) := by
  unfold f_X4_holdsIn
  refine xm_blk (bs := [inb a1 8, inb a1 8, inb a1 8]) (pc' := 20) (lv' := [(0, .ref 39), (1, .int a1), (2, .int a2)]) (st' := [.int a2, .int (u.1 44 (Int32.toNatClampNeg a1)), .int (u.1 43 (Int32.toNatClampNeg a1)), .int (u.1 42 (Int32.toNatClampNeg a1)), .ref 39]) (u' := (xU u)) [(.aload_n 0, (0, 0, 0), 0, 0), (.aload_n 0, (0, 0, 0), 0, 0), (.getfield 16, (4, 4, 824), 0, 0), (.iload_n 1, (0, 0, 0), 0, 0), (.iaload, (0, 0, 0), 0, 0), (.aload_n 0, (0, 0, 0), 0, 0), (.getfield 19, (4, 5, 825), 0, 0), (.iload_n 1, (0, 0, 0), 0, 0), (.iaload, (0, 0, 0), 0, 0), (.aload_n 0, (0, 0, 0), 0, 0), (.getfield 22, (4, 6, 826), 0, 0), (.iload_n 1, (0, 0, 0), 0, 0), (.iaload, (0, 0, 0), 0, 0), (.iload_n 2, (0, 0, 0), 0, 0)] (by decide +kernel) rfl ?_
  refine xm_Vi (pc := 20) (mz := md_X4_holdsOf) (idx := 178) (p1 := 1024) (a := 39) (as := [.int (u.1 42 (Int32.toNatClampNeg a1)), .int (u.1 43 (Int32.toNatClampNeg a1)), .int (u.1 44 (Int32.toNatClampNeg a1)), .int a2]) (st := []) (ev_X4_holdsOf N (u.1 42 (Int32.toNatClampNeg a1)) (u.1 43 (Int32.toNatClampNeg a1)) (u.1 44 (Int32.toNatClampNeg a1)) a2 u) mw_X4_holdsOf (by decide +kernel) (by decide +kernel) (by decide) rfl rfl (by decide) rfl (Nat.le_of_ble_eq_true rfl) (fun r20 => ?_)
  exact xm_zret (pc := 23) (by decide +kernel) rfl rfl
theorem ev_X4_holdsIn (N : Nat) (a1 : Int32) (a2 : Int32) (u : xN) : ∀ r, f_X4_holdsIn N a1 a2 u = some r → xEm md_X4_holdsIn yX4_holdsIn [.ref 39, .int a1, .int a2] (xU u) (some (.int r), (xU u)) := xm_met (res := (rsI (xU u))) (as := [.ref 39, .int a1, .int a2]) (go_X4_holdsIn N a1 a2 u) (by decide) rfl (Nat.le_of_ble_eq_true rfl)
theorem mw_X4_heldBy : xMv yX4_heldBy cX4_heldBy 4 (some .int) 1 := xMv_of (p1 := 1148) (p2 := 1147) (p3 := 97) (p4 := 72) (by decide +kernel)
/-! NeitherBareModel.heldBy(I)I (39, None) -/
abbrev md_X4_heldBy : xMd := (cX4_heldBy, RX4, 4, some .int, 6)
def f_X4_heldBy_L29 (N : Nat) (u : xN) (rec4 : Int32 → Int32 → Int32 → Option Int32) (v1 : Int32) (v3 : Int32) (t0 : Int32) (t1 : Int32) : Option Int32 := rec4 v1 (t1 ||| t0) (v3 + (1 : Int32))
set_option maxRecDepth 20000 in
theorem go_X4_heldBy_L29 (N : Nat) (u : xN) (rec4 : Int32 → Int32 → Int32 → Option Int32) (h4 : ∀ (v1 : Int32) (v2 : Int32) (v3 : Int32), xGm md_X4_heldBy (rsI (xU u)) (rec4 v1 v2 v3) 4 [(0, .ref 39), (1, .int v1), (2, .int v2), (3, .int v3)] [] (xU u)) (v1 : Int32) (v3 : Int32) (t0 : Int32) (t1 : Int32) : xGm md_X4_heldBy (rsI (xU u)) (f_X4_heldBy_L29 N u rec4 v1 v3 t0 t1) 29 [(0, .ref 39), (1, .int v1), (3, .int v3)] [.int t0, .int t1] (xU u) := by
  unfold f_X4_heldBy_L29
  refine xm_blk0 (pc' := 34) (lv' := [(0, .ref 39), (1, .int v1), (2, .int (t1 ||| t0)), (3, .int (v3 + (1 : Int32)))]) (st' := []) (u' := (xU u)) [(.ior, (0, 0, 0), 0, 0), (.istore_n 2, (0, 0, 0), 0, 0), (.iinc 3 1, (0, 0, 0), 1, 0)] (by decide +kernel) rfl ?_
  refine xm_goto (pc := 34) (off := -30) (tgt := 4) (by decide +kernel) (by decide) ?_
  exact h4 v1 (t1 ||| t0) (v3 + (1 : Int32))
def f_X4_heldBy_L4b (N : Nat) (u : xN) (rec4 : Int32 → Int32 → Int32 → Option Int32) (v1 : Int32) (v2 : Int32) (v3 : Int32) : Option Int32 := if (u.1 39 3) ≤ v3 then some v2 else Option.bind (f_X4_holdsIn N v3 v1 u) (fun r16 => if r16 = (0 : Int32) then f_X4_heldBy_L29 N u rec4 v1 v3 (0 : Int32) v2 else f_X4_heldBy_L29 N u rec4 v1 v3 ((1 : Int32) <<< (v3 &&& 31)) v2)
set_option maxRecDepth 20000 in
theorem go_X4_heldBy_L4b (N : Nat) (u : xN) (rec4 : Int32 → Int32 → Int32 → Option Int32) (h4 : ∀ (v1 : Int32) (v2 : Int32) (v3 : Int32), xGm md_X4_heldBy (rsI (xU u)) (rec4 v1 v2 v3) 4 [(0, .ref 39), (1, .int v1), (2, .int v2), (3, .int v3)] [] (xU u)) (v1 : Int32) (v2 : Int32) (v3 : Int32) : xGm md_X4_heldBy (rsI (xU u)) (f_X4_heldBy_L4b N u rec4 v1 v2 v3) 4 [(0, .ref 39), (1, .int v1), (2, .int v2), (3, .int v3)] [] (xU u) := by
  unfold f_X4_heldBy_L4b
  refine xm_blk0 (pc' := 9) (lv' := [(0, .ref 39), (1, .int v1), (2, .int v2), (3, .int v3)]) (st' := [.int (u.1 39 3), .int v3]) (u' := (xU u)) [(.iload_n 3, (0, 0, 0), 0, 0), (.aload_n 0, (0, 0, 0), 0, 0), (.getfield 60, (4, 3, 823), 0, 0)] (by decide +kernel) rfl ?_
  refine xm_icmp_ge (pc := 9) (off := 28) (tgt := 37) (by decide +kernel) (by decide) ?_ ?_
  · refine xm_blk0 (pc' := 38) (lv' := [(0, .ref 39), (1, .int v1), (2, .int v2), (3, .int v3)]) (st' := [.int v2]) (u' := (xU u)) [(.iload_n 2, (0, 0, 0), 0, 0)] (by decide +kernel) rfl ?_
    exact xm_iret (pc := 38) (by decide +kernel) rfl rfl
  · refine xm_blk0 (pc' := 16) (lv' := [(0, .ref 39), (1, .int v1), (2, .int v2), (3, .int v3)]) (st' := [.int v1, .int v3, .ref 39, .int v2]) (u' := (xU u)) [(.iload_n 2, (0, 0, 0), 0, 0), (.aload_n 0, (0, 0, 0), 0, 0), (.iload_n 3, (0, 0, 0), 0, 0), (.iload_n 1, (0, 0, 0), 0, 0)] (by decide +kernel) rfl ?_
    refine xm_Vi (pc := 16) (mz := md_X4_holdsIn) (idx := 182) (p1 := 1149) (a := 39) (as := [.int v3, .int v1]) (st := [.int v2]) (ev_X4_holdsIn N v3 v1 u) mw_X4_holdsIn (by decide +kernel) (by decide +kernel) (by decide) rfl rfl (by decide) rfl (Nat.le_of_ble_eq_true rfl) (fun r16 => ?_)
    refine xm_if_eq (pc := 19) (off := 9) (tgt := 28) (by decide +kernel) (by decide) ?_ ?_
    · refine xm_blk0 (pc' := 29) (lv' := [(0, .ref 39), (1, .int v1), (2, .int v2), (3, .int v3)]) (st' := [.int (0 : Int32), .int v2]) (u' := (xU u)) [(.iconst 0, (0, 0, 0), 0, 0)] (by decide +kernel) rfl ?_
      refine xm_wk [0, 1, 3] (lv' := [(0, .ref 39), (1, .int v1), (3, .int v3)]) rfl ?_
      exact go_X4_heldBy_L29 N u rec4 h4 v1 v3 (0 : Int32) v2
    · refine xm_blk0 (pc' := 25) (lv' := [(0, .ref 39), (1, .int v1), (2, .int v2), (3, .int v3)]) (st' := [.int ((1 : Int32) <<< (v3 &&& 31)), .int v2]) (u' := (xU u)) [(.iconst 1, (0, 0, 0), 1, 0), (.iload_n 3, (0, 0, 0), 0, 0), (.ishl, (0, 0, 0), 0, 0)] (by decide +kernel) rfl ?_
      refine xm_goto (pc := 25) (off := 4) (tgt := 29) (by decide +kernel) (by decide) ?_
      refine xm_wk [0, 1, 3] (lv' := [(0, .ref 39), (1, .int v1), (3, .int v3)]) rfl ?_
      exact go_X4_heldBy_L29 N u rec4 h4 v1 v3 ((1 : Int32) <<< (v3 &&& 31)) v2
def f_X4_heldBy_L4 (N : Nat) (u : xN) : Nat → Int32 → Int32 → Int32 → Option Int32
  | 0 => fun _ _ _ => none
  | n + 1 => fun v1 v2 v3 => f_X4_heldBy_L4b N u (f_X4_heldBy_L4 N u n) v1 v2 v3
theorem go_X4_heldBy_L4 (N : Nat) (u : xN) : ∀ (n : Nat) (v1 : Int32) (v2 : Int32) (v3 : Int32), xGm md_X4_heldBy (rsI (xU u)) (f_X4_heldBy_L4 N u n v1 v2 v3) 4 [(0, .ref 39), (1, .int v1), (2, .int v2), (3, .int v3)] [] (xU u) := by
  intro n
  induction n with
  | zero => intro v1 v2 v3; exact xm_none
  | succ n ih => intro v1 v2 v3; exact go_X4_heldBy_L4b N u _ ih v1 v2 v3
def f_X4_heldBy (N : Nat) (a1 : Int32) (u : xN) : Option Int32 := f_X4_heldBy_L4 N u N a1 (0 : Int32) (0 : Int32)
set_option maxRecDepth 20000 in
theorem go_X4_heldBy (N : Nat) (a1 : Int32) (u : xN) : xGm md_X4_heldBy (rsI (xU u)) (f_X4_heldBy N a1 u) 0 [(0, .ref 39), (1, .int a1)] [] (xU u) := by
  unfold f_X4_heldBy
  refine xm_blk0 (pc' := 4) (lv' := [(0, .ref 39), (1, .int a1), (2, .int (0 : Int32)), (3, .int (0 : Int32))]) (st' := []) (u' := (xU u)) [(.iconst 0, (0, 0, 0), 0, 0), (.istore_n 2, (0, 0, 0), 0, 0), (.iconst 0, (0, 0, 0), 0, 0), (.istore_n 3, (0, 0, 0), 0, 0)] (by decide +kernel) rfl ?_
  exact go_X4_heldBy_L4 N u N a1 (0 : Int32) (0 : Int32)
theorem ev_X4_heldBy (N : Nat) (a1 : Int32) (u : xN) : ∀ r, f_X4_heldBy N a1 u = some r → xEm md_X4_heldBy yX4_heldBy [.ref 39, .int a1] (xU u) (some (.int r), (xU u)) := xm_met (res := (rsI (xU u))) (as := [.ref 39, .int a1]) (go_X4_heldBy N a1 u) (by decide) rfl (Nat.le_of_ble_eq_true rfl)
theorem mw_X4_isGood : xMv yX4_isGood cX4_isGood 2 (some .boolean) 1 := xMv_of (p1 := 1144) (p2 := 1143) (p3 := 97) (p4 := 71) (by decide +kernel)
/-! NeitherBareModel.isGood(I)Z (39, None) -/
abbrev md_X4_isGood : xMd := (cX4_isGood, RX4, 2, some .boolean, 7)
def f_X4_isGood_L22 (N : Nat) (u : xN) (t0 : Int32) : Option Int32 := gdl [isb t0] (some t0)
set_option maxRecDepth 20000 in
theorem go_X4_isGood_L22 (N : Nat) (u : xN) (t0 : Int32) : xGm md_X4_isGood (rsI (xU u)) (f_X4_isGood_L22 N u t0) 22 [] [.int t0] (xU u) := by
  unfold f_X4_isGood_L22
  exact xm_zret (pc := 22) (by decide +kernel) rfl rfl
def f_X4_isGood (N : Nat) (a1 : Int32) (u : xN) : Option Int32 := gdl [inb (1 : Int32) 1480] (Option.bind (f_X4_heldBy N a1 u) (fun r8 => if ((u.1 40 (Int32.toNatClampNeg (1 : Int32))) &&& (r8 ^^^ (-1 : Int32))) = (0 : Int32) then f_X4_isGood_L22 N u (1 : Int32) else f_X4_isGood_L22 N u (0 : Int32)))
set_option maxRecDepth 20000 in
theorem go_X4_isGood (N : Nat) (a1 : Int32) (u : xN) : xGm md_X4_isGood (rsI (xU u)) (f_X4_isGood N a1 u) 0 [(0, .ref 39), (1, .int a1)] [] (xU u) := by
  unfold f_X4_isGood
  refine xm_blk (bs := [inb (1 : Int32) 1480]) (pc' := 8) (lv' := [(0, .ref 39), (1, .int a1)]) (st' := [.int a1, .ref 39, .int (u.1 40 (Int32.toNatClampNeg (1 : Int32)))]) (u' := (xU u)) [(.aload_n 0, (0, 0, 0), 0, 0), (.getfield 7, (4, 0, 820), 0, 0), (.iconst 1, (0, 0, 0), 1, 0), (.iaload, (0, 0, 0), 0, 0), (.aload_n 0, (0, 0, 0), 0, 0), (.iload_n 1, (0, 0, 0), 0, 0)] (by decide +kernel) rfl ?_
  refine xm_Vi (pc := 8) (mz := md_X4_heldBy) (idx := 185) (p1 := 1145) (a := 39) (as := [.int a1]) (st := [.int (u.1 40 (Int32.toNatClampNeg (1 : Int32)))]) (ev_X4_heldBy N a1 u) mw_X4_heldBy (by decide +kernel) (by decide +kernel) (by decide) rfl rfl (by decide) rfl (Nat.le_of_ble_eq_true rfl) (fun r8 => ?_)
  refine xm_blk0 (pc' := 14) (lv' := [(0, .ref 39), (1, .int a1)]) (st' := [.int ((u.1 40 (Int32.toNatClampNeg (1 : Int32))) &&& (r8 ^^^ (-1 : Int32)))]) (u' := (xU u)) [(.iconst (-1), (0, 0, 0), -1, 0), (.ixor, (0, 0, 0), 0, 0), (.iand, (0, 0, 0), 0, 0)] (by decide +kernel) rfl ?_
  refine xm_if_ne (pc := 14) (off := 7) (tgt := 21) (by decide +kernel) (by decide) ?_ ?_
  · refine xm_blk0 (pc' := 22) (lv' := [(0, .ref 39), (1, .int a1)]) (st' := [.int (0 : Int32)]) (u' := (xU u)) [(.iconst 0, (0, 0, 0), 0, 0)] (by decide +kernel) rfl ?_
    refine xm_wk [] (lv' := []) rfl ?_
    exact go_X4_isGood_L22 N u (0 : Int32)
  · refine xm_blk0 (pc' := 18) (lv' := [(0, .ref 39), (1, .int a1)]) (st' := [.int (1 : Int32)]) (u' := (xU u)) [(.iconst 1, (0, 0, 0), 1, 0)] (by decide +kernel) rfl ?_
    refine xm_goto (pc := 18) (off := 4) (tgt := 22) (by decide +kernel) (by decide) ?_
    refine xm_wk [] (lv' := []) rfl ?_
    exact go_X4_isGood_L22 N u (1 : Int32)
theorem ev_X4_isGood (N : Nat) (a1 : Int32) (u : xN) : ∀ r, f_X4_isGood N a1 u = some r → xEm md_X4_isGood yX4_isGood [.ref 39, .int a1] (xU u) (some (.int r), (xU u)) := xm_met (res := (rsI (xU u))) (as := [.ref 39, .int a1]) (go_X4_isGood N a1 u) (by decide) rfl (Nat.le_of_ble_eq_true rfl)
theorem mw_X4_holds : xMv yX4_holds cX4_holds 2 (some .int) 1 := xMv_of (p1 := 1140) (p2 := 1138) (p3 := 97) (p4 := 1139) (by decide +kernel)
/-! NeitherBareModel.holds(I)I (39, None) -/
abbrev md_X4_holds : xMd := (cX4_holds, RX4, 2, some .int, 8)
def f_X4_holds_L24 (N : Nat) (v1 : Int32) (t0 : Int32) (u : xN) : Option (Int32 × xN) := Option.bind (f_X4_heldBy N v1 (mI u 39 11 t0)) (fun r29 => some (r29, mI u 39 11 t0))
set_option maxRecDepth 20000 in
theorem go_X4_holds_L24 (N : Nat) (v1 : Int32) (t0 : Int32) (u : xN) : xGm md_X4_holds rsM (f_X4_holds_L24 N v1 t0 u) 24 [(0, .ref 39), (1, .int v1)] [.int t0, .ref 39] (xU u) := by
  unfold f_X4_holds_L24
  refine xm_blk0 (pc' := 29) (lv' := [(0, .ref 39), (1, .int v1)]) (st' := [.int v1, .ref 39]) (u' := (xU (mI u 39 11 t0))) [(.putfield 67, (4, 11, 831), 0, 0), (.aload_n 0, (0, 0, 0), 0, 0), (.iload_n 1, (0, 0, 0), 0, 0)] (by decide +kernel) rfl ?_
  refine xm_Vi (pc := 29) (mz := md_X4_heldBy) (idx := 185) (p1 := 1145) (a := 39) (as := [.int v1]) (st := []) (ev_X4_heldBy N v1 (mI u 39 11 t0)) mw_X4_heldBy (by decide +kernel) (by decide +kernel) (by decide) rfl rfl (by decide) rfl (Nat.le_of_ble_eq_true rfl) (fun r29 => ?_)
  exact xm_iret (pc := 32) (by decide +kernel) rfl rfl
def f_X4_holds (N : Nat) (a1 : Int32) (u : xN) : Option (Int32 × xN) := Option.bind (f_X4_isWay a1 u) (fun r2 => if r2 = (0 : Int32) then some ((-1 : Int32), u) else Option.bind (f_X4_isGood N a1 u) (fun r13 => if r13 = (0 : Int32) then f_X4_holds_L24 N a1 (0 : Int32) u else f_X4_holds_L24 N a1 (1 : Int32) u))
set_option maxRecDepth 20000 in
theorem go_X4_holds (N : Nat) (a1 : Int32) (u : xN) : xGm md_X4_holds rsM (f_X4_holds N a1 u) 0 [(0, .ref 39), (1, .int a1)] [] (xU u) := by
  unfold f_X4_holds
  refine xm_blk0 (pc' := 2) (lv' := [(0, .ref 39), (1, .int a1)]) (st' := [.int a1, .ref 39]) (u' := (xU u)) [(.aload_n 0, (0, 0, 0), 0, 0), (.iload_n 1, (0, 0, 0), 0, 0)] (by decide +kernel) rfl ?_
  refine xm_Vi (pc := 2) (mz := md_X4_isWay) (idx := 229) (p1 := 1125) (a := 39) (as := [.int a1]) (st := []) (ev_X4_isWay a1 u) mw_X4_isWay (by decide +kernel) (by decide +kernel) (by decide) rfl rfl (by decide) rfl (Nat.le_of_ble_eq_true rfl) (fun r2 => ?_)
  refine xm_if_ne (pc := 5) (off := 5) (tgt := 10) (by decide +kernel) (by decide) ?_ ?_
  · refine xm_blk0 (pc' := 13) (lv' := [(0, .ref 39), (1, .int a1)]) (st' := [.int a1, .ref 39, .ref 39]) (u' := (xU u)) [(.aload_n 0, (0, 0, 0), 0, 0), (.aload_n 0, (0, 0, 0), 0, 0), (.iload_n 1, (0, 0, 0), 0, 0)] (by decide +kernel) rfl ?_
    refine xm_Vi (pc := 13) (mz := md_X4_isGood) (idx := 235) (p1 := 1141) (a := 39) (as := [.int a1]) (st := [.ref 39]) (ev_X4_isGood N a1 u) mw_X4_isGood (by decide +kernel) (by decide +kernel) (by decide) rfl rfl (by decide) rfl (Nat.le_of_ble_eq_true rfl) (fun r13 => ?_)
    refine xm_if_eq (pc := 16) (off := 7) (tgt := 23) (by decide +kernel) (by decide) ?_ ?_
    · refine xm_blk0 (pc' := 24) (lv' := [(0, .ref 39), (1, .int a1)]) (st' := [.int (0 : Int32), .ref 39]) (u' := (xU u)) [(.iconst 0, (0, 0, 0), 0, 0)] (by decide +kernel) rfl ?_
      exact go_X4_holds_L24 N a1 (0 : Int32) u
    · refine xm_blk0 (pc' := 20) (lv' := [(0, .ref 39), (1, .int a1)]) (st' := [.int (1 : Int32), .ref 39]) (u' := (xU u)) [(.iconst 1, (0, 0, 0), 1, 0)] (by decide +kernel) rfl ?_
      refine xm_goto (pc := 20) (off := 4) (tgt := 24) (by decide +kernel) (by decide) ?_
      exact go_X4_holds_L24 N a1 (1 : Int32) u
  · refine xm_blk0 (pc' := 9) (lv' := [(0, .ref 39), (1, .int a1)]) (st' := [.int (-1 : Int32)]) (u' := (xU u)) [(.iconst (-1), (0, 0, 0), -1, 0)] (by decide +kernel) rfl ?_
    exact xm_iret (pc := 9) (by decide +kernel) rfl rfl
theorem ev_X4_holds (N : Nat) (a1 : Int32) (u : xN) : ∀ r, f_X4_holds N a1 u = some r → xEm md_X4_holds yX4_holds [.ref 39, .int a1] (xU u) (some (.int r.1), xU r.2) := xm_met (res := rsM) (as := [.ref 39, .int a1]) (go_X4_holds N a1 u) (by decide) rfl (Nat.le_of_ble_eq_true rfl)
theorem mw_X4_goodMany : xMv yX4_goodMany cX4_goodMany 3 (some .int) 0 := xMv_of (p1 := 1160) (p2 := 1159) (p3 := 97) (p4 := 74) (by decide +kernel)
/-! NeitherBareModel.goodMany()I (39,) -/
abbrev md_X4_goodMany : xMd := (cX4_goodMany, RX4, 3, some .int, 8)
def f_X4_goodMany_L26 (N : Nat) (u : xN) (rec4 : Int32 → Int32 → Option Int32) (v2 : Int32) (t0 : Int32) (t1 : Int32) : Option Int32 := rec4 (t1 + t0) (v2 + (1 : Int32))
set_option maxRecDepth 20000 in
theorem go_X4_goodMany_L26 (N : Nat) (u : xN) (rec4 : Int32 → Int32 → Option Int32) (h4 : ∀ (v1 : Int32) (v2 : Int32), xGm md_X4_goodMany (rsI (xU u)) (rec4 v1 v2) 4 [(0, .ref 39), (1, .int v1), (2, .int v2)] [] (xU u)) (v2 : Int32) (t0 : Int32) (t1 : Int32) : xGm md_X4_goodMany (rsI (xU u)) (f_X4_goodMany_L26 N u rec4 v2 t0 t1) 26 [(0, .ref 39), (2, .int v2)] [.int t0, .int t1] (xU u) := by
  unfold f_X4_goodMany_L26
  refine xm_blk0 (pc' := 31) (lv' := [(0, .ref 39), (1, .int (t1 + t0)), (2, .int (v2 + (1 : Int32)))]) (st' := []) (u' := (xU u)) [(.iadd, (0, 0, 0), 0, 0), (.istore_n 1, (0, 0, 0), 0, 0), (.iinc 2 1, (0, 0, 0), 1, 0)] (by decide +kernel) rfl ?_
  refine xm_goto (pc := 31) (off := -27) (tgt := 4) (by decide +kernel) (by decide) ?_
  exact h4 (t1 + t0) (v2 + (1 : Int32))
def f_X4_goodMany_L4b (N : Nat) (u : xN) (rec4 : Int32 → Int32 → Option Int32) (v1 : Int32) (v2 : Int32) : Option Int32 := Option.bind (f_X4_ways u) (fun r6 => if r6 ≤ v2 then some v1 else Option.bind (f_X4_isGood N v2 u) (fun r15 => if r15 = (0 : Int32) then f_X4_goodMany_L26 N u rec4 v2 (0 : Int32) v1 else f_X4_goodMany_L26 N u rec4 v2 (1 : Int32) v1))
set_option maxRecDepth 20000 in
theorem go_X4_goodMany_L4b (N : Nat) (u : xN) (rec4 : Int32 → Int32 → Option Int32) (h4 : ∀ (v1 : Int32) (v2 : Int32), xGm md_X4_goodMany (rsI (xU u)) (rec4 v1 v2) 4 [(0, .ref 39), (1, .int v1), (2, .int v2)] [] (xU u)) (v1 : Int32) (v2 : Int32) : xGm md_X4_goodMany (rsI (xU u)) (f_X4_goodMany_L4b N u rec4 v1 v2) 4 [(0, .ref 39), (1, .int v1), (2, .int v2)] [] (xU u) := by
  unfold f_X4_goodMany_L4b
  refine xm_blk0 (pc' := 6) (lv' := [(0, .ref 39), (1, .int v1), (2, .int v2)]) (st' := [.ref 39, .int v2]) (u' := (xU u)) [(.iload_n 2, (0, 0, 0), 0, 0), (.aload_n 0, (0, 0, 0), 0, 0)] (by decide +kernel) rfl ?_
  refine xm_Vi (pc := 6) (mz := md_X4_ways) (idx := 150) (p1 := 1020) (a := 39) (as := []) (st := [.int v2]) (ev_X4_ways u) mw_X4_ways (by decide +kernel) (by decide +kernel) (by decide) rfl rfl (by decide) rfl (Nat.le_of_ble_eq_true rfl) (fun r6 => ?_)
  refine xm_icmp_ge (pc := 9) (off := 25) (tgt := 34) (by decide +kernel) (by decide) ?_ ?_
  · refine xm_blk0 (pc' := 35) (lv' := [(0, .ref 39), (1, .int v1), (2, .int v2)]) (st' := [.int v1]) (u' := (xU u)) [(.iload_n 1, (0, 0, 0), 0, 0)] (by decide +kernel) rfl ?_
    exact xm_iret (pc := 35) (by decide +kernel) rfl rfl
  · refine xm_blk0 (pc' := 15) (lv' := [(0, .ref 39), (1, .int v1), (2, .int v2)]) (st' := [.int v2, .ref 39, .int v1]) (u' := (xU u)) [(.iload_n 1, (0, 0, 0), 0, 0), (.aload_n 0, (0, 0, 0), 0, 0), (.iload_n 2, (0, 0, 0), 0, 0)] (by decide +kernel) rfl ?_
    refine xm_Vi (pc := 15) (mz := md_X4_isGood) (idx := 235) (p1 := 1141) (a := 39) (as := [.int v2]) (st := [.int v1]) (ev_X4_isGood N v2 u) mw_X4_isGood (by decide +kernel) (by decide +kernel) (by decide) rfl rfl (by decide) rfl (Nat.le_of_ble_eq_true rfl) (fun r15 => ?_)
    refine xm_if_eq (pc := 18) (off := 7) (tgt := 25) (by decide +kernel) (by decide) ?_ ?_
    · refine xm_blk0 (pc' := 26) (lv' := [(0, .ref 39), (1, .int v1), (2, .int v2)]) (st' := [.int (0 : Int32), .int v1]) (u' := (xU u)) [(.iconst 0, (0, 0, 0), 0, 0)] (by decide +kernel) rfl ?_
      refine xm_wk [0, 2] (lv' := [(0, .ref 39), (2, .int v2)]) rfl ?_
      exact go_X4_goodMany_L26 N u rec4 h4 v2 (0 : Int32) v1
    · refine xm_blk0 (pc' := 22) (lv' := [(0, .ref 39), (1, .int v1), (2, .int v2)]) (st' := [.int (1 : Int32), .int v1]) (u' := (xU u)) [(.iconst 1, (0, 0, 0), 1, 0)] (by decide +kernel) rfl ?_
      refine xm_goto (pc := 22) (off := 4) (tgt := 26) (by decide +kernel) (by decide) ?_
      refine xm_wk [0, 2] (lv' := [(0, .ref 39), (2, .int v2)]) rfl ?_
      exact go_X4_goodMany_L26 N u rec4 h4 v2 (1 : Int32) v1
def f_X4_goodMany_L4 (N : Nat) (u : xN) : Nat → Int32 → Int32 → Option Int32
  | 0 => fun _ _ => none
  | n + 1 => fun v1 v2 => f_X4_goodMany_L4b N u (f_X4_goodMany_L4 N u n) v1 v2
theorem go_X4_goodMany_L4 (N : Nat) (u : xN) : ∀ (n : Nat) (v1 : Int32) (v2 : Int32), xGm md_X4_goodMany (rsI (xU u)) (f_X4_goodMany_L4 N u n v1 v2) 4 [(0, .ref 39), (1, .int v1), (2, .int v2)] [] (xU u) := by
  intro n
  induction n with
  | zero => intro v1 v2; exact xm_none
  | succ n ih => intro v1 v2; exact go_X4_goodMany_L4b N u _ ih v1 v2
def f_X4_goodMany (N : Nat) (u : xN) : Option Int32 := f_X4_goodMany_L4 N u N (0 : Int32) (0 : Int32)
set_option maxRecDepth 20000 in
theorem go_X4_goodMany (N : Nat) (u : xN) : xGm md_X4_goodMany (rsI (xU u)) (f_X4_goodMany N u) 0 [(0, .ref 39)] [] (xU u) := by
  unfold f_X4_goodMany
  refine xm_blk0 (pc' := 4) (lv' := [(0, .ref 39), (1, .int (0 : Int32)), (2, .int (0 : Int32))]) (st' := []) (u' := (xU u)) [(.iconst 0, (0, 0, 0), 0, 0), (.istore_n 1, (0, 0, 0), 0, 0), (.iconst 0, (0, 0, 0), 0, 0), (.istore_n 2, (0, 0, 0), 0, 0)] (by decide +kernel) rfl ?_
  exact go_X4_goodMany_L4 N u N (0 : Int32) (0 : Int32)
theorem ev_X4_goodMany (N : Nat) (u : xN) : ∀ r, f_X4_goodMany N u = some r → xEm md_X4_goodMany yX4_goodMany [.ref 39] (xU u) (some (.int r), (xU u)) := xm_met (res := (rsI (xU u))) (as := [.ref 39]) (go_X4_goodMany N u) (by decide) rfl (Nat.le_of_ble_eq_true rfl)
theorem mw_X4_good : xMv yX4_good cX4_good 2 (some .int) 0 := xMv_of (p1 := 1156) (p2 := 1154) (p3 := 97) (p4 := 1155) (by decide +kernel)
/-! NeitherBareModel.good()I (39,) -/
abbrev md_X4_good : xMd := (cX4_good, RX4, 2, some .int, 9)
def f_X4_good_L44 (N : Nat) (rec23 : Int32 → xN → Option (Int32 × xN)) (v1 : Int32) (t0 : Int32) (u : xN) : Option (Int32 × xN) := rec23 (v1 + (-1 : Int32)) (mI u 39 11 t0)
set_option maxRecDepth 20000 in
theorem go_X4_good_L44 (N : Nat) (rec23 : Int32 → xN → Option (Int32 × xN)) (h23 : ∀ (v1 : Int32) (u : xN), xGm md_X4_good rsM (rec23 v1 u) 23 [(0, .ref 39), (1, .int v1)] [] (xU u)) (v1 : Int32) (t0 : Int32) (u : xN) : xGm md_X4_good rsM (f_X4_good_L44 N rec23 v1 t0 u) 44 [(0, .ref 39), (1, .int v1)] [.int t0, .ref 39] (xU u) := by
  unfold f_X4_good_L44
  refine xm_blk0 (pc' := 50) (lv' := [(0, .ref 39), (1, .int (v1 + (-1 : Int32)))]) (st' := []) (u' := (xU (mI u 39 11 t0))) [(.putfield 67, (4, 11, 831), 0, 0), (.iinc 1 (-1), (0, 0, 0), -1, 0)] (by decide +kernel) rfl ?_
  refine xm_goto (pc := 50) (off := -27) (tgt := 23) (by decide +kernel) (by decide) ?_
  exact h23 (v1 + (-1 : Int32)) (mI u 39 11 t0)
def f_X4_good_L23b (N : Nat) (rec23 : Int32 → xN → Option (Int32 × xN)) (v1 : Int32) (u : xN) : Option (Int32 × xN) := if v1 < (0 : Int32) then Option.bind (f_X4_goodMany N u) (fun r54 => some (r54, u)) else Option.bind (f_X4_isGood N v1 u) (fun r30 => if r30 = (0 : Int32) then f_X4_good_L44 N rec23 v1 (u.1 39 11) u else f_X4_good_L44 N rec23 v1 v1 u)
set_option maxRecDepth 20000 in
theorem go_X4_good_L23b (N : Nat) (rec23 : Int32 → xN → Option (Int32 × xN)) (h23 : ∀ (v1 : Int32) (u : xN), xGm md_X4_good rsM (rec23 v1 u) 23 [(0, .ref 39), (1, .int v1)] [] (xU u)) (v1 : Int32) (u : xN) : xGm md_X4_good rsM (f_X4_good_L23b N rec23 v1 u) 23 [(0, .ref 39), (1, .int v1)] [] (xU u) := by
  unfold f_X4_good_L23b
  refine xm_blk0 (pc' := 24) (lv' := [(0, .ref 39), (1, .int v1)]) (st' := [.int v1]) (u' := (xU u)) [(.iload_n 1, (0, 0, 0), 0, 0)] (by decide +kernel) rfl ?_
  refine xm_if_lt (pc := 24) (off := 29) (tgt := 53) (by decide +kernel) (by decide) ?_ ?_
  · refine xm_blk0 (pc' := 54) (lv' := [(0, .ref 39), (1, .int v1)]) (st' := [.ref 39]) (u' := (xU u)) [(.aload_n 0, (0, 0, 0), 0, 0)] (by decide +kernel) rfl ?_
    refine xm_Vi (pc := 54) (mz := md_X4_goodMany) (idx := 238) (p1 := 1157) (a := 39) (as := []) (st := []) (ev_X4_goodMany N u) mw_X4_goodMany (by decide +kernel) (by decide +kernel) (by decide) rfl rfl (by decide) rfl (Nat.le_of_ble_eq_true rfl) (fun r54 => ?_)
    exact xm_iret (pc := 57) (by decide +kernel) rfl rfl
  · refine xm_blk0 (pc' := 30) (lv' := [(0, .ref 39), (1, .int v1)]) (st' := [.int v1, .ref 39, .ref 39]) (u' := (xU u)) [(.aload_n 0, (0, 0, 0), 0, 0), (.aload_n 0, (0, 0, 0), 0, 0), (.iload_n 1, (0, 0, 0), 0, 0)] (by decide +kernel) rfl ?_
    refine xm_Vi (pc := 30) (mz := md_X4_isGood) (idx := 235) (p1 := 1141) (a := 39) (as := [.int v1]) (st := [.ref 39]) (ev_X4_isGood N v1 u) mw_X4_isGood (by decide +kernel) (by decide +kernel) (by decide) rfl rfl (by decide) rfl (Nat.le_of_ble_eq_true rfl) (fun r30 => ?_)
    refine xm_if_eq (pc := 33) (off := 7) (tgt := 40) (by decide +kernel) (by decide) ?_ ?_
    · refine xm_blk0 (pc' := 44) (lv' := [(0, .ref 39), (1, .int v1)]) (st' := [.int (u.1 39 11), .ref 39]) (u' := (xU u)) [(.aload_n 0, (0, 0, 0), 0, 0), (.getfield 67, (4, 11, 831), 0, 0)] (by decide +kernel) rfl ?_
      exact go_X4_good_L44 N rec23 h23 v1 (u.1 39 11) u
    · refine xm_blk0 (pc' := 37) (lv' := [(0, .ref 39), (1, .int v1)]) (st' := [.int v1, .ref 39]) (u' := (xU u)) [(.iload_n 1, (0, 0, 0), 0, 0)] (by decide +kernel) rfl ?_
      refine xm_goto (pc := 37) (off := 7) (tgt := 44) (by decide +kernel) (by decide) ?_
      exact go_X4_good_L44 N rec23 h23 v1 v1 u
def f_X4_good_L23 (N : Nat) : Nat → Int32 → xN → Option (Int32 × xN)
  | 0 => fun _ _ => none
  | n + 1 => fun v1 u => f_X4_good_L23b N (f_X4_good_L23 N n) v1 u
theorem go_X4_good_L23 (N : Nat) : ∀ (n : Nat) (v1 : Int32) (u : xN), xGm md_X4_good rsM (f_X4_good_L23 N n v1 u) 23 [(0, .ref 39), (1, .int v1)] [] (xU u) := by
  intro n
  induction n with
  | zero => intro v1 u; exact xm_none
  | succ n ih => intro v1 u; exact go_X4_good_L23b N _ ih v1 u
def f_X4_good (N : Nat) (u : xN) : Option (Int32 × xN) := if (u.1 39 1) = (0 : Int32) then some ((-4 : Int32), u) else Option.bind (f_X4_ways (mI u 39 11 (-9 : Int32))) (fun r17 => f_X4_good_L23 N N (r17 - (1 : Int32)) (mI u 39 11 (-9 : Int32)))
set_option maxRecDepth 20000 in
theorem go_X4_good (N : Nat) (u : xN) : xGm md_X4_good rsM (f_X4_good N u) 0 [(0, .ref 39)] [] (xU u) := by
  unfold f_X4_good
  refine xm_blk0 (pc' := 4) (lv' := [(0, .ref 39)]) (st' := [.int (u.1 39 1)]) (u' := (xU u)) [(.aload_n 0, (0, 0, 0), 0, 0), (.getfield 147, (4, 1, 821), 0, 0)] (by decide +kernel) rfl ?_
  refine xm_if_ne (pc := 4) (off := 6) (tgt := 10) (by decide +kernel) (by decide) ?_ ?_
  · refine xm_blk0 (pc' := 17) (lv' := [(0, .ref 39)]) (st' := [.ref 39]) (u' := (xU (mI u 39 11 (-9 : Int32)))) [(.aload_n 0, (0, 0, 0), 0, 0), (.bipush (-9), (0, 0, 0), -9, 0), (.putfield 67, (4, 11, 831), 0, 0), (.aload_n 0, (0, 0, 0), 0, 0)] (by decide +kernel) rfl ?_
    refine xm_Vi (pc := 17) (mz := md_X4_ways) (idx := 150) (p1 := 1020) (a := 39) (as := []) (st := []) (ev_X4_ways (mI u 39 11 (-9 : Int32))) mw_X4_ways (by decide +kernel) (by decide +kernel) (by decide) rfl rfl (by decide) rfl (Nat.le_of_ble_eq_true rfl) (fun r17 => ?_)
    refine xm_blk0 (pc' := 23) (lv' := [(0, .ref 39), (1, .int (r17 - (1 : Int32)))]) (st' := []) (u' := (xU (mI u 39 11 (-9 : Int32)))) [(.iconst 1, (0, 0, 0), 1, 0), (.isub, (0, 0, 0), 0, 0), (.istore_n 1, (0, 0, 0), 0, 0)] (by decide +kernel) rfl ?_
    exact go_X4_good_L23 N N (r17 - (1 : Int32)) (mI u 39 11 (-9 : Int32))
  · refine xm_blk0 (pc' := 9) (lv' := [(0, .ref 39)]) (st' := [.int (-4 : Int32)]) (u' := (xU u)) [(.bipush (-4), (0, 0, 0), -4, 0)] (by decide +kernel) rfl ?_
    exact xm_iret (pc := 9) (by decide +kernel) rfl rfl
theorem ev_X4_good (N : Nat) (u : xN) : ∀ r, f_X4_good N u = some r → xEm md_X4_good yX4_good [.ref 39] (xU u) (some (.int r.1), xU r.2) := xm_met (res := rsM) (as := [.ref 39]) (go_X4_good N u) (by decide) rfl (Nat.le_of_ble_eq_true rfl)
theorem mw_X4_best : xMv yX4_best cX4_best 7 (some .int) 1 := xMv_of (p1 := 1168) (p2 := 1167) (p3 := 97) (p4 := 75) (by decide +kernel)
/-! NeitherBareModel.best(Z)I (39, None) -/
abbrev md_X4_best : xMd := (cX4_best, RX4, 7, some .int, 8)
def f_X4_best_L88 (N : Nat) (u : xN) (rec8 : Int32 → Int32 → Int32 → Int32 → Option Int32) (v1 : Int32) (v2 : Int32) (v4 : Int32) (t0 : Int32) : Option Int32 := rec8 v1 v2 t0 (v4 + (1 : Int32))
set_option maxRecDepth 20000 in
theorem go_X4_best_L88 (N : Nat) (u : xN) (rec8 : Int32 → Int32 → Int32 → Int32 → Option Int32) (h8 : ∀ (v1 : Int32) (v2 : Int32) (v3 : Int32) (v4 : Int32), xGm md_X4_best (rsI (xU u)) (rec8 v1 v2 v3 v4) 8 [(0, .ref 39), (1, .int v1), (2, .int v2), (3, .int v3), (4, .int v4)] [] (xU u)) (v1 : Int32) (v2 : Int32) (v4 : Int32) (t0 : Int32) : xGm md_X4_best (rsI (xU u)) (f_X4_best_L88 N u rec8 v1 v2 v4 t0) 88 [(0, .ref 39), (1, .int v1), (2, .int v2), (4, .int v4)] [.int t0] (xU u) := by
  unfold f_X4_best_L88
  refine xm_blk0 (pc' := 92) (lv' := [(0, .ref 39), (1, .int v1), (2, .int v2), (3, .int t0), (4, .int (v4 + (1 : Int32)))]) (st' := []) (u' := (xU u)) [(.istore_n 3, (0, 0, 0), 0, 0), (.iinc 4 1, (0, 0, 0), 1, 0)] (by decide +kernel) rfl ?_
  refine xm_goto (pc := 92) (off := -84) (tgt := 8) (by decide +kernel) (by decide) ?_
  exact h8 v1 v2 t0 (v4 + (1 : Int32))
def f_X4_best_L76 (N : Nat) (u : xN) (rec8 : Int32 → Int32 → Int32 → Int32 → Option Int32) (v1 : Int32) (v3 : Int32) (v4 : Int32) (v5 : Int32) (v6 : Int32) (t0 : Int32) : Option Int32 := if v6 = (0 : Int32) then f_X4_best_L88 N u rec8 v1 t0 v4 v3 else f_X4_best_L88 N u rec8 v1 t0 v4 v5
set_option maxRecDepth 20000 in
theorem go_X4_best_L76 (N : Nat) (u : xN) (rec8 : Int32 → Int32 → Int32 → Int32 → Option Int32) (h8 : ∀ (v1 : Int32) (v2 : Int32) (v3 : Int32) (v4 : Int32), xGm md_X4_best (rsI (xU u)) (rec8 v1 v2 v3 v4) 8 [(0, .ref 39), (1, .int v1), (2, .int v2), (3, .int v3), (4, .int v4)] [] (xU u)) (v1 : Int32) (v3 : Int32) (v4 : Int32) (v5 : Int32) (v6 : Int32) (t0 : Int32) : xGm md_X4_best (rsI (xU u)) (f_X4_best_L76 N u rec8 v1 v3 v4 v5 v6 t0) 76 [(0, .ref 39), (1, .int v1), (3, .int v3), (4, .int v4), (5, .int v5), (6, .int v6)] [.int t0] (xU u) := by
  unfold f_X4_best_L76
  refine xm_blk0 (pc' := 79) (lv' := [(0, .ref 39), (1, .int v1), (2, .int t0), (3, .int v3), (4, .int v4), (5, .int v5), (6, .int v6)]) (st' := [.int v6]) (u' := (xU u)) [(.istore_n 2, (0, 0, 0), 0, 0), (.iload 6, (0, 0, 0), 0, 0)] (by decide +kernel) rfl ?_
  refine xm_if_eq (pc := 79) (off := 8) (tgt := 87) (by decide +kernel) (by decide) ?_ ?_
  · refine xm_blk0 (pc' := 88) (lv' := [(0, .ref 39), (1, .int v1), (2, .int t0), (3, .int v3), (4, .int v4), (5, .int v5), (6, .int v6)]) (st' := [.int v3]) (u' := (xU u)) [(.iload_n 3, (0, 0, 0), 0, 0)] (by decide +kernel) rfl ?_
    refine xm_wk [0, 1, 2, 4] (lv' := [(0, .ref 39), (1, .int v1), (2, .int t0), (4, .int v4)]) rfl ?_
    exact go_X4_best_L88 N u rec8 h8 v1 t0 v4 v3
  · refine xm_blk0 (pc' := 84) (lv' := [(0, .ref 39), (1, .int v1), (2, .int t0), (3, .int v3), (4, .int v4), (5, .int v5), (6, .int v6)]) (st' := [.int v5]) (u' := (xU u)) [(.iload 5, (0, 0, 0), 0, 0)] (by decide +kernel) rfl ?_
    refine xm_goto (pc := 84) (off := 4) (tgt := 88) (by decide +kernel) (by decide) ?_
    refine xm_wk [0, 1, 2, 4] (lv' := [(0, .ref 39), (1, .int v1), (2, .int t0), (4, .int v4)]) rfl ?_
    exact go_X4_best_L88 N u rec8 h8 v1 t0 v4 v5
def f_X4_best_L63 (N : Nat) (u : xN) (rec8 : Int32 → Int32 → Int32 → Int32 → Option Int32) (v1 : Int32) (v2 : Int32) (v3 : Int32) (v4 : Int32) (v5 : Int32) (t0 : Int32) : Option Int32 := if t0 = (0 : Int32) then f_X4_best_L76 N u rec8 v1 v3 v4 v5 t0 v2 else f_X4_best_L76 N u rec8 v1 v3 v4 v5 t0 v4
set_option maxRecDepth 20000 in
theorem go_X4_best_L63 (N : Nat) (u : xN) (rec8 : Int32 → Int32 → Int32 → Int32 → Option Int32) (h8 : ∀ (v1 : Int32) (v2 : Int32) (v3 : Int32) (v4 : Int32), xGm md_X4_best (rsI (xU u)) (rec8 v1 v2 v3 v4) 8 [(0, .ref 39), (1, .int v1), (2, .int v2), (3, .int v3), (4, .int v4)] [] (xU u)) (v1 : Int32) (v2 : Int32) (v3 : Int32) (v4 : Int32) (v5 : Int32) (t0 : Int32) : xGm md_X4_best (rsI (xU u)) (f_X4_best_L63 N u rec8 v1 v2 v3 v4 v5 t0) 63 [(0, .ref 39), (1, .int v1), (2, .int v2), (3, .int v3), (4, .int v4), (5, .int v5)] [.int t0] (xU u) := by
  unfold f_X4_best_L63
  refine xm_blk0 (pc' := 67) (lv' := [(0, .ref 39), (1, .int v1), (2, .int v2), (3, .int v3), (4, .int v4), (5, .int v5), (6, .int t0)]) (st' := [.int t0]) (u' := (xU u)) [(.istore 6, (0, 0, 0), 0, 0), (.iload 6, (0, 0, 0), 0, 0)] (by decide +kernel) rfl ?_
  refine xm_if_eq (pc := 67) (off := 8) (tgt := 75) (by decide +kernel) (by decide) ?_ ?_
  · refine xm_blk0 (pc' := 76) (lv' := [(0, .ref 39), (1, .int v1), (2, .int v2), (3, .int v3), (4, .int v4), (5, .int v5), (6, .int t0)]) (st' := [.int v2]) (u' := (xU u)) [(.iload_n 2, (0, 0, 0), 0, 0)] (by decide +kernel) rfl ?_
    refine xm_wk [0, 1, 3, 4, 5, 6] (lv' := [(0, .ref 39), (1, .int v1), (3, .int v3), (4, .int v4), (5, .int v5), (6, .int t0)]) rfl ?_
    exact go_X4_best_L76 N u rec8 h8 v1 v3 v4 v5 t0 v2
  · refine xm_blk0 (pc' := 72) (lv' := [(0, .ref 39), (1, .int v1), (2, .int v2), (3, .int v3), (4, .int v4), (5, .int v5), (6, .int t0)]) (st' := [.int v4]) (u' := (xU u)) [(.iload 4, (0, 0, 0), 0, 0)] (by decide +kernel) rfl ?_
    refine xm_goto (pc := 72) (off := 4) (tgt := 76) (by decide +kernel) (by decide) ?_
    refine xm_wk [0, 1, 3, 4, 5, 6] (lv' := [(0, .ref 39), (1, .int v1), (3, .int v3), (4, .int v4), (5, .int v5), (6, .int t0)]) rfl ?_
    exact go_X4_best_L76 N u rec8 h8 v1 v3 v4 v5 t0 v4
def f_X4_best_L58 (N : Nat) (u : xN) (rec8 : Int32 → Int32 → Int32 → Int32 → Option Int32) (v1 : Int32) (v2 : Int32) (v3 : Int32) (v4 : Int32) (v5 : Int32) : Option Int32 := f_X4_best_L63 N u rec8 v1 v2 v3 v4 v5 (1 : Int32)
set_option maxRecDepth 20000 in
theorem go_X4_best_L58 (N : Nat) (u : xN) (rec8 : Int32 → Int32 → Int32 → Int32 → Option Int32) (h8 : ∀ (v1 : Int32) (v2 : Int32) (v3 : Int32) (v4 : Int32), xGm md_X4_best (rsI (xU u)) (rec8 v1 v2 v3 v4) 8 [(0, .ref 39), (1, .int v1), (2, .int v2), (3, .int v3), (4, .int v4)] [] (xU u)) (v1 : Int32) (v2 : Int32) (v3 : Int32) (v4 : Int32) (v5 : Int32) : xGm md_X4_best (rsI (xU u)) (f_X4_best_L58 N u rec8 v1 v2 v3 v4 v5) 58 [(0, .ref 39), (1, .int v1), (2, .int v2), (3, .int v3), (4, .int v4), (5, .int v5)] [] (xU u) := by
  unfold f_X4_best_L58
  refine xm_blk0 (pc' := 59) (lv' := [(0, .ref 39), (1, .int v1), (2, .int v2), (3, .int v3), (4, .int v4), (5, .int v5)]) (st' := [.int (1 : Int32)]) (u' := (xU u)) [(.iconst 1, (0, 0, 0), 1, 0)] (by decide +kernel) rfl ?_
  refine xm_goto (pc := 59) (off := 4) (tgt := 63) (by decide +kernel) (by decide) ?_
  exact go_X4_best_L63 N u rec8 h8 v1 v2 v3 v4 v5 (1 : Int32)
def f_X4_best_L62 (N : Nat) (u : xN) (rec8 : Int32 → Int32 → Int32 → Int32 → Option Int32) (v1 : Int32) (v2 : Int32) (v3 : Int32) (v4 : Int32) (v5 : Int32) : Option Int32 := f_X4_best_L63 N u rec8 v1 v2 v3 v4 v5 (0 : Int32)
set_option maxRecDepth 20000 in
theorem go_X4_best_L62 (N : Nat) (u : xN) (rec8 : Int32 → Int32 → Int32 → Int32 → Option Int32) (h8 : ∀ (v1 : Int32) (v2 : Int32) (v3 : Int32) (v4 : Int32), xGm md_X4_best (rsI (xU u)) (rec8 v1 v2 v3 v4) 8 [(0, .ref 39), (1, .int v1), (2, .int v2), (3, .int v3), (4, .int v4)] [] (xU u)) (v1 : Int32) (v2 : Int32) (v3 : Int32) (v4 : Int32) (v5 : Int32) : xGm md_X4_best (rsI (xU u)) (f_X4_best_L62 N u rec8 v1 v2 v3 v4 v5) 62 [(0, .ref 39), (1, .int v1), (2, .int v2), (3, .int v3), (4, .int v4), (5, .int v5)] [] (xU u) := by
  unfold f_X4_best_L62
  refine xm_blk0 (pc' := 63) (lv' := [(0, .ref 39), (1, .int v1), (2, .int v2), (3, .int v3), (4, .int v4), (5, .int v5)]) (st' := [.int (0 : Int32)]) (u' := (xU u)) [(.iconst 0, (0, 0, 0), 0, 0)] (by decide +kernel) rfl ?_
  exact go_X4_best_L63 N u rec8 h8 v1 v2 v3 v4 v5 (0 : Int32)
def f_X4_best_L35 (N : Nat) (u : xN) (rec8 : Int32 → Int32 → Int32 → Int32 → Option Int32) (v1 : Int32) (v2 : Int32) (v3 : Int32) (v4 : Int32) (t0 : Int32) : Option Int32 := Option.bind (f_X4_isGood N v4 u) (fun r40 => if r40 = (0 : Int32) then f_X4_best_L62 N u rec8 v1 v2 v3 v4 t0 else if v2 = (-9 : Int32) then f_X4_best_L58 N u rec8 v1 v2 v3 v4 t0 else if v3 ≤ t0 then f_X4_best_L62 N u rec8 v1 v2 v3 v4 t0 else f_X4_best_L58 N u rec8 v1 v2 v3 v4 t0)
set_option maxRecDepth 20000 in
theorem go_X4_best_L35 (N : Nat) (u : xN) (rec8 : Int32 → Int32 → Int32 → Int32 → Option Int32) (h8 : ∀ (v1 : Int32) (v2 : Int32) (v3 : Int32) (v4 : Int32), xGm md_X4_best (rsI (xU u)) (rec8 v1 v2 v3 v4) 8 [(0, .ref 39), (1, .int v1), (2, .int v2), (3, .int v3), (4, .int v4)] [] (xU u)) (v1 : Int32) (v2 : Int32) (v3 : Int32) (v4 : Int32) (t0 : Int32) : xGm md_X4_best (rsI (xU u)) (f_X4_best_L35 N u rec8 v1 v2 v3 v4 t0) 35 [(0, .ref 39), (1, .int v1), (2, .int v2), (3, .int v3), (4, .int v4)] [.int t0] (xU u) := by
  unfold f_X4_best_L35
  refine xm_blk0 (pc' := 40) (lv' := [(0, .ref 39), (1, .int v1), (2, .int v2), (3, .int v3), (4, .int v4), (5, .int t0)]) (st' := [.int v4, .ref 39]) (u' := (xU u)) [(.istore 5, (0, 0, 0), 0, 0), (.aload_n 0, (0, 0, 0), 0, 0), (.iload 4, (0, 0, 0), 0, 0)] (by decide +kernel) rfl ?_
  refine xm_Vi (pc := 40) (mz := md_X4_isGood) (idx := 235) (p1 := 1141) (a := 39) (as := [.int v4]) (st := []) (ev_X4_isGood N v4 u) mw_X4_isGood (by decide +kernel) (by decide +kernel) (by decide) rfl rfl (by decide) rfl (Nat.le_of_ble_eq_true rfl) (fun r40 => ?_)
  refine xm_if_eq (pc := 43) (off := 19) (tgt := 62) (by decide +kernel) (by decide) ?_ ?_
  · exact go_X4_best_L62 N u rec8 h8 v1 v2 v3 v4 t0
  · refine xm_blk0 (pc' := 49) (lv' := [(0, .ref 39), (1, .int v1), (2, .int v2), (3, .int v3), (4, .int v4), (5, .int t0)]) (st' := [.int (-9 : Int32), .int v2]) (u' := (xU u)) [(.iload_n 2, (0, 0, 0), 0, 0), (.bipush (-9), (0, 0, 0), -9, 0)] (by decide +kernel) rfl ?_
    refine xm_icmp_eq (pc := 49) (off := 9) (tgt := 58) (by decide +kernel) (by decide) ?_ ?_
    · exact go_X4_best_L58 N u rec8 h8 v1 v2 v3 v4 t0
    · refine xm_blk0 (pc' := 55) (lv' := [(0, .ref 39), (1, .int v1), (2, .int v2), (3, .int v3), (4, .int v4), (5, .int t0)]) (st' := [.int v3, .int t0]) (u' := (xU u)) [(.iload 5, (0, 0, 0), 0, 0), (.iload_n 3, (0, 0, 0), 0, 0)] (by decide +kernel) rfl ?_
      refine xm_icmp_ge (pc := 55) (off := 7) (tgt := 62) (by decide +kernel) (by decide) ?_ ?_
      · exact go_X4_best_L62 N u rec8 h8 v1 v2 v3 v4 t0
      · exact go_X4_best_L58 N u rec8 h8 v1 v2 v3 v4 t0
def f_X4_best_L8b (N : Nat) (u : xN) (rec8 : Int32 → Int32 → Int32 → Int32 → Option Int32) (v1 : Int32) (v2 : Int32) (v3 : Int32) (v4 : Int32) : Option Int32 := Option.bind (f_X4_ways u) (fun r11 => if r11 ≤ v4 then some v2 else if v1 = (0 : Int32) then Option.bind (f_X4_bits N v4) (fun r32 => f_X4_best_L35 N u rec8 v1 v2 v3 v4 r32) else Option.bind (f_X4_costOf N v4 u) (fun r24 => f_X4_best_L35 N u rec8 v1 v2 v3 v4 r24))
set_option maxRecDepth 20000 in
theorem go_X4_best_L8b (N : Nat) (u : xN) (rec8 : Int32 → Int32 → Int32 → Int32 → Option Int32) (h8 : ∀ (v1 : Int32) (v2 : Int32) (v3 : Int32) (v4 : Int32), xGm md_X4_best (rsI (xU u)) (rec8 v1 v2 v3 v4) 8 [(0, .ref 39), (1, .int v1), (2, .int v2), (3, .int v3), (4, .int v4)] [] (xU u)) (v1 : Int32) (v2 : Int32) (v3 : Int32) (v4 : Int32) : xGm md_X4_best (rsI (xU u)) (f_X4_best_L8b N u rec8 v1 v2 v3 v4) 8 [(0, .ref 39), (1, .int v1), (2, .int v2), (3, .int v3), (4, .int v4)] [] (xU u) := by
  unfold f_X4_best_L8b
  refine xm_blk0 (pc' := 11) (lv' := [(0, .ref 39), (1, .int v1), (2, .int v2), (3, .int v3), (4, .int v4)]) (st' := [.ref 39, .int v4]) (u' := (xU u)) [(.iload 4, (0, 0, 0), 0, 0), (.aload_n 0, (0, 0, 0), 0, 0)] (by decide +kernel) rfl ?_
  refine xm_Vi (pc := 11) (mz := md_X4_ways) (idx := 150) (p1 := 1020) (a := 39) (as := []) (st := [.int v4]) (ev_X4_ways u) mw_X4_ways (by decide +kernel) (by decide +kernel) (by decide) rfl rfl (by decide) rfl (Nat.le_of_ble_eq_true rfl) (fun r11 => ?_)
  refine xm_icmp_ge (pc := 14) (off := 81) (tgt := 95) (by decide +kernel) (by decide) ?_ ?_
  · refine xm_blk0 (pc' := 96) (lv' := [(0, .ref 39), (1, .int v1), (2, .int v2), (3, .int v3), (4, .int v4)]) (st' := [.int v2]) (u' := (xU u)) [(.iload_n 2, (0, 0, 0), 0, 0)] (by decide +kernel) rfl ?_
    exact xm_iret (pc := 96) (by decide +kernel) rfl rfl
  · refine xm_blk0 (pc' := 18) (lv' := [(0, .ref 39), (1, .int v1), (2, .int v2), (3, .int v3), (4, .int v4)]) (st' := [.int v1]) (u' := (xU u)) [(.iload_n 1, (0, 0, 0), 0, 0)] (by decide +kernel) rfl ?_
    refine xm_if_eq (pc := 18) (off := 12) (tgt := 30) (by decide +kernel) (by decide) ?_ ?_
    · refine xm_blk0 (pc' := 32) (lv' := [(0, .ref 39), (1, .int v1), (2, .int v2), (3, .int v3), (4, .int v4)]) (st' := [.int v4]) (u' := (xU u)) [(.iload 4, (0, 0, 0), 0, 0)] (by decide +kernel) rfl ?_
      refine xm_Si (pc := 32) (mz := md_X4_bits) (idx := 215) (p1 := 1090) (as := [.int v4]) (st := []) (ev_X4_bits N v4 u) mw_X4_bits (by decide +kernel) (by decide +kernel) (by decide) rfl (Nat.le_of_ble_eq_true rfl) (fun r32 => ?_)
      exact go_X4_best_L35 N u rec8 h8 v1 v2 v3 v4 r32
    · refine xm_blk0 (pc' := 24) (lv' := [(0, .ref 39), (1, .int v1), (2, .int v2), (3, .int v3), (4, .int v4)]) (st' := [.int v4, .ref 39]) (u' := (xU u)) [(.aload_n 0, (0, 0, 0), 0, 0), (.iload 4, (0, 0, 0), 0, 0)] (by decide +kernel) rfl ?_
      refine xm_Vi (pc := 24) (mz := md_X4_costOf) (idx := 232) (p1 := 1133) (a := 39) (as := [.int v4]) (st := []) (ev_X4_costOf N v4 u) mw_X4_costOf (by decide +kernel) (by decide +kernel) (by decide) rfl rfl (by decide) rfl (Nat.le_of_ble_eq_true rfl) (fun r24 => ?_)
      refine xm_goto (pc := 27) (off := 8) (tgt := 35) (by decide +kernel) (by decide) ?_
      exact go_X4_best_L35 N u rec8 h8 v1 v2 v3 v4 r24
def f_X4_best_L8 (N : Nat) (u : xN) : Nat → Int32 → Int32 → Int32 → Int32 → Option Int32
  | 0 => fun _ _ _ _ => none
  | n + 1 => fun v1 v2 v3 v4 => f_X4_best_L8b N u (f_X4_best_L8 N u n) v1 v2 v3 v4
theorem go_X4_best_L8 (N : Nat) (u : xN) : ∀ (n : Nat) (v1 : Int32) (v2 : Int32) (v3 : Int32) (v4 : Int32), xGm md_X4_best (rsI (xU u)) (f_X4_best_L8 N u n v1 v2 v3 v4) 8 [(0, .ref 39), (1, .int v1), (2, .int v2), (3, .int v3), (4, .int v4)] [] (xU u) := by
  intro n
  induction n with
  | zero => intro v1 v2 v3 v4; exact xm_none
  | succ n ih => intro v1 v2 v3 v4; exact go_X4_best_L8b N u _ ih v1 v2 v3 v4
def f_X4_best (N : Nat) (a1 : Int32) (u : xN) : Option Int32 := f_X4_best_L8 N u N a1 (-9 : Int32) (0 : Int32) (0 : Int32)
set_option maxRecDepth 20000 in
theorem go_X4_best (N : Nat) (a1 : Int32) (u : xN) : xGm md_X4_best (rsI (xU u)) (f_X4_best N a1 u) 0 [(0, .ref 39), (1, .int a1)] [] (xU u) := by
  unfold f_X4_best
  refine xm_blk0 (pc' := 8) (lv' := [(0, .ref 39), (1, .int a1), (2, .int (-9 : Int32)), (3, .int (0 : Int32)), (4, .int (0 : Int32))]) (st' := []) (u' := (xU u)) [(.bipush (-9), (0, 0, 0), -9, 0), (.istore_n 2, (0, 0, 0), 0, 0), (.iconst 0, (0, 0, 0), 0, 0), (.istore_n 3, (0, 0, 0), 0, 0), (.iconst 0, (0, 0, 0), 0, 0), (.istore 4, (0, 0, 0), 0, 0)] (by decide +kernel) rfl ?_
  exact go_X4_best_L8 N u N a1 (-9 : Int32) (0 : Int32) (0 : Int32)
theorem ev_X4_best (N : Nat) (a1 : Int32) (u : xN) : ∀ r, f_X4_best N a1 u = some r → xEm md_X4_best yX4_best [.ref 39, .int a1] (xU u) (some (.int r), (xU u)) := xm_met (res := (rsI (xU u))) (as := [.ref 39, .int a1]) (go_X4_best N a1 u) (by decide) rfl (Nat.le_of_ble_eq_true rfl)
theorem mw_X4_cheapest : xMv yX4_cheapest cX4_cheapest 2 (some .int) 0 := xMv_of (p1 := 1164) (p2 := 1162) (p3 := 97) (p4 := 1163) (by decide +kernel)
/-! NeitherBareModel.cheapest()I (39,) -/
abbrev md_X4_cheapest : xMd := (cX4_cheapest, RX4, 2, some .int, 9)
def f_X4_cheapest_L35 (N : Nat) (v1 : Int32) (t0 : Int32) (u : xN) : Option (Int32 × xN) := some (v1, mI u 39 11 t0)
set_option maxRecDepth 20000 in
theorem go_X4_cheapest_L35 (N : Nat) (v1 : Int32) (t0 : Int32) (u : xN) : xGm md_X4_cheapest rsM (f_X4_cheapest_L35 N v1 t0 u) 35 [(1, .int v1)] [.int t0, .ref 39] (xU u) := by
  unfold f_X4_cheapest_L35
  refine xm_blk0 (pc' := 39) (lv' := [(1, .int v1)]) (st' := [.int v1]) (u' := (xU (mI u 39 11 t0))) [(.putfield 67, (4, 11, 831), 0, 0), (.iload_n 1, (0, 0, 0), 0, 0)] (by decide +kernel) rfl ?_
  exact xm_iret (pc := 39) (by decide +kernel) rfl rfl
def f_X4_cheapest (N : Nat) (u : xN) : Option (Int32 × xN) := if (u.1 39 1) = (0 : Int32) then some ((-4 : Int32), u) else Option.bind (f_X4_best N (1 : Int32) u) (fun r12 => if r12 = (-9 : Int32) then f_X4_cheapest_L35 N r12 (u.1 39 11) u else Option.bind (f_X4_costOf N r12 u) (fun r32 => f_X4_cheapest_L35 N r12 r32 u))
set_option maxRecDepth 20000 in
theorem go_X4_cheapest (N : Nat) (u : xN) : xGm md_X4_cheapest rsM (f_X4_cheapest N u) 0 [(0, .ref 39)] [] (xU u) := by
  unfold f_X4_cheapest
  refine xm_blk0 (pc' := 4) (lv' := [(0, .ref 39)]) (st' := [.int (u.1 39 1)]) (u' := (xU u)) [(.aload_n 0, (0, 0, 0), 0, 0), (.getfield 147, (4, 1, 821), 0, 0)] (by decide +kernel) rfl ?_
  refine xm_if_ne (pc := 4) (off := 6) (tgt := 10) (by decide +kernel) (by decide) ?_ ?_
  · refine xm_blk0 (pc' := 12) (lv' := [(0, .ref 39)]) (st' := [.int (1 : Int32), .ref 39]) (u' := (xU u)) [(.aload_n 0, (0, 0, 0), 0, 0), (.iconst 1, (0, 0, 0), 1, 0)] (by decide +kernel) rfl ?_
    refine xm_Vi (pc := 12) (mz := md_X4_best) (idx := 241) (p1 := 1165) (a := 39) (as := [.int (1 : Int32)]) (st := []) (ev_X4_best N (1 : Int32) u) mw_X4_best (by decide +kernel) (by decide +kernel) (by decide) rfl rfl (by decide) rfl (Nat.le_of_ble_eq_true rfl) (fun r12 => ?_)
    refine xm_blk0 (pc' := 20) (lv' := [(0, .ref 39), (1, .int r12)]) (st' := [.int (-9 : Int32), .int r12, .ref 39]) (u' := (xU u)) [(.istore_n 1, (0, 0, 0), 0, 0), (.aload_n 0, (0, 0, 0), 0, 0), (.iload_n 1, (0, 0, 0), 0, 0), (.bipush (-9), (0, 0, 0), -9, 0)] (by decide +kernel) rfl ?_
    refine xm_icmp_ne (pc := 20) (off := 10) (tgt := 30) (by decide +kernel) (by decide) ?_ ?_
    · refine xm_blk0 (pc' := 32) (lv' := [(0, .ref 39), (1, .int r12)]) (st' := [.int r12, .ref 39, .ref 39]) (u' := (xU u)) [(.aload_n 0, (0, 0, 0), 0, 0), (.iload_n 1, (0, 0, 0), 0, 0)] (by decide +kernel) rfl ?_
      refine xm_Vi (pc := 32) (mz := md_X4_costOf) (idx := 232) (p1 := 1133) (a := 39) (as := [.int r12]) (st := [.ref 39]) (ev_X4_costOf N r12 u) mw_X4_costOf (by decide +kernel) (by decide +kernel) (by decide) rfl rfl (by decide) rfl (Nat.le_of_ble_eq_true rfl) (fun r32 => ?_)
      refine xm_wk [1] (lv' := [(1, .int r12)]) rfl ?_
      exact go_X4_cheapest_L35 N r12 r32 u
    · refine xm_blk0 (pc' := 27) (lv' := [(0, .ref 39), (1, .int r12)]) (st' := [.int (u.1 39 11), .ref 39]) (u' := (xU u)) [(.aload_n 0, (0, 0, 0), 0, 0), (.getfield 67, (4, 11, 831), 0, 0)] (by decide +kernel) rfl ?_
      refine xm_goto (pc := 27) (off := 8) (tgt := 35) (by decide +kernel) (by decide) ?_
      refine xm_wk [1] (lv' := [(1, .int r12)]) rfl ?_
      exact go_X4_cheapest_L35 N r12 (u.1 39 11) u
  · refine xm_blk0 (pc' := 9) (lv' := [(0, .ref 39)]) (st' := [.int (-4 : Int32)]) (u' := (xU u)) [(.bipush (-4), (0, 0, 0), -4, 0)] (by decide +kernel) rfl ?_
    exact xm_iret (pc := 9) (by decide +kernel) rfl rfl
theorem ev_X4_cheapest (N : Nat) (u : xN) : ∀ r, f_X4_cheapest N u = some r → xEm md_X4_cheapest yX4_cheapest [.ref 39] (xU u) (some (.int r.1), xU r.2) := xm_met (res := rsM) (as := [.ref 39]) (go_X4_cheapest N u) (by decide) rfl (Nat.le_of_ble_eq_true rfl)
theorem mw_X4_fewest : xMv yX4_fewest cX4_fewest 2 (some .int) 0 := xMv_of (p1 := 1172) (p2 := 1170) (p3 := 97) (p4 := 1171) (by decide +kernel)
/-! NeitherBareModel.fewest()I (39,) -/
abbrev md_X4_fewest : xMd := (cX4_fewest, RX4, 2, some .int, 9)
def f_X4_fewest_L34 (N : Nat) (v1 : Int32) (t0 : Int32) (u : xN) : Option (Int32 × xN) := some (v1, mI u 39 11 t0)
set_option maxRecDepth 20000 in
theorem go_X4_fewest_L34 (N : Nat) (v1 : Int32) (t0 : Int32) (u : xN) : xGm md_X4_fewest rsM (f_X4_fewest_L34 N v1 t0 u) 34 [(1, .int v1)] [.int t0, .ref 39] (xU u) := by
  unfold f_X4_fewest_L34
  refine xm_blk0 (pc' := 38) (lv' := [(1, .int v1)]) (st' := [.int v1]) (u' := (xU (mI u 39 11 t0))) [(.putfield 67, (4, 11, 831), 0, 0), (.iload_n 1, (0, 0, 0), 0, 0)] (by decide +kernel) rfl ?_
  exact xm_iret (pc := 38) (by decide +kernel) rfl rfl
def f_X4_fewest (N : Nat) (u : xN) : Option (Int32 × xN) := if (u.1 39 1) = (0 : Int32) then some ((-4 : Int32), u) else Option.bind (f_X4_best N (0 : Int32) u) (fun r12 => if r12 = (-9 : Int32) then f_X4_fewest_L34 N r12 (u.1 39 11) u else Option.bind (f_X4_bits N r12) (fun r31 => f_X4_fewest_L34 N r12 r31 u))
set_option maxRecDepth 20000 in
theorem go_X4_fewest (N : Nat) (u : xN) : xGm md_X4_fewest rsM (f_X4_fewest N u) 0 [(0, .ref 39)] [] (xU u) := by
  unfold f_X4_fewest
  refine xm_blk0 (pc' := 4) (lv' := [(0, .ref 39)]) (st' := [.int (u.1 39 1)]) (u' := (xU u)) [(.aload_n 0, (0, 0, 0), 0, 0), (.getfield 147, (4, 1, 821), 0, 0)] (by decide +kernel) rfl ?_
  refine xm_if_ne (pc := 4) (off := 6) (tgt := 10) (by decide +kernel) (by decide) ?_ ?_
  · refine xm_blk0 (pc' := 12) (lv' := [(0, .ref 39)]) (st' := [.int (0 : Int32), .ref 39]) (u' := (xU u)) [(.aload_n 0, (0, 0, 0), 0, 0), (.iconst 0, (0, 0, 0), 0, 0)] (by decide +kernel) rfl ?_
    refine xm_Vi (pc := 12) (mz := md_X4_best) (idx := 241) (p1 := 1165) (a := 39) (as := [.int (0 : Int32)]) (st := []) (ev_X4_best N (0 : Int32) u) mw_X4_best (by decide +kernel) (by decide +kernel) (by decide) rfl rfl (by decide) rfl (Nat.le_of_ble_eq_true rfl) (fun r12 => ?_)
    refine xm_blk0 (pc' := 20) (lv' := [(0, .ref 39), (1, .int r12)]) (st' := [.int (-9 : Int32), .int r12, .ref 39]) (u' := (xU u)) [(.istore_n 1, (0, 0, 0), 0, 0), (.aload_n 0, (0, 0, 0), 0, 0), (.iload_n 1, (0, 0, 0), 0, 0), (.bipush (-9), (0, 0, 0), -9, 0)] (by decide +kernel) rfl ?_
    refine xm_icmp_ne (pc := 20) (off := 10) (tgt := 30) (by decide +kernel) (by decide) ?_ ?_
    · refine xm_blk0 (pc' := 31) (lv' := [(0, .ref 39), (1, .int r12)]) (st' := [.int r12, .ref 39]) (u' := (xU u)) [(.iload_n 1, (0, 0, 0), 0, 0)] (by decide +kernel) rfl ?_
      refine xm_Si (pc := 31) (mz := md_X4_bits) (idx := 215) (p1 := 1090) (as := [.int r12]) (st := [.ref 39]) (ev_X4_bits N r12 u) mw_X4_bits (by decide +kernel) (by decide +kernel) (by decide) rfl (Nat.le_of_ble_eq_true rfl) (fun r31 => ?_)
      refine xm_wk [1] (lv' := [(1, .int r12)]) rfl ?_
      exact go_X4_fewest_L34 N r12 r31 u
    · refine xm_blk0 (pc' := 27) (lv' := [(0, .ref 39), (1, .int r12)]) (st' := [.int (u.1 39 11), .ref 39]) (u' := (xU u)) [(.aload_n 0, (0, 0, 0), 0, 0), (.getfield 67, (4, 11, 831), 0, 0)] (by decide +kernel) rfl ?_
      refine xm_goto (pc := 27) (off := 7) (tgt := 34) (by decide +kernel) (by decide) ?_
      refine xm_wk [1] (lv' := [(1, .int r12)]) rfl ?_
      exact go_X4_fewest_L34 N r12 (u.1 39 11) u
  · refine xm_blk0 (pc' := 9) (lv' := [(0, .ref 39)]) (st' := [.int (-4 : Int32)]) (u' := (xU u)) [(.bipush (-4), (0, 0, 0), -4, 0)] (by decide +kernel) rfl ?_
    exact xm_iret (pc := 9) (by decide +kernel) rfl rfl
theorem ev_X4_fewest (N : Nat) (u : xN) : ∀ r, f_X4_fewest N u = some r → xEm md_X4_fewest yX4_fewest [.ref 39] (xU u) (some (.int r.1), xU r.2) := xm_met (res := rsM) (as := [.ref 39]) (go_X4_fewest N u) (by decide) rfl (Nat.le_of_ble_eq_true rfl)
