theorem mw_X4_fault : xMv yX4_fault cX4_fault 2 (some .int) 1 := xMv_of (p1 := 963) (p2 := 961) (p3 := 97) (p4 := 962) (by decide +kernel)
/-! NeitherBareModel.fault(I)I (39, None) -/
abbrev md_X4_fault : xMd := (cX4_fault, RX4, 2, some .int, 5)
def f_X4_fault_L31 (N : Nat) (t0 : Int32) (u : xN) : Option (Int32 × xN) := some (t0, u)
set_option maxRecDepth 20000 in
theorem go_X4_fault_L31 (N : Nat) (t0 : Int32) (u : xN) : xGm md_X4_fault rsM (f_X4_fault_L31 N t0 u) 31 [] [.int t0] (xU u) := by
  unfold f_X4_fault_L31
  exact xm_iret (pc := 31) (by decide +kernel) rfl rfl
def f_X4_fault (N : Nat) (a1 : Int32) (u : xN) : Option (Int32 × xN) := Option.bind (f_X4_isText a1) (fun r1 => if r1 = (0 : Int32) then some ((-1 : Int32), u) else gdl [inb a1 4] (if (0 : Int32) ≤ (u.1 47 (Int32.toNatClampNeg a1)) then Option.bind (f_X4_faultOf N a1 u) (fun r28 => f_X4_fault_L31 N r28.1 r28.2) else Option.bind (f_X4_find (1 : Int32) u) (fun r20 => f_X4_fault_L31 N r20.1 r20.2)))
set_option maxRecDepth 20000 in
theorem go_X4_fault (N : Nat) (a1 : Int32) (u : xN) : xGm md_X4_fault rsM (f_X4_fault N a1 u) 0 [(0, .ref 39), (1, .int a1)] [] (xU u) := by
  unfold f_X4_fault
  refine xm_blk0 (pc' := 1) (lv' := [(0, .ref 39), (1, .int a1)]) (st' := [.int a1]) (u' := (xU u)) [(.iload_n 1, (0, 0, 0), 0, 0)] (by decide +kernel) rfl ?_
  refine xm_Si (pc := 1) (mz := md_X4_isText) (idx := 101) (p1 := 952) (as := [.int a1]) (st := []) (ev_X4_isText a1 u) mw_X4_isText (by decide +kernel) (by decide +kernel) (by decide) rfl (Nat.le_of_ble_eq_true rfl) (fun r1 => ?_)
  refine xm_if_ne (pc := 4) (off := 5) (tgt := 9) (by decide +kernel) (by decide) ?_ ?_
  · refine xm_blk (bs := [inb a1 4]) (pc' := 15) (lv' := [(0, .ref 39), (1, .int a1)]) (st' := [.int (u.1 47 (Int32.toNatClampNeg a1))]) (u' := (xU u)) [(.aload_n 0, (0, 0, 0), 0, 0), (.getfield 31, (4, 9, 829), 0, 0), (.iload_n 1, (0, 0, 0), 0, 0), (.iaload, (0, 0, 0), 0, 0)] (by decide +kernel) rfl ?_
    refine xm_if_ge (pc := 15) (off := 11) (tgt := 26) (by decide +kernel) (by decide) ?_ ?_
    · refine xm_blk0 (pc' := 28) (lv' := [(0, .ref 39), (1, .int a1)]) (st' := [.int a1, .ref 39]) (u' := (xU u)) [(.aload_n 0, (0, 0, 0), 0, 0), (.iload_n 1, (0, 0, 0), 0, 0)] (by decide +kernel) rfl ?_
      refine xm_Vm (pc := 28) (mz := md_X4_faultOf) (idx := 144) (p1 := 964) (a := 39) (as := [.int a1]) (st := []) (ev_X4_faultOf N a1 u) mw_X4_faultOf (by decide +kernel) (by decide +kernel) (by decide) rfl rfl (by decide) rfl (Nat.le_of_ble_eq_true rfl) (fun r28 => ?_)
      refine xm_wk [] (lv' := []) rfl ?_
      exact go_X4_fault_L31 N r28.1 r28.2
    · refine xm_blk0 (pc' := 20) (lv' := [(0, .ref 39), (1, .int a1)]) (st' := [.int (1 : Int32), .ref 39]) (u' := (xU u)) [(.aload_n 0, (0, 0, 0), 0, 0), (.iconst 1, (0, 0, 0), 1, 0)] (by decide +kernel) rfl ?_
      refine xm_Vm (pc := 20) (mz := md_X4_find) (idx := 82) (p1 := 908) (a := 39) (as := [.int (1 : Int32)]) (st := []) (ev_X4_find (1 : Int32) u) mw_X4_find (by decide +kernel) (by decide +kernel) (by decide) rfl rfl (by decide) rfl (Nat.le_of_ble_eq_true rfl) (fun r20 => ?_)
      refine xm_goto (pc := 23) (off := 8) (tgt := 31) (by decide +kernel) (by decide) ?_
      refine xm_wk [] (lv' := []) rfl ?_
      exact go_X4_fault_L31 N r20.1 r20.2
  · refine xm_blk0 (pc' := 8) (lv' := [(0, .ref 39), (1, .int a1)]) (st' := [.int (-1 : Int32)]) (u' := (xU u)) [(.iconst (-1), (0, 0, 0), -1, 0)] (by decide +kernel) rfl ?_
    exact xm_iret (pc := 8) (by decide +kernel) rfl rfl
theorem ev_X4_fault (N : Nat) (a1 : Int32) (u : xN) : ∀ r, f_X4_fault N a1 u = some r → xEm md_X4_fault yX4_fault [.ref 39, .int a1] (xU u) (some (.int r.1), xU r.2) := xm_met (res := rsM) (as := [.ref 39, .int a1]) (go_X4_fault N a1 u) (by decide) rfl (Nat.le_of_ble_eq_true rfl)
theorem mw_X4_begin : xMv yX4_begin cX4_begin 2 none 0 := xMv_of (p1 := 819) (p2 := 818) (p3 := 97) (p4 := 39) (by decide +kernel)
/-! NeitherBareModel.begin()V (39,) -/
abbrev md_X4_begin : xMd := (cX4_begin, RX4, 2, none, 1)
def f_X4_begin_L75b (N : Nat) (rec75 : Int32 → xN → Option xN) (v1 : Int32) (u : xN) : Option xN := if (4 : Int32) ≤ v1 then some u else gdl [inb (((370 : Int32) * v1) + (0 : Int32)) 1480] (rec75 (v1 + (1 : Int32)) (mI u 40 (Int32.toNatClampNeg (((370 : Int32) * v1) + (0 : Int32))) (-1 : Int32)))
set_option maxRecDepth 20000 in
theorem go_X4_begin_L75b (N : Nat) (rec75 : Int32 → xN → Option xN) (h75 : ∀ (v1 : Int32) (u : xN), xGm md_X4_begin rsV (rec75 v1 u) 75 [(0, .ref 39), (1, .int v1)] [] (xU u)) (v1 : Int32) (u : xN) : xGm md_X4_begin rsV (f_X4_begin_L75b N rec75 v1 u) 75 [(0, .ref 39), (1, .int v1)] [] (xU u) := by
  unfold f_X4_begin_L75b
  refine xm_blk0 (pc' := 77) (lv' := [(0, .ref 39), (1, .int v1)]) (st' := [.int (4 : Int32), .int v1]) (u' := (xU u)) [(.iload_n 1, (0, 0, 0), 0, 0), (.iconst 4, (0, 0, 0), 4, 0)] (by decide +kernel) rfl ?_
  refine xm_icmp_ge (pc := 77) (off := 22) (tgt := 99) (by decide +kernel) (by decide) ?_ ?_
  · exact xm_vret (pc := 99) (by decide +kernel) rfl rfl
  · refine xm_blk (bs := [inb (((370 : Int32) * v1) + (0 : Int32)) 1480]) (pc' := 96) (lv' := [(0, .ref 39), (1, .int (v1 + (1 : Int32)))]) (st' := []) (u' := (xU (mI u 40 (Int32.toNatClampNeg (((370 : Int32) * v1) + (0 : Int32))) (-1 : Int32)))) [(.aload_n 0, (0, 0, 0), 0, 0), (.getfield 7, (4, 0, 820), 0, 0), (.sipush 370, (0, 0, 0), 370, 0), (.iload_n 1, (0, 0, 0), 0, 0), (.imul, (0, 0, 0), 0, 0), (.iconst 0, (0, 0, 0), 0, 0), (.iadd, (0, 0, 0), 0, 0), (.iconst (-1), (0, 0, 0), -1, 0), (.iastore, (0, 0, 0), 0, 0), (.iinc 1 1, (0, 0, 0), 1, 0)] (by decide +kernel) rfl ?_
    refine xm_goto (pc := 96) (off := -21) (tgt := 75) (by decide +kernel) (by decide) ?_
    exact h75 (v1 + (1 : Int32)) (mI u 40 (Int32.toNatClampNeg (((370 : Int32) * v1) + (0 : Int32))) (-1 : Int32))
def f_X4_begin_L75 (N : Nat) : Nat → Int32 → xN → Option xN
  | 0 => fun _ _ => none
  | n + 1 => fun v1 u => f_X4_begin_L75b N (f_X4_begin_L75 N n) v1 u
theorem go_X4_begin_L75 (N : Nat) : ∀ (n : Nat) (v1 : Int32) (u : xN), xGm md_X4_begin rsV (f_X4_begin_L75 N n v1 u) 75 [(0, .ref 39), (1, .int v1)] [] (xU u) := by
  intro n
  induction n with
  | zero => intro v1 u; exact xm_none
  | succ n ih => intro v1 u; exact go_X4_begin_L75b N _ ih v1 u
def f_X4_begin_L38b (N : Nat) (rec38 : Int32 → xN → Option xN) (v1 : Int32) (u : xN) : Option xN := if (4 : Int32) ≤ v1 then f_X4_begin_L75 N N (1 : Int32) u else gdl [inb ((2 : Int32) + ((2 : Int32) * v1)) 1480, inb (((2 : Int32) + ((2 : Int32) * v1)) + (1 : Int32)) 1480] (rec38 (v1 + (1 : Int32)) (mI (mI u 40 (Int32.toNatClampNeg ((2 : Int32) + ((2 : Int32) * v1))) (1 : Int32)) 40 (Int32.toNatClampNeg (((2 : Int32) + ((2 : Int32) * v1)) + (1 : Int32))) (4 : Int32)))
set_option maxRecDepth 20000 in
theorem go_X4_begin_L38b (N : Nat) (rec38 : Int32 → xN → Option xN) (h38 : ∀ (v1 : Int32) (u : xN), xGm md_X4_begin rsV (rec38 v1 u) 38 [(0, .ref 39), (1, .int v1)] [] (xU u)) (v1 : Int32) (u : xN) : xGm md_X4_begin rsV (f_X4_begin_L38b N rec38 v1 u) 38 [(0, .ref 39), (1, .int v1)] [] (xU u) := by
  unfold f_X4_begin_L38b
  refine xm_blk0 (pc' := 40) (lv' := [(0, .ref 39), (1, .int v1)]) (st' := [.int (4 : Int32), .int v1]) (u' := (xU u)) [(.iload_n 1, (0, 0, 0), 0, 0), (.iconst 4, (0, 0, 0), 4, 0)] (by decide +kernel) rfl ?_
  refine xm_icmp_ge (pc := 40) (off := 33) (tgt := 73) (by decide +kernel) (by decide) ?_ ?_
  · refine xm_blk0 (pc' := 75) (lv' := [(0, .ref 39), (1, .int (1 : Int32))]) (st' := []) (u' := (xU u)) [(.iconst 1, (0, 0, 0), 1, 0), (.istore_n 1, (0, 0, 0), 0, 0)] (by decide +kernel) rfl ?_
    exact go_X4_begin_L75 N N (1 : Int32) u
  · refine xm_blk (bs := [inb ((2 : Int32) + ((2 : Int32) * v1)) 1480, inb (((2 : Int32) + ((2 : Int32) * v1)) + (1 : Int32)) 1480]) (pc' := 70) (lv' := [(0, .ref 39), (1, .int (v1 + (1 : Int32)))]) (st' := []) (u' := (xU (mI (mI u 40 (Int32.toNatClampNeg ((2 : Int32) + ((2 : Int32) * v1))) (1 : Int32)) 40 (Int32.toNatClampNeg (((2 : Int32) + ((2 : Int32) * v1)) + (1 : Int32))) (4 : Int32)))) [(.aload_n 0, (0, 0, 0), 0, 0), (.getfield 7, (4, 0, 820), 0, 0), (.iconst 2, (0, 0, 0), 2, 0), (.iconst 2, (0, 0, 0), 2, 0), (.iload_n 1, (0, 0, 0), 0, 0), (.imul, (0, 0, 0), 0, 0), (.iadd, (0, 0, 0), 0, 0), (.iconst 1, (0, 0, 0), 1, 0), (.iastore, (0, 0, 0), 0, 0), (.aload_n 0, (0, 0, 0), 0, 0), (.getfield 7, (4, 0, 820), 0, 0), (.iconst 2, (0, 0, 0), 2, 0), (.iconst 2, (0, 0, 0), 2, 0), (.iload_n 1, (0, 0, 0), 0, 0), (.imul, (0, 0, 0), 0, 0), (.iadd, (0, 0, 0), 0, 0), (.iconst 1, (0, 0, 0), 1, 0), (.iadd, (0, 0, 0), 0, 0), (.iconst 4, (0, 0, 0), 4, 0), (.iastore, (0, 0, 0), 0, 0), (.iinc 1 1, (0, 0, 0), 1, 0)] (by decide +kernel) rfl ?_
    refine xm_goto (pc := 70) (off := -32) (tgt := 38) (by decide +kernel) (by decide) ?_
    exact h38 (v1 + (1 : Int32)) (mI (mI u 40 (Int32.toNatClampNeg ((2 : Int32) + ((2 : Int32) * v1))) (1 : Int32)) 40 (Int32.toNatClampNeg (((2 : Int32) + ((2 : Int32) * v1)) + (1 : Int32))) (4 : Int32))
def f_X4_begin_L38 (N : Nat) : Nat → Int32 → xN → Option xN
  | 0 => fun _ _ => none
  | n + 1 => fun v1 u => f_X4_begin_L38b N (f_X4_begin_L38 N n) v1 u
theorem go_X4_begin_L38 (N : Nat) : ∀ (n : Nat) (v1 : Int32) (u : xN), xGm md_X4_begin rsV (f_X4_begin_L38 N n v1 u) 38 [(0, .ref 39), (1, .int v1)] [] (xU u) := by
  intro n
  induction n with
  | zero => intro v1 u; exact xm_none
  | succ n ih => intro v1 u; exact go_X4_begin_L38b N _ ih v1 u
def f_X4_begin_L2b (N : Nat) (rec2 : Int32 → xN → Option xN) (v1 : Int32) (u : xN) : Option xN := if (370 : Int32) ≤ v1 then (gdl [inb (1 : Int32) 1480] (f_X4_begin_L38 N N (0 : Int32) (mI u 40 (Int32.toNatClampNeg (1 : Int32)) (((1 : Int32) <<< ((u.1 39 3) &&& 31)) - (1 : Int32))))) else gdl [inb v1 1480] (rec2 (v1 + (1 : Int32)) (mI u 40 (Int32.toNatClampNeg v1) (0 : Int32)))
set_option maxRecDepth 20000 in
theorem go_X4_begin_L2b (N : Nat) (rec2 : Int32 → xN → Option xN) (h2 : ∀ (v1 : Int32) (u : xN), xGm md_X4_begin rsV (rec2 v1 u) 2 [(0, .ref 39), (1, .int v1)] [] (xU u)) (v1 : Int32) (u : xN) : xGm md_X4_begin rsV (f_X4_begin_L2b N rec2 v1 u) 2 [(0, .ref 39), (1, .int v1)] [] (xU u) := by
  unfold f_X4_begin_L2b
  refine xm_blk0 (pc' := 6) (lv' := [(0, .ref 39), (1, .int v1)]) (st' := [.int (370 : Int32), .int v1]) (u' := (xU u)) [(.iload_n 1, (0, 0, 0), 0, 0), (.sipush 370, (0, 0, 0), 370, 0)] (by decide +kernel) rfl ?_
  refine xm_icmp_ge (pc := 6) (off := 16) (tgt := 22) (by decide +kernel) (by decide) ?_ ?_
  · refine xm_blk (bs := [inb (1 : Int32) 1480]) (pc' := 38) (lv' := [(0, .ref 39), (1, .int (0 : Int32))]) (st' := []) (u' := (xU (mI u 40 (Int32.toNatClampNeg (1 : Int32)) (((1 : Int32) <<< ((u.1 39 3) &&& 31)) - (1 : Int32))))) [(.aload_n 0, (0, 0, 0), 0, 0), (.getfield 7, (4, 0, 820), 0, 0), (.iconst 1, (0, 0, 0), 1, 0), (.iconst 1, (0, 0, 0), 1, 0), (.aload_n 0, (0, 0, 0), 0, 0), (.getfield 60, (4, 3, 823), 0, 0), (.ishl, (0, 0, 0), 0, 0), (.iconst 1, (0, 0, 0), 1, 0), (.isub, (0, 0, 0), 0, 0), (.iastore, (0, 0, 0), 0, 0), (.iconst 0, (0, 0, 0), 0, 0), (.istore_n 1, (0, 0, 0), 0, 0)] (by decide +kernel) rfl ?_
    exact go_X4_begin_L38 N N (0 : Int32) (mI u 40 (Int32.toNatClampNeg (1 : Int32)) (((1 : Int32) <<< ((u.1 39 3) &&& 31)) - (1 : Int32)))
  · refine xm_blk (bs := [inb v1 1480]) (pc' := 19) (lv' := [(0, .ref 39), (1, .int (v1 + (1 : Int32)))]) (st' := []) (u' := (xU (mI u 40 (Int32.toNatClampNeg v1) (0 : Int32)))) [(.aload_n 0, (0, 0, 0), 0, 0), (.getfield 7, (4, 0, 820), 0, 0), (.iload_n 1, (0, 0, 0), 0, 0), (.iconst 0, (0, 0, 0), 0, 0), (.iastore, (0, 0, 0), 0, 0), (.iinc 1 1, (0, 0, 0), 1, 0)] (by decide +kernel) rfl ?_
    refine xm_goto (pc := 19) (off := -17) (tgt := 2) (by decide +kernel) (by decide) ?_
    exact h2 (v1 + (1 : Int32)) (mI u 40 (Int32.toNatClampNeg v1) (0 : Int32))
def f_X4_begin_L2 (N : Nat) : Nat → Int32 → xN → Option xN
  | 0 => fun _ _ => none
  | n + 1 => fun v1 u => f_X4_begin_L2b N (f_X4_begin_L2 N n) v1 u
theorem go_X4_begin_L2 (N : Nat) : ∀ (n : Nat) (v1 : Int32) (u : xN), xGm md_X4_begin rsV (f_X4_begin_L2 N n v1 u) 2 [(0, .ref 39), (1, .int v1)] [] (xU u) := by
  intro n
  induction n with
  | zero => intro v1 u; exact xm_none
  | succ n ih => intro v1 u; exact go_X4_begin_L2b N _ ih v1 u
def f_X4_begin (N : Nat) (u : xN) : Option xN := f_X4_begin_L2 N N (0 : Int32) u
set_option maxRecDepth 20000 in
theorem go_X4_begin (N : Nat) (u : xN) : xGm md_X4_begin rsV (f_X4_begin N u) 0 [(0, .ref 39)] [] (xU u) := by
  unfold f_X4_begin
  refine xm_blk0 (pc' := 2) (lv' := [(0, .ref 39), (1, .int (0 : Int32))]) (st' := []) (u' := (xU u)) [(.iconst 0, (0, 0, 0), 0, 0), (.istore_n 1, (0, 0, 0), 0, 0)] (by decide +kernel) rfl ?_
  exact go_X4_begin_L2 N N (0 : Int32) u
theorem ev_X4_begin (N : Nat) (u : xN) : ∀ r, f_X4_begin N u = some r → xEm md_X4_begin yX4_begin [.ref 39] (xU u) (none, xU r) := xm_met (res := rsV) (as := [.ref 39]) (go_X4_begin N u) (by decide) rfl (Nat.le_of_ble_eq_true rfl)
theorem mw_X4_court : xMv yX4_court cX4_court 3 (some .int) 1 := xMv_of (p1 := 998) (p2 := 996) (p3 := 97) (p4 := 997) (by decide +kernel)
/-! NeitherBareModel.court(I)I (39, None) -/
abbrev md_X4_court : xMd := (cX4_court, RX4, 3, some .int, 5)
def f_X4_court_L81b (N : Nat) (rec81 : Int32 → xN → Option (Int32 × xN)) (v2 : Int32) (u : xN) : Option (Int32 × xN) := if (u.1 39 3) ≤ v2 then Option.bind (f_X4_begin N u) (fun r142 => some ((r142.1 39 1), r142)) else gdl [inb ((3 : Int32) * v2) 24, inb v2 8, inb (((3 : Int32) * v2) + (1 : Int32)) 24, inb v2 8, inb (((3 : Int32) * v2) + (2 : Int32)) 24, inb v2 8] (rec81 (v2 + (1 : Int32)) (mI (mI (mI u 42 (Int32.toNatClampNeg v2) (u.1 51 (Int32.toNatClampNeg ((3 : Int32) * v2)))) 43 (Int32.toNatClampNeg v2) ((mI u 42 (Int32.toNatClampNeg v2) (u.1 51 (Int32.toNatClampNeg ((3 : Int32) * v2)))).1 51 (Int32.toNatClampNeg (((3 : Int32) * v2) + (1 : Int32))))) 44 (Int32.toNatClampNeg v2) ((mI (mI u 42 (Int32.toNatClampNeg v2) (u.1 51 (Int32.toNatClampNeg ((3 : Int32) * v2)))) 43 (Int32.toNatClampNeg v2) ((mI u 42 (Int32.toNatClampNeg v2) (u.1 51 (Int32.toNatClampNeg ((3 : Int32) * v2)))).1 51 (Int32.toNatClampNeg (((3 : Int32) * v2) + (1 : Int32))))).1 51 (Int32.toNatClampNeg (((3 : Int32) * v2) + (2 : Int32))))))
set_option maxRecDepth 20000 in
theorem go_X4_court_L81b (N : Nat) (rec81 : Int32 → xN → Option (Int32 × xN)) (h81 : ∀ (v2 : Int32) (u : xN), xGm md_X4_court rsM (rec81 v2 u) 81 [(0, .ref 39), (2, .int v2)] [] (xU u)) (v2 : Int32) (u : xN) : xGm md_X4_court rsM (f_X4_court_L81b N rec81 v2 u) 81 [(0, .ref 39), (2, .int v2)] [] (xU u) := by
  unfold f_X4_court_L81b
  refine xm_blk0 (pc' := 86) (lv' := [(0, .ref 39), (2, .int v2)]) (st' := [.int (u.1 39 3), .int v2]) (u' := (xU u)) [(.iload_n 2, (0, 0, 0), 0, 0), (.aload_n 0, (0, 0, 0), 0, 0), (.getfield 60, (4, 3, 823), 0, 0)] (by decide +kernel) rfl ?_
  refine xm_icmp_ge (pc := 86) (off := 55) (tgt := 141) (by decide +kernel) (by decide) ?_ ?_
  · refine xm_blk0 (pc' := 142) (lv' := [(0, .ref 39), (2, .int v2)]) (st' := [.ref 39]) (u' := (xU u)) [(.aload_n 0, (0, 0, 0), 0, 0)] (by decide +kernel) rfl ?_
    refine xm_Vv (pc := 142) (mz := md_X4_begin) (idx := 57) (p1 := 816) (a := 39) (as := []) (st := []) (ev_X4_begin N u) mw_X4_begin (by decide +kernel) (by decide +kernel) (by decide) rfl rfl (by decide) rfl (Nat.le_of_ble_eq_true rfl) (fun r142 => ?_)
    refine xm_blk0 (pc' := 149) (lv' := [(0, .ref 39), (2, .int v2)]) (st' := [.int (r142.1 39 1)]) (u' := (xU r142)) [(.aload_n 0, (0, 0, 0), 0, 0), (.getfield 147, (4, 1, 821), 0, 0)] (by decide +kernel) rfl ?_
    exact xm_iret (pc := 149) (by decide +kernel) rfl rfl
  · refine xm_blk (bs := [inb ((3 : Int32) * v2) 24, inb v2 8, inb (((3 : Int32) * v2) + (1 : Int32)) 24, inb v2 8, inb (((3 : Int32) * v2) + (2 : Int32)) 24, inb v2 8]) (pc' := 138) (lv' := [(0, .ref 39), (2, .int (v2 + (1 : Int32)))]) (st' := []) (u' := (xU (mI (mI (mI u 42 (Int32.toNatClampNeg v2) (u.1 51 (Int32.toNatClampNeg ((3 : Int32) * v2)))) 43 (Int32.toNatClampNeg v2) ((mI u 42 (Int32.toNatClampNeg v2) (u.1 51 (Int32.toNatClampNeg ((3 : Int32) * v2)))).1 51 (Int32.toNatClampNeg (((3 : Int32) * v2) + (1 : Int32))))) 44 (Int32.toNatClampNeg v2) ((mI (mI u 42 (Int32.toNatClampNeg v2) (u.1 51 (Int32.toNatClampNeg ((3 : Int32) * v2)))) 43 (Int32.toNatClampNeg v2) ((mI u 42 (Int32.toNatClampNeg v2) (u.1 51 (Int32.toNatClampNeg ((3 : Int32) * v2)))).1 51 (Int32.toNatClampNeg (((3 : Int32) * v2) + (1 : Int32))))).1 51 (Int32.toNatClampNeg (((3 : Int32) * v2) + (2 : Int32))))))) [(.aload_n 0, (0, 0, 0), 0, 0), (.getfield 16, (4, 4, 824), 0, 0), (.iload_n 2, (0, 0, 0), 0, 0), (.aload_n 0, (0, 0, 0), 0, 0), (.getfield 47, (4, 21, 841), 0, 0), (.iconst 3, (0, 0, 0), 3, 0), (.iload_n 2, (0, 0, 0), 0, 0), (.imul, (0, 0, 0), 0, 0), (.iaload, (0, 0, 0), 0, 0), (.iastore, (0, 0, 0), 0, 0), (.aload_n 0, (0, 0, 0), 0, 0), (.getfield 19, (4, 5, 825), 0, 0), (.iload_n 2, (0, 0, 0), 0, 0), (.aload_n 0, (0, 0, 0), 0, 0), (.getfield 47, (4, 21, 841), 0, 0), (.iconst 3, (0, 0, 0), 3, 0), (.iload_n 2, (0, 0, 0), 0, 0), (.imul, (0, 0, 0), 0, 0), (.iconst 1, (0, 0, 0), 1, 0), (.iadd, (0, 0, 0), 0, 0), (.iaload, (0, 0, 0), 0, 0), (.iastore, (0, 0, 0), 0, 0), (.aload_n 0, (0, 0, 0), 0, 0), (.getfield 22, (4, 6, 826), 0, 0), (.iload_n 2, (0, 0, 0), 0, 0), (.aload_n 0, (0, 0, 0), 0, 0), (.getfield 47, (4, 21, 841), 0, 0), (.iconst 3, (0, 0, 0), 3, 0), (.iload_n 2, (0, 0, 0), 0, 0), (.imul, (0, 0, 0), 0, 0), (.iconst 2, (0, 0, 0), 2, 0), (.iadd, (0, 0, 0), 0, 0), (.iaload, (0, 0, 0), 0, 0), (.iastore, (0, 0, 0), 0, 0), (.iinc 2 1, (0, 0, 0), 1, 0)] (by decide +kernel) rfl ?_
    refine xm_goto (pc := 138) (off := -57) (tgt := 81) (by decide +kernel) (by decide) ?_
    exact h81 (v2 + (1 : Int32)) (mI (mI (mI u 42 (Int32.toNatClampNeg v2) (u.1 51 (Int32.toNatClampNeg ((3 : Int32) * v2)))) 43 (Int32.toNatClampNeg v2) ((mI u 42 (Int32.toNatClampNeg v2) (u.1 51 (Int32.toNatClampNeg ((3 : Int32) * v2)))).1 51 (Int32.toNatClampNeg (((3 : Int32) * v2) + (1 : Int32))))) 44 (Int32.toNatClampNeg v2) ((mI (mI u 42 (Int32.toNatClampNeg v2) (u.1 51 (Int32.toNatClampNeg ((3 : Int32) * v2)))) 43 (Int32.toNatClampNeg v2) ((mI u 42 (Int32.toNatClampNeg v2) (u.1 51 (Int32.toNatClampNeg ((3 : Int32) * v2)))).1 51 (Int32.toNatClampNeg (((3 : Int32) * v2) + (1 : Int32))))).1 51 (Int32.toNatClampNeg (((3 : Int32) * v2) + (2 : Int32)))))
def f_X4_court_L81 (N : Nat) : Nat → Int32 → xN → Option (Int32 × xN)
  | 0 => fun _ _ => none
  | n + 1 => fun v2 u => f_X4_court_L81b N (f_X4_court_L81 N n) v2 u
theorem go_X4_court_L81 (N : Nat) : ∀ (n : Nat) (v2 : Int32) (u : xN), xGm md_X4_court rsM (f_X4_court_L81 N n v2 u) 81 [(0, .ref 39), (2, .int v2)] [] (xU u) := by
  intro n
  induction n with
  | zero => intro v2 u; exact xm_none
  | succ n ih => intro v2 u; exact go_X4_court_L81b N _ ih v2 u
def f_X4_court_L47b (N : Nat) (rec47 : Int32 → xN → Option (Int32 × xN)) (v2 : Int32) (u : xN) : Option (Int32 × xN) := if (30 : Int32) ≤ v2 then f_X4_court_L81 N N (0 : Int32) (mI u 39 3 (u.1 39 22)) else gdl [inb v2 30, inb v2 30] (rec47 (v2 + (1 : Int32)) (mI u 41 (Int32.toNatClampNeg v2) (u.1 50 (Int32.toNatClampNeg v2))))
set_option maxRecDepth 20000 in
theorem go_X4_court_L47b (N : Nat) (rec47 : Int32 → xN → Option (Int32 × xN)) (h47 : ∀ (v2 : Int32) (u : xN), xGm md_X4_court rsM (rec47 v2 u) 47 [(0, .ref 39), (2, .int v2)] [] (xU u)) (v2 : Int32) (u : xN) : xGm md_X4_court rsM (f_X4_court_L47b N rec47 v2 u) 47 [(0, .ref 39), (2, .int v2)] [] (xU u) := by
  unfold f_X4_court_L47b
  refine xm_blk0 (pc' := 50) (lv' := [(0, .ref 39), (2, .int v2)]) (st' := [.int (30 : Int32), .int v2]) (u' := (xU u)) [(.iload_n 2, (0, 0, 0), 0, 0), (.bipush 30, (0, 0, 0), 30, 0)] (by decide +kernel) rfl ?_
  refine xm_icmp_ge (pc := 50) (off := 21) (tgt := 71) (by decide +kernel) (by decide) ?_ ?_
  · refine xm_blk0 (pc' := 81) (lv' := [(0, .ref 39), (2, .int (0 : Int32))]) (st' := []) (u' := (xU (mI u 39 3 (u.1 39 22)))) [(.aload_n 0, (0, 0, 0), 0, 0), (.aload_n 0, (0, 0, 0), 0, 0), (.getfield 122, (4, 22, 842), 0, 0), (.putfield 60, (4, 3, 823), 0, 0), (.iconst 0, (0, 0, 0), 0, 0), (.istore_n 2, (0, 0, 0), 0, 0)] (by decide +kernel) rfl ?_
    exact go_X4_court_L81 N N (0 : Int32) (mI u 39 3 (u.1 39 22))
  · refine xm_blk (bs := [inb v2 30, inb v2 30]) (pc' := 68) (lv' := [(0, .ref 39), (2, .int (v2 + (1 : Int32)))]) (st' := []) (u' := (xU (mI u 41 (Int32.toNatClampNeg v2) (u.1 50 (Int32.toNatClampNeg v2))))) [(.aload_n 0, (0, 0, 0), 0, 0), (.getfield 13, (4, 2, 822), 0, 0), (.iload_n 2, (0, 0, 0), 0, 0), (.aload_n 0, (0, 0, 0), 0, 0), (.getfield 44, (4, 19, 839), 0, 0), (.iload_n 2, (0, 0, 0), 0, 0), (.iaload, (0, 0, 0), 0, 0), (.iastore, (0, 0, 0), 0, 0), (.iinc 2 1, (0, 0, 0), 1, 0)] (by decide +kernel) rfl ?_
    refine xm_goto (pc := 68) (off := -21) (tgt := 47) (by decide +kernel) (by decide) ?_
    exact h47 (v2 + (1 : Int32)) (mI u 41 (Int32.toNatClampNeg v2) (u.1 50 (Int32.toNatClampNeg v2)))
def f_X4_court_L47 (N : Nat) : Nat → Int32 → xN → Option (Int32 × xN)
  | 0 => fun _ _ => none
  | n + 1 => fun v2 u => f_X4_court_L47b N (f_X4_court_L47 N n) v2 u
theorem go_X4_court_L47 (N : Nat) : ∀ (n : Nat) (v2 : Int32) (u : xN), xGm md_X4_court rsM (f_X4_court_L47 N n v2 u) 47 [(0, .ref 39), (2, .int v2)] [] (xU u) := by
  intro n
  induction n with
  | zero => intro v2 u; exact xm_none
  | succ n ih => intro v2 u; exact go_X4_court_L47b N _ ih v2 u
def f_X4_court (N : Nat) (a1 : Int32) (u : xN) : Option (Int32 × xN) := Option.bind (f_X4_isText a1) (fun r1 => if r1 = (0 : Int32) then some ((-1 : Int32), u) else gdl [inb a1 4] (if (0 : Int32) ≤ (u.1 47 (Int32.toNatClampNeg a1)) then Option.bind (f_X4_faultOf N a1 u) (fun r26 => if r26.1 = (-9 : Int32) then f_X4_court_L47 N N (0 : Int32) (mI r26.2 39 1 (r26.2.1 39 20)) else some ((-4 : Int32), r26.2)) else Option.bind (f_X4_find (1 : Int32) u) (fun r20 => some (r20.1, r20.2))))
set_option maxRecDepth 20000 in
theorem go_X4_court (N : Nat) (a1 : Int32) (u : xN) : xGm md_X4_court rsM (f_X4_court N a1 u) 0 [(0, .ref 39), (1, .int a1)] [] (xU u) := by
  unfold f_X4_court
  refine xm_blk0 (pc' := 1) (lv' := [(0, .ref 39), (1, .int a1)]) (st' := [.int a1]) (u' := (xU u)) [(.iload_n 1, (0, 0, 0), 0, 0)] (by decide +kernel) rfl ?_
  refine xm_Si (pc := 1) (mz := md_X4_isText) (idx := 101) (p1 := 952) (as := [.int a1]) (st := []) (ev_X4_isText a1 u) mw_X4_isText (by decide +kernel) (by decide +kernel) (by decide) rfl (Nat.le_of_ble_eq_true rfl) (fun r1 => ?_)
  refine xm_if_ne (pc := 4) (off := 5) (tgt := 9) (by decide +kernel) (by decide) ?_ ?_
  · refine xm_blk (bs := [inb a1 4]) (pc' := 15) (lv' := [(0, .ref 39), (1, .int a1)]) (st' := [.int (u.1 47 (Int32.toNatClampNeg a1))]) (u' := (xU u)) [(.aload_n 0, (0, 0, 0), 0, 0), (.getfield 31, (4, 9, 829), 0, 0), (.iload_n 1, (0, 0, 0), 0, 0), (.iaload, (0, 0, 0), 0, 0)] (by decide +kernel) rfl ?_
    refine xm_if_ge (pc := 15) (off := 9) (tgt := 24) (by decide +kernel) (by decide) ?_ ?_
    · refine xm_blk0 (pc' := 26) (lv' := [(0, .ref 39), (1, .int a1)]) (st' := [.int a1, .ref 39]) (u' := (xU u)) [(.aload_n 0, (0, 0, 0), 0, 0), (.iload_n 1, (0, 0, 0), 0, 0)] (by decide +kernel) rfl ?_
      refine xm_Vm (pc := 26) (mz := md_X4_faultOf) (idx := 144) (p1 := 964) (a := 39) (as := [.int a1]) (st := []) (ev_X4_faultOf N a1 u) mw_X4_faultOf (by decide +kernel) (by decide +kernel) (by decide) rfl rfl (by decide) rfl (Nat.le_of_ble_eq_true rfl) (fun r26 => ?_)
      refine xm_blk0 (pc' := 31) (lv' := [(0, .ref 39), (1, .int a1)]) (st' := [.int (-9 : Int32), .int r26.1]) (u' := (xU r26.2)) [(.bipush (-9), (0, 0, 0), -9, 0)] (by decide +kernel) rfl ?_
      refine xm_icmp_eq (pc := 31) (off := 6) (tgt := 37) (by decide +kernel) (by decide) ?_ ?_
      · refine xm_blk0 (pc' := 47) (lv' := [(0, .ref 39), (1, .int a1), (2, .int (0 : Int32))]) (st' := []) (u' := (xU (mI r26.2 39 1 (r26.2.1 39 20)))) [(.aload_n 0, (0, 0, 0), 0, 0), (.aload_n 0, (0, 0, 0), 0, 0), (.getfield 119, (4, 20, 840), 0, 0), (.putfield 147, (4, 1, 821), 0, 0), (.iconst 0, (0, 0, 0), 0, 0), (.istore_n 2, (0, 0, 0), 0, 0)] (by decide +kernel) rfl ?_
        refine xm_wk [0, 2] (lv' := [(0, .ref 39), (2, .int (0 : Int32))]) rfl ?_
        exact go_X4_court_L47 N N (0 : Int32) (mI r26.2 39 1 (r26.2.1 39 20))
      · refine xm_blk0 (pc' := 36) (lv' := [(0, .ref 39), (1, .int a1)]) (st' := [.int (-4 : Int32)]) (u' := (xU r26.2)) [(.bipush (-4), (0, 0, 0), -4, 0)] (by decide +kernel) rfl ?_
        exact xm_iret (pc := 36) (by decide +kernel) rfl rfl
    · refine xm_blk0 (pc' := 20) (lv' := [(0, .ref 39), (1, .int a1)]) (st' := [.int (1 : Int32), .ref 39]) (u' := (xU u)) [(.aload_n 0, (0, 0, 0), 0, 0), (.iconst 1, (0, 0, 0), 1, 0)] (by decide +kernel) rfl ?_
      refine xm_Vm (pc := 20) (mz := md_X4_find) (idx := 82) (p1 := 908) (a := 39) (as := [.int (1 : Int32)]) (st := []) (ev_X4_find (1 : Int32) u) mw_X4_find (by decide +kernel) (by decide +kernel) (by decide) rfl rfl (by decide) rfl (Nat.le_of_ble_eq_true rfl) (fun r20 => ?_)
      exact xm_iret (pc := 23) (by decide +kernel) rfl rfl
  · refine xm_blk0 (pc' := 8) (lv' := [(0, .ref 39), (1, .int a1)]) (st' := [.int (-1 : Int32)]) (u' := (xU u)) [(.iconst (-1), (0, 0, 0), -1, 0)] (by decide +kernel) rfl ?_
    exact xm_iret (pc := 8) (by decide +kernel) rfl rfl
theorem ev_X4_court (N : Nat) (a1 : Int32) (u : xN) : ∀ r, f_X4_court N a1 u = some r → xEm md_X4_court yX4_court [.ref 39, .int a1] (xU u) (some (.int r.1), xU r.2) := xm_met (res := rsM) (as := [.ref 39, .int a1]) (go_X4_court N a1 u) (by decide) rfl (Nat.le_of_ble_eq_true rfl)
theorem mw_X4_thing : xMv yX4_thing cX4_thing 3 (some .int) 2 := xMv_of (p1 := 1002) (p2 := 1000) (p3 := 97) (p4 := 1001) (by decide +kernel)
/-! NeitherBareModel.thing(II)I (39, None, None) -/
abbrev md_X4_thing : xMd := (cX4_thing, RX4, 3, some .int, 2)
def f_X4_thing_L46 (t0 : Int32) (u : xN) : Option (Int32 × xN) := some (t0, u)
set_option maxRecDepth 20000 in
theorem go_X4_thing_L46 (t0 : Int32) (u : xN) : xGm md_X4_thing rsM (f_X4_thing_L46 t0 u) 46 [] [.int t0] (xU u) := by
  unfold f_X4_thing_L46
  exact xm_iret (pc := 46) (by decide +kernel) rfl rfl
def f_X4_thing_L45 (u : xN) : Option (Int32 × xN) := f_X4_thing_L46 (-1 : Int32) u
set_option maxRecDepth 20000 in
theorem go_X4_thing_L45 (u : xN) : xGm md_X4_thing rsM (f_X4_thing_L45 u) 45 [] [] (xU u) := by
  unfold f_X4_thing_L45
  refine xm_blk0 (pc' := 46) (lv' := []) (st' := [.int (-1 : Int32)]) (u' := (xU u)) [(.iconst (-1), (0, 0, 0), -1, 0)] (by decide +kernel) rfl ?_
  exact go_X4_thing_L46 (-1 : Int32) u
def f_X4_thing (a1 : Int32) (a2 : Int32) (u : xN) : Option (Int32 × xN) := Option.bind (f_X4_in (Int32.toInt64 a1) (0 : Int64) (Int32.toInt64 ((u.1 39 1) - (1 : Int32)))) (fun r10 => if r10 = (0 : Int32) then f_X4_thing_L45 u else Option.bind (f_X4_in (Int32.toInt64 a2) (0 : Int64) (4 : Int64)) (fun r22 => if r22 = (0 : Int32) then f_X4_thing_L45 u else gdl [inb (((5 : Int32) * a1) + a2) 30] (Option.bind (f_X4_tell (u.1 41 (Int32.toNatClampNeg (((5 : Int32) * a1) + a2))) u) (fun r39 => f_X4_thing_L46 r39.1 r39.2))))
set_option maxRecDepth 20000 in
theorem go_X4_thing (a1 : Int32) (a2 : Int32) (u : xN) : xGm md_X4_thing rsM (f_X4_thing a1 a2 u) 0 [(0, .ref 39), (1, .int a1), (2, .int a2)] [] (xU u) := by
  unfold f_X4_thing
  refine xm_blk0 (pc' := 10) (lv' := [(0, .ref 39), (1, .int a1), (2, .int a2)]) (st' := [.long (Int32.toInt64 ((u.1 39 1) - (1 : Int32))), .long (0 : Int64), .long (Int32.toInt64 a1)]) (u' := (xU u)) [(.iload_n 1, (0, 0, 0), 0, 0), (.i2l, (0, 0, 0), 0, 0), (.lconst 0, (0, 0, 0), 0, 0), (.aload_n 0, (0, 0, 0), 0, 0), (.getfield 147, (4, 1, 821), 0, 0), (.iconst 1, (0, 0, 0), 1, 0), (.isub, (0, 0, 0), 0, 0), (.i2l, (0, 0, 0), 0, 0)] (by decide +kernel) rfl ?_
  refine xm_Si (pc := 10) (mz := md_X4_in) (idx := 72) (p1 := 905) (as := [.long (Int32.toInt64 a1), .long (0 : Int64), .long (Int32.toInt64 ((u.1 39 1) - (1 : Int32)))]) (st := []) (ev_X4_in (Int32.toInt64 a1) (0 : Int64) (Int32.toInt64 ((u.1 39 1) - (1 : Int32))) u) mw_X4_in (by decide +kernel) (by decide +kernel) (by decide) rfl (Nat.le_of_ble_eq_true rfl) (fun r10 => ?_)
  refine xm_if_eq (pc := 13) (off := 32) (tgt := 45) (by decide +kernel) (by decide) ?_ ?_
  · refine xm_wk [] (lv' := []) rfl ?_
    exact go_X4_thing_L45 u
  · refine xm_blk0 (pc' := 22) (lv' := [(0, .ref 39), (1, .int a1), (2, .int a2)]) (st' := [.long (4 : Int64), .long (0 : Int64), .long (Int32.toInt64 a2)]) (u' := (xU u)) [(.iload_n 2, (0, 0, 0), 0, 0), (.i2l, (0, 0, 0), 0, 0), (.lconst 0, (0, 0, 0), 0, 0), (.ldc2_w 188, (0, 0, 1003), 0, 4)] (by decide +kernel) rfl ?_
    refine xm_Si (pc := 22) (mz := md_X4_in) (idx := 72) (p1 := 905) (as := [.long (Int32.toInt64 a2), .long (0 : Int64), .long (4 : Int64)]) (st := []) (ev_X4_in (Int32.toInt64 a2) (0 : Int64) (4 : Int64) u) mw_X4_in (by decide +kernel) (by decide +kernel) (by decide) rfl (Nat.le_of_ble_eq_true rfl) (fun r22 => ?_)
    refine xm_if_eq (pc := 25) (off := 20) (tgt := 45) (by decide +kernel) (by decide) ?_ ?_
    · refine xm_wk [] (lv' := []) rfl ?_
      exact go_X4_thing_L45 u
    · refine xm_blk (bs := [inb (((5 : Int32) * a1) + a2) 30]) (pc' := 39) (lv' := [(0, .ref 39), (1, .int a1), (2, .int a2)]) (st' := [.int (u.1 41 (Int32.toNatClampNeg (((5 : Int32) * a1) + a2))), .ref 39]) (u' := (xU u)) [(.aload_n 0, (0, 0, 0), 0, 0), (.aload_n 0, (0, 0, 0), 0, 0), (.getfield 13, (4, 2, 822), 0, 0), (.iconst 5, (0, 0, 0), 5, 0), (.iload_n 1, (0, 0, 0), 0, 0), (.imul, (0, 0, 0), 0, 0), (.iload_n 2, (0, 0, 0), 0, 0), (.iadd, (0, 0, 0), 0, 0), (.iaload, (0, 0, 0), 0, 0)] (by decide +kernel) rfl ?_
      refine xm_Vm (pc := 39) (mz := md_X4_tell) (idx := 94) (p1 := 924) (a := 39) (as := [.int (u.1 41 (Int32.toNatClampNeg (((5 : Int32) * a1) + a2)))]) (st := []) (ev_X4_tell (u.1 41 (Int32.toNatClampNeg (((5 : Int32) * a1) + a2))) u) mw_X4_tell (by decide +kernel) (by decide +kernel) (by decide) rfl rfl (by decide) rfl (Nat.le_of_ble_eq_true rfl) (fun r39 => ?_)
      refine xm_goto (pc := 42) (off := 4) (tgt := 46) (by decide +kernel) (by decide) ?_
      refine xm_wk [] (lv' := []) rfl ?_
      exact go_X4_thing_L46 r39.1 r39.2
theorem ev_X4_thing (a1 : Int32) (a2 : Int32) (u : xN) : ∀ r, f_X4_thing a1 a2 u = some r → xEm md_X4_thing yX4_thing [.ref 39, .int a1, .int a2] (xU u) (some (.int r.1), xU r.2) := xm_met (res := rsM) (as := [.ref 39, .int a1, .int a2]) (go_X4_thing a1 a2 u) (by decide) rfl (Nat.le_of_ble_eq_true rfl)
theorem mw_X4_isClause : xMv yX4_isClause cX4_isClause 2 (some .boolean) 1 := xMv_of (p1 := 1011) (p2 := 1010) (p3 := 97) (p4 := 51) (by decide +kernel)
/-! NeitherBareModel.isClause(I)Z (39, None) -/
abbrev md_X4_isClause : xMd := (cX4_isClause, RX4, 2, some .boolean, 2)
def f_X4_isClause (a1 : Int32) (u : xN) : Option Int32 := Option.bind (f_X4_in (Int32.toInt64 a1) (0 : Int64) (Int32.toInt64 ((u.1 39 3) - (1 : Int32)))) (fun r10 => gdl [isb r10] (some r10))
set_option maxRecDepth 20000 in
theorem go_X4_isClause (a1 : Int32) (u : xN) : xGm md_X4_isClause (rsI (xU u)) (f_X4_isClause a1 u) 0 [(0, .ref 39), (1, .int a1)] [] (xU u) := by
  unfold f_X4_isClause
  refine xm_blk0 (pc' := 10) (lv' := [(0, .ref 39), (1, .int a1)]) (st' := [.long (Int32.toInt64 ((u.1 39 3) - (1 : Int32))), .long (0 : Int64), .long (Int32.toInt64 a1)]) (u' := (xU u)) [(.iload_n 1, (0, 0, 0), 0, 0), (.i2l, (0, 0, 0), 0, 0), (.lconst 0, (0, 0, 0), 0, 0), (.aload_n 0, (0, 0, 0), 0, 0), (.getfield 60, (4, 3, 823), 0, 0), (.iconst 1, (0, 0, 0), 1, 0), (.isub, (0, 0, 0), 0, 0), (.i2l, (0, 0, 0), 0, 0)] (by decide +kernel) rfl ?_
  refine xm_Si (pc := 10) (mz := md_X4_in) (idx := 72) (p1 := 905) (as := [.long (Int32.toInt64 a1), .long (0 : Int64), .long (Int32.toInt64 ((u.1 39 3) - (1 : Int32)))]) (st := []) (ev_X4_in (Int32.toInt64 a1) (0 : Int64) (Int32.toInt64 ((u.1 39 3) - (1 : Int32))) u) mw_X4_in (by decide +kernel) (by decide +kernel) (by decide) rfl (Nat.le_of_ble_eq_true rfl) (fun r10 => ?_)
  exact xm_zret (pc := 13) (by decide +kernel) rfl rfl
theorem ev_X4_isClause (a1 : Int32) (u : xN) : ∀ r, f_X4_isClause a1 u = some r → xEm md_X4_isClause yX4_isClause [.ref 39, .int a1] (xU u) (some (.int r), (xU u)) := xm_met (res := (rsI (xU u))) (as := [.ref 39, .int a1]) (go_X4_isClause a1 u) (by decide) rfl (Nat.le_of_ble_eq_true rfl)
theorem mw_X4_ways : xMv yX4_ways cX4_ways 1 (some .int) 0 := xMv_of (p1 := 1023) (p2 := 1022) (p3 := 97) (p4 := 54) (by decide +kernel)
/-! NeitherBareModel.ways()I (39,) -/
abbrev md_X4_ways : xMd := (cX4_ways, RX4, 1, some .int, 1)
def f_X4_ways (u : xN) : Option Int32 := some ((1 : Int32) <<< ((u.1 39 1) &&& 31))
set_option maxRecDepth 20000 in
theorem go_X4_ways (u : xN) : xGm md_X4_ways (rsI (xU u)) (f_X4_ways u) 0 [(0, .ref 39)] [] (xU u) := by
  unfold f_X4_ways
  refine xm_blk0 (pc' := 6) (lv' := [(0, .ref 39)]) (st' := [.int ((1 : Int32) <<< ((u.1 39 1) &&& 31))]) (u' := (xU u)) [(.iconst 1, (0, 0, 0), 1, 0), (.aload_n 0, (0, 0, 0), 0, 0), (.getfield 147, (4, 1, 821), 0, 0), (.ishl, (0, 0, 0), 0, 0)] (by decide +kernel) rfl ?_
  exact xm_iret (pc := 6) (by decide +kernel) rfl rfl
theorem ev_X4_ways (u : xN) : ∀ r, f_X4_ways u = some r → xEm md_X4_ways yX4_ways [.ref 39] (xU u) (some (.int r), (xU u)) := xm_met (res := (rsI (xU u))) (as := [.ref 39]) (go_X4_ways u) (by decide) rfl (Nat.le_of_ble_eq_true rfl)
theorem mw_X4_has : xMs yX4_has cX4_has 2 (some .boolean) 2 := xMs_of (p1 := 1034) (p2 := 1033) (p3 := 97) (by decide +kernel)
/-! NeitherBareModel.has(II)Z  -/
abbrev md_X4_has : xMd := (cX4_has, RX4, 2, some .boolean, 1)
def f_X4_has_L14 (t0 : Int32) : Option Int32 := gdl [isb t0] (some t0)
set_option maxRecDepth 20000 in
theorem go_X4_has_L14 (u : xN) (t0 : Int32) : xGm md_X4_has (rsI (xU u)) (f_X4_has_L14 t0) 14 [] [.int t0] (xU u) := by
  unfold f_X4_has_L14
  exact xm_zret (pc := 14) (by decide +kernel) rfl rfl
def f_X4_has (a0 : Int32) (a1 : Int32) : Option Int32 := if ((a0 >>> (a1 &&& 31)) &&& (1 : Int32)) = (1 : Int32) then f_X4_has_L14 (1 : Int32) else f_X4_has_L14 (0 : Int32)
set_option maxRecDepth 20000 in
theorem go_X4_has (a0 : Int32) (a1 : Int32) (u : xN) : xGm md_X4_has (rsI (xU u)) (f_X4_has a0 a1) 0 [(0, .int a0), (1, .int a1)] [] (xU u) := by
  unfold f_X4_has
  refine xm_blk0 (pc' := 6) (lv' := [(0, .int a0), (1, .int a1)]) (st' := [.int (1 : Int32), .int ((a0 >>> (a1 &&& 31)) &&& (1 : Int32))]) (u' := (xU u)) [(.iload_n 0, (0, 0, 0), 0, 0), (.iload_n 1, (0, 0, 0), 0, 0), (.ishr, (0, 0, 0), 0, 0), (.iconst 1, (0, 0, 0), 1, 0), (.iand, (0, 0, 0), 0, 0), (.iconst 1, (0, 0, 0), 1, 0)] (by decide +kernel) rfl ?_
  refine xm_icmp_ne (pc := 6) (off := 7) (tgt := 13) (by decide +kernel) (by decide) ?_ ?_
  · refine xm_blk0 (pc' := 14) (lv' := [(0, .int a0), (1, .int a1)]) (st' := [.int (0 : Int32)]) (u' := (xU u)) [(.iconst 0, (0, 0, 0), 0, 0)] (by decide +kernel) rfl ?_
    refine xm_wk [] (lv' := []) rfl ?_
    exact go_X4_has_L14 u (0 : Int32)
  · refine xm_blk0 (pc' := 10) (lv' := [(0, .int a0), (1, .int a1)]) (st' := [.int (1 : Int32)]) (u' := (xU u)) [(.iconst 1, (0, 0, 0), 1, 0)] (by decide +kernel) rfl ?_
    refine xm_goto (pc := 10) (off := 4) (tgt := 14) (by decide +kernel) (by decide) ?_
    refine xm_wk [] (lv' := []) rfl ?_
    exact go_X4_has_L14 u (1 : Int32)
theorem ev_X4_has (a0 : Int32) (a1 : Int32) (u : xN) : ∀ r, f_X4_has a0 a1 = some r → xEm md_X4_has yX4_has [.int a0, .int a1] (xU u) (some (.int r), (xU u)) := xm_met (res := (rsI (xU u))) (as := [.int a0, .int a1]) (go_X4_has a0 a1 u) (by decide) rfl (Nat.le_of_ble_eq_true rfl)
theorem mw_X4_valueOf : xMv yX4_valueOf cX4_valueOf 5 (some .int) 2 := xMv_of (p1 := 1031) (p2 := 1030) (p3 := 97) (p4 := 56) (by decide +kernel)
/-! NeitherBareModel.valueOf(II)I (39, None, None) -/
abbrev md_X4_valueOf : xMd := (cX4_valueOf, RX4, 5, some .int, 2)
def f_X4_valueOf_L39 (N : Nat) (u : xN) (rec5 : Int32 → Int32 → Int32 → Int32 → Option Int32) (v1 : Int32) (v2 : Int32) (v4 : Int32) (t0 : Int32) (t1 : Int32) : Option Int32 := rec5 v1 v2 (t1 + t0) (v4 + (1 : Int32))
set_option maxRecDepth 20000 in
theorem go_X4_valueOf_L39 (N : Nat) (u : xN) (rec5 : Int32 → Int32 → Int32 → Int32 → Option Int32) (h5 : ∀ (v1 : Int32) (v2 : Int32) (v3 : Int32) (v4 : Int32), xGm md_X4_valueOf (rsI (xU u)) (rec5 v1 v2 v3 v4) 5 [(0, .ref 39), (1, .int v1), (2, .int v2), (3, .int v3), (4, .int v4)] [] (xU u)) (v1 : Int32) (v2 : Int32) (v4 : Int32) (t0 : Int32) (t1 : Int32) : xGm md_X4_valueOf (rsI (xU u)) (f_X4_valueOf_L39 N u rec5 v1 v2 v4 t0 t1) 39 [(0, .ref 39), (1, .int v1), (2, .int v2), (4, .int v4)] [.int t0, .int t1] (xU u) := by
  unfold f_X4_valueOf_L39
  refine xm_blk0 (pc' := 44) (lv' := [(0, .ref 39), (1, .int v1), (2, .int v2), (3, .int (t1 + t0)), (4, .int (v4 + (1 : Int32)))]) (st' := []) (u' := (xU u)) [(.iadd, (0, 0, 0), 0, 0), (.istore_n 3, (0, 0, 0), 0, 0), (.iinc 4 1, (0, 0, 0), 1, 0)] (by decide +kernel) rfl ?_
  refine xm_goto (pc := 44) (off := -39) (tgt := 5) (by decide +kernel) (by decide) ?_
  exact h5 v1 v2 (t1 + t0) (v4 + (1 : Int32))
def f_X4_valueOf_L57 (N : Nat) (u : xN) (t0 : Int32) : Option Int32 := some t0
set_option maxRecDepth 20000 in
theorem go_X4_valueOf_L57 (N : Nat) (u : xN) (t0 : Int32) : xGm md_X4_valueOf (rsI (xU u)) (f_X4_valueOf_L57 N u t0) 57 [] [.int t0] (xU u) := by
  unfold f_X4_valueOf_L57
  exact xm_iret (pc := 57) (by decide +kernel) rfl rfl
def f_X4_valueOf_L5b (N : Nat) (u : xN) (rec5 : Int32 → Int32 → Int32 → Int32 → Option Int32) (v1 : Int32) (v2 : Int32) (v3 : Int32) (v4 : Int32) : Option Int32 := if (u.1 39 1) ≤ v4 then (if v3 ≤ (5 : Int32) then f_X4_valueOf_L57 N u v3 else f_X4_valueOf_L57 N u (5 : Int32)) else Option.bind (f_X4_has v1 v4) (fun r18 => if r18 = (0 : Int32) then f_X4_valueOf_L39 N u rec5 v1 v2 v4 (0 : Int32) v3 else gdl [inb (((5 : Int32) * v4) + v2) 30] (f_X4_valueOf_L39 N u rec5 v1 v2 v4 (u.1 41 (Int32.toNatClampNeg (((5 : Int32) * v4) + v2))) v3))
set_option maxRecDepth 20000 in
theorem go_X4_valueOf_L5b (N : Nat) (u : xN) (rec5 : Int32 → Int32 → Int32 → Int32 → Option Int32) (h5 : ∀ (v1 : Int32) (v2 : Int32) (v3 : Int32) (v4 : Int32), xGm md_X4_valueOf (rsI (xU u)) (rec5 v1 v2 v3 v4) 5 [(0, .ref 39), (1, .int v1), (2, .int v2), (3, .int v3), (4, .int v4)] [] (xU u)) (v1 : Int32) (v2 : Int32) (v3 : Int32) (v4 : Int32) : xGm md_X4_valueOf (rsI (xU u)) (f_X4_valueOf_L5b N u rec5 v1 v2 v3 v4) 5 [(0, .ref 39), (1, .int v1), (2, .int v2), (3, .int v3), (4, .int v4)] [] (xU u) := by
  unfold f_X4_valueOf_L5b
  refine xm_blk0 (pc' := 11) (lv' := [(0, .ref 39), (1, .int v1), (2, .int v2), (3, .int v3), (4, .int v4)]) (st' := [.int (u.1 39 1), .int v4]) (u' := (xU u)) [(.iload 4, (0, 0, 0), 0, 0), (.aload_n 0, (0, 0, 0), 0, 0), (.getfield 147, (4, 1, 821), 0, 0)] (by decide +kernel) rfl ?_
  refine xm_icmp_ge (pc := 11) (off := 36) (tgt := 47) (by decide +kernel) (by decide) ?_ ?_
  · refine xm_blk0 (pc' := 49) (lv' := [(0, .ref 39), (1, .int v1), (2, .int v2), (3, .int v3), (4, .int v4)]) (st' := [.int (5 : Int32), .int v3]) (u' := (xU u)) [(.iload_n 3, (0, 0, 0), 0, 0), (.iconst 5, (0, 0, 0), 5, 0)] (by decide +kernel) rfl ?_
    refine xm_icmp_le (pc := 49) (off := 7) (tgt := 56) (by decide +kernel) (by decide) ?_ ?_
    · refine xm_blk0 (pc' := 57) (lv' := [(0, .ref 39), (1, .int v1), (2, .int v2), (3, .int v3), (4, .int v4)]) (st' := [.int v3]) (u' := (xU u)) [(.iload_n 3, (0, 0, 0), 0, 0)] (by decide +kernel) rfl ?_
      refine xm_wk [] (lv' := []) rfl ?_
      exact go_X4_valueOf_L57 N u v3
    · refine xm_blk0 (pc' := 53) (lv' := [(0, .ref 39), (1, .int v1), (2, .int v2), (3, .int v3), (4, .int v4)]) (st' := [.int (5 : Int32)]) (u' := (xU u)) [(.iconst 5, (0, 0, 0), 5, 0)] (by decide +kernel) rfl ?_
      refine xm_goto (pc := 53) (off := 4) (tgt := 57) (by decide +kernel) (by decide) ?_
      refine xm_wk [] (lv' := []) rfl ?_
      exact go_X4_valueOf_L57 N u (5 : Int32)
  · refine xm_blk0 (pc' := 18) (lv' := [(0, .ref 39), (1, .int v1), (2, .int v2), (3, .int v3), (4, .int v4)]) (st' := [.int v4, .int v1, .int v3]) (u' := (xU u)) [(.iload_n 3, (0, 0, 0), 0, 0), (.iload_n 1, (0, 0, 0), 0, 0), (.iload 4, (0, 0, 0), 0, 0)] (by decide +kernel) rfl ?_
    refine xm_Si (pc := 18) (mz := md_X4_has) (idx := 153) (p1 := 1032) (as := [.int v1, .int v4]) (st := [.int v3]) (ev_X4_has v1 v4 u) mw_X4_has (by decide +kernel) (by decide +kernel) (by decide) rfl (Nat.le_of_ble_eq_true rfl) (fun r18 => ?_)
    refine xm_if_eq (pc := 21) (off := 17) (tgt := 38) (by decide +kernel) (by decide) ?_ ?_
    · refine xm_blk0 (pc' := 39) (lv' := [(0, .ref 39), (1, .int v1), (2, .int v2), (3, .int v3), (4, .int v4)]) (st' := [.int (0 : Int32), .int v3]) (u' := (xU u)) [(.iconst 0, (0, 0, 0), 0, 0)] (by decide +kernel) rfl ?_
      refine xm_wk [0, 1, 2, 4] (lv' := [(0, .ref 39), (1, .int v1), (2, .int v2), (4, .int v4)]) rfl ?_
      exact go_X4_valueOf_L39 N u rec5 h5 v1 v2 v4 (0 : Int32) v3
    · refine xm_blk (bs := [inb (((5 : Int32) * v4) + v2) 30]) (pc' := 35) (lv' := [(0, .ref 39), (1, .int v1), (2, .int v2), (3, .int v3), (4, .int v4)]) (st' := [.int (u.1 41 (Int32.toNatClampNeg (((5 : Int32) * v4) + v2))), .int v3]) (u' := (xU u)) [(.aload_n 0, (0, 0, 0), 0, 0), (.getfield 13, (4, 2, 822), 0, 0), (.iconst 5, (0, 0, 0), 5, 0), (.iload 4, (0, 0, 0), 0, 0), (.imul, (0, 0, 0), 0, 0), (.iload_n 2, (0, 0, 0), 0, 0), (.iadd, (0, 0, 0), 0, 0), (.iaload, (0, 0, 0), 0, 0)] (by decide +kernel) rfl ?_
      refine xm_goto (pc := 35) (off := 4) (tgt := 39) (by decide +kernel) (by decide) ?_
      refine xm_wk [0, 1, 2, 4] (lv' := [(0, .ref 39), (1, .int v1), (2, .int v2), (4, .int v4)]) rfl ?_
      exact go_X4_valueOf_L39 N u rec5 h5 v1 v2 v4 (u.1 41 (Int32.toNatClampNeg (((5 : Int32) * v4) + v2))) v3
def f_X4_valueOf_L5 (N : Nat) (u : xN) : Nat → Int32 → Int32 → Int32 → Int32 → Option Int32
  | 0 => fun _ _ _ _ => none
  | n + 1 => fun v1 v2 v3 v4 => f_X4_valueOf_L5b N u (f_X4_valueOf_L5 N u n) v1 v2 v3 v4
theorem go_X4_valueOf_L5 (N : Nat) (u : xN) : ∀ (n : Nat) (v1 : Int32) (v2 : Int32) (v3 : Int32) (v4 : Int32), xGm md_X4_valueOf (rsI (xU u)) (f_X4_valueOf_L5 N u n v1 v2 v3 v4) 5 [(0, .ref 39), (1, .int v1), (2, .int v2), (3, .int v3), (4, .int v4)] [] (xU u) := by
  intro n
  induction n with
  | zero => intro v1 v2 v3 v4; exact xm_none
  | succ n ih => intro v1 v2 v3 v4; exact go_X4_valueOf_L5b N u _ ih v1 v2 v3 v4
def f_X4_valueOf (N : Nat) (a1 : Int32) (a2 : Int32) (u : xN) : Option Int32 := f_X4_valueOf_L5 N u N a1 a2 (0 : Int32) (0 : Int32)
set_option maxRecDepth 20000 in
theorem go_X4_valueOf (N : Nat) (a1 : Int32) (a2 : Int32) (u : xN) : xGm md_X4_valueOf (rsI (xU u)) (f_X4_valueOf N a1 a2 u) 0 [(0, .ref 39), (1, .int a1), (2, .int a2)] [] (xU u) := by
  unfold f_X4_valueOf
  refine xm_blk0 (pc' := 5) (lv' := [(0, .ref 39), (1, .int a1), (2, .int a2), (3, .int (0 : Int32)), (4, .int (0 : Int32))]) (st' := []) (u' := (xU u)) [(.iconst 0, (0, 0, 0), 0, 0), (.istore_n 3, (0, 0, 0), 0, 0), (.iconst 0, (0, 0, 0), 0, 0), (.istore 4, (0, 0, 0), 0, 0)] (by decide +kernel) rfl ?_
  exact go_X4_valueOf_L5 N u N a1 a2 (0 : Int32) (0 : Int32)
theorem ev_X4_valueOf (N : Nat) (a1 : Int32) (a2 : Int32) (u : xN) : ∀ r, f_X4_valueOf N a1 a2 u = some r → xEm md_X4_valueOf yX4_valueOf [.ref 39, .int a1, .int a2] (xU u) (some (.int r), (xU u)) := xm_met (res := (rsI (xU u))) (as := [.ref 39, .int a1, .int a2]) (go_X4_valueOf N a1 a2 u) (by decide) rfl (Nat.le_of_ble_eq_true rfl)
theorem mw_X4_upperOf : xMv yX4_upperOf cX4_upperOf 2 (some .int) 1 := xMv_of (p1 := 1046) (p2 := 1045) (p3 := 97) (p4 := 59) (by decide +kernel)
/-! NeitherBareModel.upperOf(I)I (39, None) -/
abbrev md_X4_upperOf : xMd := (cX4_upperOf, RX4, 2, some .int, 1)
def f_X4_upperOf (a1 : Int32) (u : xN) : Option Int32 := gdl [inb (((2 : Int32) + ((2 : Int32) * a1)) + (1 : Int32)) 1480] (some (u.1 40 (Int32.toNatClampNeg (((2 : Int32) + ((2 : Int32) * a1)) + (1 : Int32)))))
set_option maxRecDepth 20000 in
theorem go_X4_upperOf (a1 : Int32) (u : xN) : xGm md_X4_upperOf (rsI (xU u)) (f_X4_upperOf a1 u) 0 [(0, .ref 39), (1, .int a1)] [] (xU u) := by
  unfold f_X4_upperOf
  refine xm_blk (bs := [inb (((2 : Int32) + ((2 : Int32) * a1)) + (1 : Int32)) 1480]) (pc' := 12) (lv' := [(0, .ref 39), (1, .int a1)]) (st' := [.int (u.1 40 (Int32.toNatClampNeg (((2 : Int32) + ((2 : Int32) * a1)) + (1 : Int32))))]) (u' := (xU u)) [(.aload_n 0, (0, 0, 0), 0, 0), (.getfield 7, (4, 0, 820), 0, 0), (.iconst 2, (0, 0, 0), 2, 0), (.iconst 2, (0, 0, 0), 2, 0), (.iload_n 1, (0, 0, 0), 0, 0), (.imul, (0, 0, 0), 0, 0), (.iadd, (0, 0, 0), 0, 0), (.iconst 1, (0, 0, 0), 1, 0), (.iadd, (0, 0, 0), 0, 0), (.iaload, (0, 0, 0), 0, 0)] (by decide +kernel) rfl ?_
  exact xm_iret (pc := 12) (by decide +kernel) rfl rfl
theorem ev_X4_upperOf (a1 : Int32) (u : xN) : ∀ r, f_X4_upperOf a1 u = some r → xEm md_X4_upperOf yX4_upperOf [.ref 39, .int a1] (xU u) (some (.int r), (xU u)) := xm_met (res := (rsI (xU u))) (as := [.ref 39, .int a1]) (go_X4_upperOf a1 u) (by decide) rfl (Nat.le_of_ble_eq_true rfl)
theorem mw_X4_isMuch : xMv yX4_isMuch cX4_isMuch 3 (some .boolean) 2 := xMv_of (p1 := 1050) (p2 := 1049) (p3 := 97) (p4 := 60) (by decide +kernel)
/-! NeitherBareModel.isMuch(II)Z (39, None, None) -/
abbrev md_X4_isMuch : xMd := (cX4_isMuch, RX4, 3, some .boolean, 3)
def f_X4_isMuch_L19 (N : Nat) (u : xN) (t0 : Int32) : Option Int32 := gdl [isb t0] (some t0)
set_option maxRecDepth 20000 in
theorem go_X4_isMuch_L19 (N : Nat) (u : xN) (t0 : Int32) : xGm md_X4_isMuch (rsI (xU u)) (f_X4_isMuch_L19 N u t0) 19 [] [.int t0] (xU u) := by
  unfold f_X4_isMuch_L19
  exact xm_zret (pc := 19) (by decide +kernel) rfl rfl
def f_X4_isMuch (N : Nat) (a1 : Int32) (a2 : Int32) (u : xN) : Option Int32 := Option.bind (f_X4_valueOf N a1 a2 u) (fun r3 => Option.bind (f_X4_upperOf a2 u) (fun r8 => if r3 < r8 then f_X4_isMuch_L19 N u (0 : Int32) else f_X4_isMuch_L19 N u (1 : Int32)))
set_option maxRecDepth 20000 in
theorem go_X4_isMuch (N : Nat) (a1 : Int32) (a2 : Int32) (u : xN) : xGm md_X4_isMuch (rsI (xU u)) (f_X4_isMuch N a1 a2 u) 0 [(0, .ref 39), (1, .int a1), (2, .int a2)] [] (xU u) := by
  unfold f_X4_isMuch
  refine xm_blk0 (pc' := 3) (lv' := [(0, .ref 39), (1, .int a1), (2, .int a2)]) (st' := [.int a2, .int a1, .ref 39]) (u' := (xU u)) [(.aload_n 0, (0, 0, 0), 0, 0), (.iload_n 1, (0, 0, 0), 0, 0), (.iload_n 2, (0, 0, 0), 0, 0)] (by decide +kernel) rfl ?_
  refine xm_Vi (pc := 3) (mz := md_X4_valueOf) (idx := 157) (p1 := 1028) (a := 39) (as := [.int a1, .int a2]) (st := []) (ev_X4_valueOf N a1 a2 u) mw_X4_valueOf (by decide +kernel) (by decide +kernel) (by decide) rfl rfl (by decide) rfl (Nat.le_of_ble_eq_true rfl) (fun r3 => ?_)
  refine xm_blk0 (pc' := 8) (lv' := [(0, .ref 39), (1, .int a1), (2, .int a2)]) (st' := [.int a2, .ref 39, .int r3]) (u' := (xU u)) [(.aload_n 0, (0, 0, 0), 0, 0), (.iload_n 2, (0, 0, 0), 0, 0)] (by decide +kernel) rfl ?_
  refine xm_Vi (pc := 8) (mz := md_X4_upperOf) (idx := 160) (p1 := 1043) (a := 39) (as := [.int a2]) (st := [.int r3]) (ev_X4_upperOf a2 u) mw_X4_upperOf (by decide +kernel) (by decide +kernel) (by decide) rfl rfl (by decide) rfl (Nat.le_of_ble_eq_true rfl) (fun r8 => ?_)
  refine xm_icmp_lt (pc := 11) (off := 7) (tgt := 18) (by decide +kernel) (by decide) ?_ ?_
  · refine xm_blk0 (pc' := 19) (lv' := [(0, .ref 39), (1, .int a1), (2, .int a2)]) (st' := [.int (0 : Int32)]) (u' := (xU u)) [(.iconst 0, (0, 0, 0), 0, 0)] (by decide +kernel) rfl ?_
    refine xm_wk [] (lv' := []) rfl ?_
    exact go_X4_isMuch_L19 N u (0 : Int32)
  · refine xm_blk0 (pc' := 15) (lv' := [(0, .ref 39), (1, .int a1), (2, .int a2)]) (st' := [.int (1 : Int32)]) (u' := (xU u)) [(.iconst 1, (0, 0, 0), 1, 0)] (by decide +kernel) rfl ?_
    refine xm_goto (pc := 15) (off := 4) (tgt := 19) (by decide +kernel) (by decide) ?_
    refine xm_wk [] (lv' := []) rfl ?_
    exact go_X4_isMuch_L19 N u (1 : Int32)
theorem ev_X4_isMuch (N : Nat) (a1 : Int32) (a2 : Int32) (u : xN) : ∀ r, f_X4_isMuch N a1 a2 u = some r → xEm md_X4_isMuch yX4_isMuch [.ref 39, .int a1, .int a2] (xU u) (some (.int r), (xU u)) := xm_met (res := (rsI (xU u))) (as := [.ref 39, .int a1, .int a2]) (go_X4_isMuch N a1 a2 u) (by decide) rfl (Nat.le_of_ble_eq_true rfl)
theorem mw_X4_lowerOf : xMv yX4_lowerOf cX4_lowerOf 2 (some .int) 1 := xMv_of (p1 := 1042) (p2 := 1041) (p3 := 97) (p4 := 58) (by decide +kernel)
/-! NeitherBareModel.lowerOf(I)I (39, None) -/
abbrev md_X4_lowerOf : xMd := (cX4_lowerOf, RX4, 2, some .int, 1)
def f_X4_lowerOf (a1 : Int32) (u : xN) : Option Int32 := gdl [inb ((2 : Int32) + ((2 : Int32) * a1)) 1480] (some (u.1 40 (Int32.toNatClampNeg ((2 : Int32) + ((2 : Int32) * a1)))))
set_option maxRecDepth 20000 in
theorem go_X4_lowerOf (a1 : Int32) (u : xN) : xGm md_X4_lowerOf (rsI (xU u)) (f_X4_lowerOf a1 u) 0 [(0, .ref 39), (1, .int a1)] [] (xU u) := by
  unfold f_X4_lowerOf
  refine xm_blk (bs := [inb ((2 : Int32) + ((2 : Int32) * a1)) 1480]) (pc' := 10) (lv' := [(0, .ref 39), (1, .int a1)]) (st' := [.int (u.1 40 (Int32.toNatClampNeg ((2 : Int32) + ((2 : Int32) * a1))))]) (u' := (xU u)) [(.aload_n 0, (0, 0, 0), 0, 0), (.getfield 7, (4, 0, 820), 0, 0), (.iconst 2, (0, 0, 0), 2, 0), (.iconst 2, (0, 0, 0), 2, 0), (.iload_n 1, (0, 0, 0), 0, 0), (.imul, (0, 0, 0), 0, 0), (.iadd, (0, 0, 0), 0, 0), (.iaload, (0, 0, 0), 0, 0)] (by decide +kernel) rfl ?_
  exact xm_iret (pc := 10) (by decide +kernel) rfl rfl
theorem ev_X4_lowerOf (a1 : Int32) (u : xN) : ∀ r, f_X4_lowerOf a1 u = some r → xEm md_X4_lowerOf yX4_lowerOf [.ref 39, .int a1] (xU u) (some (.int r), (xU u)) := xm_met (res := (rsI (xU u))) (as := [.ref 39, .int a1]) (go_X4_lowerOf a1 u) (by decide) rfl (Nat.le_of_ble_eq_true rfl)
theorem mw_X4_isBetween : xMv yX4_isBetween cX4_isBetween 3 (some .boolean) 2 := xMv_of (p1 := 1038) (p2 := 1037) (p3 := 97) (p4 := 57) (by decide +kernel)
/-! NeitherBareModel.isBetween(II)Z (39, None, None) -/
abbrev md_X4_isBetween : xMd := (cX4_isBetween, RX4, 3, some .boolean, 2)
def f_X4_isBetween_L23 (u : xN) (t0 : Int32) : Option Int32 := gdl [isb t0] (some t0)
set_option maxRecDepth 20000 in
theorem go_X4_isBetween_L23 (u : xN) (t0 : Int32) : xGm md_X4_isBetween (rsI (xU u)) (f_X4_isBetween_L23 u t0) 23 [] [.int t0] (xU u) := by
  unfold f_X4_isBetween_L23
  exact xm_zret (pc := 23) (by decide +kernel) rfl rfl
def f_X4_isBetween_L22 (u : xN) : Option Int32 := f_X4_isBetween_L23 u (0 : Int32)
set_option maxRecDepth 20000 in
theorem go_X4_isBetween_L22 (u : xN) : xGm md_X4_isBetween (rsI (xU u)) (f_X4_isBetween_L22 u) 22 [] [] (xU u) := by
  unfold f_X4_isBetween_L22
  refine xm_blk0 (pc' := 23) (lv' := []) (st' := [.int (0 : Int32)]) (u' := (xU u)) [(.iconst 0, (0, 0, 0), 0, 0)] (by decide +kernel) rfl ?_
  exact go_X4_isBetween_L23 u (0 : Int32)
def f_X4_isBetween (a1 : Int32) (a2 : Int32) (u : xN) : Option Int32 := Option.bind (f_X4_lowerOf a2 u) (fun r3 => if a1 ≤ r3 then f_X4_isBetween_L22 u else Option.bind (f_X4_upperOf a2 u) (fun r12 => if r12 ≤ a1 then f_X4_isBetween_L22 u else f_X4_isBetween_L23 u (1 : Int32)))
set_option maxRecDepth 20000 in
theorem go_X4_isBetween (a1 : Int32) (a2 : Int32) (u : xN) : xGm md_X4_isBetween (rsI (xU u)) (f_X4_isBetween a1 a2 u) 0 [(0, .ref 39), (1, .int a1), (2, .int a2)] [] (xU u) := by
  unfold f_X4_isBetween
  refine xm_blk0 (pc' := 3) (lv' := [(0, .ref 39), (1, .int a1), (2, .int a2)]) (st' := [.int a2, .ref 39, .int a1]) (u' := (xU u)) [(.iload_n 1, (0, 0, 0), 0, 0), (.aload_n 0, (0, 0, 0), 0, 0), (.iload_n 2, (0, 0, 0), 0, 0)] (by decide +kernel) rfl ?_
  refine xm_Vi (pc := 3) (mz := md_X4_lowerOf) (idx := 163) (p1 := 1039) (a := 39) (as := [.int a2]) (st := [.int a1]) (ev_X4_lowerOf a2 u) mw_X4_lowerOf (by decide +kernel) (by decide +kernel) (by decide) rfl rfl (by decide) rfl (Nat.le_of_ble_eq_true rfl) (fun r3 => ?_)
  refine xm_icmp_le (pc := 6) (off := 16) (tgt := 22) (by decide +kernel) (by decide) ?_ ?_
  · refine xm_wk [] (lv' := []) rfl ?_
    exact go_X4_isBetween_L22 u
  · refine xm_blk0 (pc' := 12) (lv' := [(0, .ref 39), (1, .int a1), (2, .int a2)]) (st' := [.int a2, .ref 39, .int a1]) (u' := (xU u)) [(.iload_n 1, (0, 0, 0), 0, 0), (.aload_n 0, (0, 0, 0), 0, 0), (.iload_n 2, (0, 0, 0), 0, 0)] (by decide +kernel) rfl ?_
    refine xm_Vi (pc := 12) (mz := md_X4_upperOf) (idx := 160) (p1 := 1043) (a := 39) (as := [.int a2]) (st := [.int a1]) (ev_X4_upperOf a2 u) mw_X4_upperOf (by decide +kernel) (by decide +kernel) (by decide) rfl rfl (by decide) rfl (Nat.le_of_ble_eq_true rfl) (fun r12 => ?_)
    refine xm_icmp_ge (pc := 15) (off := 7) (tgt := 22) (by decide +kernel) (by decide) ?_ ?_
    · refine xm_wk [] (lv' := []) rfl ?_
      exact go_X4_isBetween_L22 u
    · refine xm_blk0 (pc' := 19) (lv' := [(0, .ref 39), (1, .int a1), (2, .int a2)]) (st' := [.int (1 : Int32)]) (u' := (xU u)) [(.iconst 1, (0, 0, 0), 1, 0)] (by decide +kernel) rfl ?_
      refine xm_goto (pc := 19) (off := 4) (tgt := 23) (by decide +kernel) (by decide) ?_
      refine xm_wk [] (lv' := []) rfl ?_
      exact go_X4_isBetween_L23 u (1 : Int32)
theorem ev_X4_isBetween (a1 : Int32) (a2 : Int32) (u : xN) : ∀ r, f_X4_isBetween a1 a2 u = some r → xEm md_X4_isBetween yX4_isBetween [.ref 39, .int a1, .int a2] (xU u) (some (.int r), (xU u)) := xm_met (res := (rsI (xU u))) (as := [.ref 39, .int a1, .int a2]) (go_X4_isBetween a1 a2 u) (by decide) rfl (Nat.le_of_ble_eq_true rfl)
theorem mw_X4_half : xMv yX4_half cX4_half 2 (some .int) 1 := xMv_of (p1 := 1054) (p2 := 1053) (p3 := 97) (p4 := 61) (by decide +kernel)
/-! NeitherBareModel.half(I)I (39, None) -/
abbrev md_X4_half : xMd := (cX4_half, RX4, 2, some .int, 2)
def f_X4_half (a1 : Int32) (u : xN) : Option Int32 := Option.bind (f_X4_lowerOf a1 u) (fun r2 => Option.bind (f_X4_upperOf a1 u) (fun r7 => gdl [nzi (2 : Int32)] (some ((r2 + r7) / (2 : Int32)))))
set_option maxRecDepth 20000 in
theorem go_X4_half (a1 : Int32) (u : xN) : xGm md_X4_half (rsI (xU u)) (f_X4_half a1 u) 0 [(0, .ref 39), (1, .int a1)] [] (xU u) := by
  unfold f_X4_half
  refine xm_blk0 (pc' := 2) (lv' := [(0, .ref 39), (1, .int a1)]) (st' := [.int a1, .ref 39]) (u' := (xU u)) [(.aload_n 0, (0, 0, 0), 0, 0), (.iload_n 1, (0, 0, 0), 0, 0)] (by decide +kernel) rfl ?_
  refine xm_Vi (pc := 2) (mz := md_X4_lowerOf) (idx := 163) (p1 := 1039) (a := 39) (as := [.int a1]) (st := []) (ev_X4_lowerOf a1 u) mw_X4_lowerOf (by decide +kernel) (by decide +kernel) (by decide) rfl rfl (by decide) rfl (Nat.le_of_ble_eq_true rfl) (fun r2 => ?_)
  refine xm_blk0 (pc' := 7) (lv' := [(0, .ref 39), (1, .int a1)]) (st' := [.int a1, .ref 39, .int r2]) (u' := (xU u)) [(.aload_n 0, (0, 0, 0), 0, 0), (.iload_n 1, (0, 0, 0), 0, 0)] (by decide +kernel) rfl ?_
  refine xm_Vi (pc := 7) (mz := md_X4_upperOf) (idx := 160) (p1 := 1043) (a := 39) (as := [.int a1]) (st := [.int r2]) (ev_X4_upperOf a1 u) mw_X4_upperOf (by decide +kernel) (by decide +kernel) (by decide) rfl rfl (by decide) rfl (Nat.le_of_ble_eq_true rfl) (fun r7 => ?_)
  refine xm_blk (bs := [nzi (2 : Int32)]) (pc' := 13) (lv' := [(0, .ref 39), (1, .int a1)]) (st' := [.int ((r2 + r7) / (2 : Int32))]) (u' := (xU u)) [(.iadd, (0, 0, 0), 0, 0), (.iconst 2, (0, 0, 0), 2, 0), (.idiv, (0, 0, 0), 0, 0)] (by decide +kernel) rfl ?_
  exact xm_iret (pc := 13) (by decide +kernel) rfl rfl
theorem ev_X4_half (a1 : Int32) (u : xN) : ∀ r, f_X4_half a1 u = some r → xEm md_X4_half yX4_half [.ref 39, .int a1] (xU u) (some (.int r), (xU u)) := xm_met (res := (rsI (xU u))) (as := [.ref 39, .int a1]) (go_X4_half a1 u) (by decide) rfl (Nat.le_of_ble_eq_true rfl)
theorem mw_X4_isLittle : xMv yX4_isLittle cX4_isLittle 3 (some .boolean) 2 := xMv_of (p1 := 1058) (p2 := 1057) (p3 := 97) (p4 := 62) (by decide +kernel)
/-! NeitherBareModel.isLittle(II)Z (39, None, None) -/
abbrev md_X4_isLittle : xMd := (cX4_isLittle, RX4, 3, some .boolean, 3)
def f_X4_isLittle_L19 (N : Nat) (u : xN) (t0 : Int32) : Option Int32 := gdl [isb t0] (some t0)
set_option maxRecDepth 20000 in
theorem go_X4_isLittle_L19 (N : Nat) (u : xN) (t0 : Int32) : xGm md_X4_isLittle (rsI (xU u)) (f_X4_isLittle_L19 N u t0) 19 [] [.int t0] (xU u) := by
  unfold f_X4_isLittle_L19
  exact xm_zret (pc := 19) (by decide +kernel) rfl rfl
def f_X4_isLittle (N : Nat) (a1 : Int32) (a2 : Int32) (u : xN) : Option Int32 := Option.bind (f_X4_valueOf N a1 a2 u) (fun r3 => Option.bind (f_X4_lowerOf a2 u) (fun r8 => if r8 < r3 then f_X4_isLittle_L19 N u (0 : Int32) else f_X4_isLittle_L19 N u (1 : Int32)))
set_option maxRecDepth 20000 in
theorem go_X4_isLittle (N : Nat) (a1 : Int32) (a2 : Int32) (u : xN) : xGm md_X4_isLittle (rsI (xU u)) (f_X4_isLittle N a1 a2 u) 0 [(0, .ref 39), (1, .int a1), (2, .int a2)] [] (xU u) := by
  unfold f_X4_isLittle
  refine xm_blk0 (pc' := 3) (lv' := [(0, .ref 39), (1, .int a1), (2, .int a2)]) (st' := [.int a2, .int a1, .ref 39]) (u' := (xU u)) [(.aload_n 0, (0, 0, 0), 0, 0), (.iload_n 1, (0, 0, 0), 0, 0), (.iload_n 2, (0, 0, 0), 0, 0)] (by decide +kernel) rfl ?_
  refine xm_Vi (pc := 3) (mz := md_X4_valueOf) (idx := 157) (p1 := 1028) (a := 39) (as := [.int a1, .int a2]) (st := []) (ev_X4_valueOf N a1 a2 u) mw_X4_valueOf (by decide +kernel) (by decide +kernel) (by decide) rfl rfl (by decide) rfl (Nat.le_of_ble_eq_true rfl) (fun r3 => ?_)
  refine xm_blk0 (pc' := 8) (lv' := [(0, .ref 39), (1, .int a1), (2, .int a2)]) (st' := [.int a2, .ref 39, .int r3]) (u' := (xU u)) [(.aload_n 0, (0, 0, 0), 0, 0), (.iload_n 2, (0, 0, 0), 0, 0)] (by decide +kernel) rfl ?_
  refine xm_Vi (pc := 8) (mz := md_X4_lowerOf) (idx := 163) (p1 := 1039) (a := 39) (as := [.int a2]) (st := [.int r3]) (ev_X4_lowerOf a2 u) mw_X4_lowerOf (by decide +kernel) (by decide +kernel) (by decide) rfl rfl (by decide) rfl (Nat.le_of_ble_eq_true rfl) (fun r8 => ?_)
  refine xm_icmp_gt (pc := 11) (off := 7) (tgt := 18) (by decide +kernel) (by decide) ?_ ?_
  · refine xm_blk0 (pc' := 19) (lv' := [(0, .ref 39), (1, .int a1), (2, .int a2)]) (st' := [.int (0 : Int32)]) (u' := (xU u)) [(.iconst 0, (0, 0, 0), 0, 0)] (by decide +kernel) rfl ?_
    refine xm_wk [] (lv' := []) rfl ?_
    exact go_X4_isLittle_L19 N u (0 : Int32)
  · refine xm_blk0 (pc' := 15) (lv' := [(0, .ref 39), (1, .int a1), (2, .int a2)]) (st' := [.int (1 : Int32)]) (u' := (xU u)) [(.iconst 1, (0, 0, 0), 1, 0)] (by decide +kernel) rfl ?_
    refine xm_goto (pc := 15) (off := 4) (tgt := 19) (by decide +kernel) (by decide) ?_
    refine xm_wk [] (lv' := []) rfl ?_
    exact go_X4_isLittle_L19 N u (1 : Int32)
theorem ev_X4_isLittle (N : Nat) (a1 : Int32) (a2 : Int32) (u : xN) : ∀ r, f_X4_isLittle N a1 a2 u = some r → xEm md_X4_isLittle yX4_isLittle [.ref 39, .int a1, .int a2] (xU u) (some (.int r), (xU u)) := xm_met (res := (rsI (xU u))) (as := [.ref 39, .int a1, .int a2]) (go_X4_isLittle N a1 a2 u) (by decide) rfl (Nat.le_of_ble_eq_true rfl)
theorem mw_X4_holdsOf : xMv yX4_holdsOf cX4_holdsOf 5 (some .boolean) 4 := xMv_of (p1 := 1027) (p2 := 1026) (p3 := 97) (p4 := 55) (by decide +kernel)
/-! NeitherBareModel.holdsOf(IIII)Z (39, None, None, None, None) -/
abbrev md_X4_holdsOf : xMd := (cX4_holdsOf, RX4, 5, some .boolean, 4)
def f_X4_holdsOf_L74 (N : Nat) (u : xN) (t0 : Int32) : Option Int32 := gdl [isb t0] (some t0)
set_option maxRecDepth 20000 in
theorem go_X4_holdsOf_L74 (N : Nat) (u : xN) (t0 : Int32) : xGm md_X4_holdsOf (rsI (xU u)) (f_X4_holdsOf_L74 N u t0) 74 [] [.int t0] (xU u) := by
  unfold f_X4_holdsOf_L74
  exact xm_zret (pc := 74) (by decide +kernel) rfl rfl
def f_X4_holdsOf_L73 (N : Nat) (u : xN) : Option Int32 := f_X4_holdsOf_L74 N u (0 : Int32)
set_option maxRecDepth 20000 in
theorem go_X4_holdsOf_L73 (N : Nat) (u : xN) : xGm md_X4_holdsOf (rsI (xU u)) (f_X4_holdsOf_L73 N u) 73 [] [] (xU u) := by
  unfold f_X4_holdsOf_L73
  refine xm_blk0 (pc' := 74) (lv' := []) (st' := [.int (0 : Int32)]) (u' := (xU u)) [(.iconst 0, (0, 0, 0), 0, 0)] (by decide +kernel) rfl ?_
  exact go_X4_holdsOf_L74 N u (0 : Int32)
def f_X4_holdsOf_L90 (N : Nat) (u : xN) (t0 : Int32) : Option Int32 := gdl [isb t0] (some t0)
set_option maxRecDepth 20000 in
theorem go_X4_holdsOf_L90 (N : Nat) (u : xN) (t0 : Int32) : xGm md_X4_holdsOf (rsI (xU u)) (f_X4_holdsOf_L90 N u t0) 90 [] [.int t0] (xU u) := by
  unfold f_X4_holdsOf_L90
  exact xm_zret (pc := 90) (by decide +kernel) rfl rfl
def f_X4_holdsOf_L124 (N : Nat) (u : xN) (t0 : Int32) : Option Int32 := gdl [isb t0] (some t0)
set_option maxRecDepth 20000 in
theorem go_X4_holdsOf_L124 (N : Nat) (u : xN) (t0 : Int32) : xGm md_X4_holdsOf (rsI (xU u)) (f_X4_holdsOf_L124 N u t0) 124 [] [.int t0] (xU u) := by
  unfold f_X4_holdsOf_L124
  exact xm_zret (pc := 124) (by decide +kernel) rfl rfl
def f_X4_holdsOf_L123 (N : Nat) (u : xN) : Option Int32 := f_X4_holdsOf_L124 N u (0 : Int32)
set_option maxRecDepth 20000 in
theorem go_X4_holdsOf_L123 (N : Nat) (u : xN) : xGm md_X4_holdsOf (rsI (xU u)) (f_X4_holdsOf_L123 N u) 123 [] [] (xU u) := by
  unfold f_X4_holdsOf_L123
  refine xm_blk0 (pc' := 124) (lv' := []) (st' := [.int (0 : Int32)]) (u' := (xU u)) [(.iconst 0, (0, 0, 0), 0, 0)] (by decide +kernel) rfl ?_
  exact go_X4_holdsOf_L124 N u (0 : Int32)
def f_X4_holdsOf_L150 (N : Nat) (u : xN) (t0 : Int32) : Option Int32 := gdl [isb t0] (some t0)
set_option maxRecDepth 20000 in
theorem go_X4_holdsOf_L150 (N : Nat) (u : xN) (t0 : Int32) : xGm md_X4_holdsOf (rsI (xU u)) (f_X4_holdsOf_L150 N u t0) 150 [] [.int t0] (xU u) := by
  unfold f_X4_holdsOf_L150
  exact xm_zret (pc := 150) (by decide +kernel) rfl rfl
def f_X4_holdsOf_L149 (N : Nat) (u : xN) : Option Int32 := f_X4_holdsOf_L150 N u (0 : Int32)
set_option maxRecDepth 20000 in
theorem go_X4_holdsOf_L149 (N : Nat) (u : xN) : xGm md_X4_holdsOf (rsI (xU u)) (f_X4_holdsOf_L149 N u) 149 [] [] (xU u) := by
  unfold f_X4_holdsOf_L149
  refine xm_blk0 (pc' := 150) (lv' := []) (st' := [.int (0 : Int32)]) (u' := (xU u)) [(.iconst 0, (0, 0, 0), 0, 0)] (by decide +kernel) rfl ?_
  exact go_X4_holdsOf_L150 N u (0 : Int32)
def f_X4_holdsOf (N : Nat) (a1 : Int32) (a2 : Int32) (a3 : Int32) (a4 : Int32) (u : xN) : Option Int32 := if Int32.toInt a1 < 1 ∨ 5 < Int32.toInt a1 then (Option.bind (f_X4_isMuch N a4 a2 u) (fun r155 => gdl [isb r155] (some r155))) else if a1 = (1 : Int32) then (Option.bind (f_X4_valueOf N a4 a2 u) (fun r41 => Option.bind (f_X4_isBetween r41 a2 u) (fun r45 => gdl [isb r45] (some r45)))) else if a1 = (2 : Int32) then (Option.bind (f_X4_isMuch N a4 a2 u) (fun r53 => if r53 = (0 : Int32) then f_X4_holdsOf_L73 N u else Option.bind (f_X4_isMuch N a4 a3 u) (fun r63 => if r63 = (0 : Int32) then f_X4_holdsOf_L73 N u else f_X4_holdsOf_L74 N u (1 : Int32)))) else if a1 = (3 : Int32) then (Option.bind (f_X4_isMuch N a4 a2 u) (fun r79 => if r79 = (0 : Int32) then f_X4_holdsOf_L90 N u (1 : Int32) else f_X4_holdsOf_L90 N u (0 : Int32))) else if a1 = (4 : Int32) then (Option.bind (f_X4_valueOf N a4 a2 u) (fun r95 => Option.bind (f_X4_half a2 u) (fun r100 => if r95 = r100 then Option.bind (f_X4_half a2 u) (fun r109 => Option.bind (f_X4_isBetween r109 a2 u) (fun r113 => if r113 = (0 : Int32) then f_X4_holdsOf_L123 N u else f_X4_holdsOf_L124 N u (1 : Int32))) else f_X4_holdsOf_L123 N u))) else if a1 = (5 : Int32) then (Option.bind (f_X4_isMuch N a4 a2 u) (fun r129 => if r129 = (0 : Int32) then f_X4_holdsOf_L149 N u else Option.bind (f_X4_isLittle N a4 a3 u) (fun r139 => if r139 = (0 : Int32) then f_X4_holdsOf_L149 N u else f_X4_holdsOf_L150 N u (1 : Int32)))) else none
set_option maxRecDepth 20000 in
theorem go_X4_holdsOf (N : Nat) (a1 : Int32) (a2 : Int32) (a3 : Int32) (a4 : Int32) (u : xN) : xGm md_X4_holdsOf (rsI (xU u)) (f_X4_holdsOf N a1 a2 a3 a4 u) 0 [(0, .ref 39), (1, .int a1), (2, .int a2), (3, .int a3), (4, .int a4)] [] (xU u) := by
  unfold f_X4_holdsOf
  refine xm_blk0 (pc' := 1) (lv' := [(0, .ref 39), (1, .int a1), (2, .int a2), (3, .int a3), (4, .int a4)]) (st' := [.int a1]) (u' := (xU u)) [(.iload_n 1, (0, 0, 0), 0, 0)] (by decide +kernel) rfl ?_
  refine xm_tout (pc := 1) (tgt := 151) (dflt := 150) (lo := 1) (hi := 5) (offs := #[35, 48, 74, 90, 124]) (len := 35) (by decide +kernel) (by decide) ?_ ?_
  · refine xm_blk0 (pc' := 155) (lv' := [(0, .ref 39), (1, .int a1), (2, .int a2), (3, .int a3), (4, .int a4)]) (st' := [.int a2, .int a4, .ref 39]) (u' := (xU u)) [(.aload_n 0, (0, 0, 0), 0, 0), (.iload 4, (0, 0, 0), 0, 0), (.iload_n 2, (0, 0, 0), 0, 0)] (by decide +kernel) rfl ?_
    refine xm_Vi (pc := 155) (mz := md_X4_isMuch) (idx := 169) (p1 := 1047) (a := 39) (as := [.int a4, .int a2]) (st := []) (ev_X4_isMuch N a4 a2 u) mw_X4_isMuch (by decide +kernel) (by decide +kernel) (by decide) rfl rfl (by decide) rfl (Nat.le_of_ble_eq_true rfl) (fun r155 => ?_)
    exact xm_zret (pc := 158) (by decide +kernel) rfl rfl
  · refine xm_tin (pc := 1) (tgt := 36) (off := 35) (dflt := 150) (lo := 1) (hi := 5) (offs := #[35, 48, 74, 90, 124]) (len := 35) (1 : Int32) (by decide +kernel) (by decide) (by decide) (by decide) (by decide) ?_ ?_
    · refine xm_blk0 (pc' := 41) (lv' := [(0, .ref 39), (1, .int a1), (2, .int a2), (3, .int a3), (4, .int a4)]) (st' := [.int a2, .int a4, .ref 39, .ref 39]) (u' := (xU u)) [(.aload_n 0, (0, 0, 0), 0, 0), (.aload_n 0, (0, 0, 0), 0, 0), (.iload 4, (0, 0, 0), 0, 0), (.iload_n 2, (0, 0, 0), 0, 0)] (by decide +kernel) rfl ?_
      refine xm_Vi (pc := 41) (mz := md_X4_valueOf) (idx := 157) (p1 := 1028) (a := 39) (as := [.int a4, .int a2]) (st := [.ref 39]) (ev_X4_valueOf N a4 a2 u) mw_X4_valueOf (by decide +kernel) (by decide +kernel) (by decide) rfl rfl (by decide) rfl (Nat.le_of_ble_eq_true rfl) (fun r41 => ?_)
      refine xm_blk0 (pc' := 45) (lv' := [(0, .ref 39), (1, .int a1), (2, .int a2), (3, .int a3), (4, .int a4)]) (st' := [.int a2, .int r41, .ref 39]) (u' := (xU u)) [(.iload_n 2, (0, 0, 0), 0, 0)] (by decide +kernel) rfl ?_
      refine xm_Vi (pc := 45) (mz := md_X4_isBetween) (idx := 166) (p1 := 1035) (a := 39) (as := [.int r41, .int a2]) (st := []) (ev_X4_isBetween r41 a2 u) mw_X4_isBetween (by decide +kernel) (by decide +kernel) (by decide) rfl rfl (by decide) rfl (Nat.le_of_ble_eq_true rfl) (fun r45 => ?_)
      exact xm_zret (pc := 48) (by decide +kernel) rfl rfl
    refine xm_tin (pc := 1) (tgt := 49) (off := 48) (dflt := 150) (lo := 1) (hi := 5) (offs := #[35, 48, 74, 90, 124]) (len := 35) (2 : Int32) (by decide +kernel) (by decide) (by decide) (by decide) (by decide) ?_ ?_
    · refine xm_blk0 (pc' := 53) (lv' := [(0, .ref 39), (1, .int a1), (2, .int a2), (3, .int a3), (4, .int a4)]) (st' := [.int a2, .int a4, .ref 39]) (u' := (xU u)) [(.aload_n 0, (0, 0, 0), 0, 0), (.iload 4, (0, 0, 0), 0, 0), (.iload_n 2, (0, 0, 0), 0, 0)] (by decide +kernel) rfl ?_
      refine xm_Vi (pc := 53) (mz := md_X4_isMuch) (idx := 169) (p1 := 1047) (a := 39) (as := [.int a4, .int a2]) (st := []) (ev_X4_isMuch N a4 a2 u) mw_X4_isMuch (by decide +kernel) (by decide +kernel) (by decide) rfl rfl (by decide) rfl (Nat.le_of_ble_eq_true rfl) (fun r53 => ?_)
      refine xm_if_eq (pc := 56) (off := 17) (tgt := 73) (by decide +kernel) (by decide) ?_ ?_
      · refine xm_wk [] (lv' := []) rfl ?_
        exact go_X4_holdsOf_L73 N u
      · refine xm_blk0 (pc' := 63) (lv' := [(0, .ref 39), (1, .int a1), (2, .int a2), (3, .int a3), (4, .int a4)]) (st' := [.int a3, .int a4, .ref 39]) (u' := (xU u)) [(.aload_n 0, (0, 0, 0), 0, 0), (.iload 4, (0, 0, 0), 0, 0), (.iload_n 3, (0, 0, 0), 0, 0)] (by decide +kernel) rfl ?_
        refine xm_Vi (pc := 63) (mz := md_X4_isMuch) (idx := 169) (p1 := 1047) (a := 39) (as := [.int a4, .int a3]) (st := []) (ev_X4_isMuch N a4 a3 u) mw_X4_isMuch (by decide +kernel) (by decide +kernel) (by decide) rfl rfl (by decide) rfl (Nat.le_of_ble_eq_true rfl) (fun r63 => ?_)
        refine xm_if_eq (pc := 66) (off := 7) (tgt := 73) (by decide +kernel) (by decide) ?_ ?_
        · refine xm_wk [] (lv' := []) rfl ?_
          exact go_X4_holdsOf_L73 N u
        · refine xm_blk0 (pc' := 70) (lv' := [(0, .ref 39), (1, .int a1), (2, .int a2), (3, .int a3), (4, .int a4)]) (st' := [.int (1 : Int32)]) (u' := (xU u)) [(.iconst 1, (0, 0, 0), 1, 0)] (by decide +kernel) rfl ?_
          refine xm_goto (pc := 70) (off := 4) (tgt := 74) (by decide +kernel) (by decide) ?_
          refine xm_wk [] (lv' := []) rfl ?_
          exact go_X4_holdsOf_L74 N u (1 : Int32)
    refine xm_tin (pc := 1) (tgt := 75) (off := 74) (dflt := 150) (lo := 1) (hi := 5) (offs := #[35, 48, 74, 90, 124]) (len := 35) (3 : Int32) (by decide +kernel) (by decide) (by decide) (by decide) (by decide) ?_ ?_
    · refine xm_blk0 (pc' := 79) (lv' := [(0, .ref 39), (1, .int a1), (2, .int a2), (3, .int a3), (4, .int a4)]) (st' := [.int a2, .int a4, .ref 39]) (u' := (xU u)) [(.aload_n 0, (0, 0, 0), 0, 0), (.iload 4, (0, 0, 0), 0, 0), (.iload_n 2, (0, 0, 0), 0, 0)] (by decide +kernel) rfl ?_
      refine xm_Vi (pc := 79) (mz := md_X4_isMuch) (idx := 169) (p1 := 1047) (a := 39) (as := [.int a4, .int a2]) (st := []) (ev_X4_isMuch N a4 a2 u) mw_X4_isMuch (by decide +kernel) (by decide +kernel) (by decide) rfl rfl (by decide) rfl (Nat.le_of_ble_eq_true rfl) (fun r79 => ?_)
      refine xm_if_ne (pc := 82) (off := 7) (tgt := 89) (by decide +kernel) (by decide) ?_ ?_
      · refine xm_blk0 (pc' := 90) (lv' := [(0, .ref 39), (1, .int a1), (2, .int a2), (3, .int a3), (4, .int a4)]) (st' := [.int (0 : Int32)]) (u' := (xU u)) [(.iconst 0, (0, 0, 0), 0, 0)] (by decide +kernel) rfl ?_
        refine xm_wk [] (lv' := []) rfl ?_
        exact go_X4_holdsOf_L90 N u (0 : Int32)
      · refine xm_blk0 (pc' := 86) (lv' := [(0, .ref 39), (1, .int a1), (2, .int a2), (3, .int a3), (4, .int a4)]) (st' := [.int (1 : Int32)]) (u' := (xU u)) [(.iconst 1, (0, 0, 0), 1, 0)] (by decide +kernel) rfl ?_
        refine xm_goto (pc := 86) (off := 4) (tgt := 90) (by decide +kernel) (by decide) ?_
        refine xm_wk [] (lv' := []) rfl ?_
        exact go_X4_holdsOf_L90 N u (1 : Int32)
    refine xm_tin (pc := 1) (tgt := 91) (off := 90) (dflt := 150) (lo := 1) (hi := 5) (offs := #[35, 48, 74, 90, 124]) (len := 35) (4 : Int32) (by decide +kernel) (by decide) (by decide) (by decide) (by decide) ?_ ?_
    · refine xm_blk0 (pc' := 95) (lv' := [(0, .ref 39), (1, .int a1), (2, .int a2), (3, .int a3), (4, .int a4)]) (st' := [.int a2, .int a4, .ref 39]) (u' := (xU u)) [(.aload_n 0, (0, 0, 0), 0, 0), (.iload 4, (0, 0, 0), 0, 0), (.iload_n 2, (0, 0, 0), 0, 0)] (by decide +kernel) rfl ?_
      refine xm_Vi (pc := 95) (mz := md_X4_valueOf) (idx := 157) (p1 := 1028) (a := 39) (as := [.int a4, .int a2]) (st := []) (ev_X4_valueOf N a4 a2 u) mw_X4_valueOf (by decide +kernel) (by decide +kernel) (by decide) rfl rfl (by decide) rfl (Nat.le_of_ble_eq_true rfl) (fun r95 => ?_)
      refine xm_blk0 (pc' := 100) (lv' := [(0, .ref 39), (1, .int a1), (2, .int a2), (3, .int a3), (4, .int a4)]) (st' := [.int a2, .ref 39, .int r95]) (u' := (xU u)) [(.aload_n 0, (0, 0, 0), 0, 0), (.iload_n 2, (0, 0, 0), 0, 0)] (by decide +kernel) rfl ?_
      refine xm_Vi (pc := 100) (mz := md_X4_half) (idx := 172) (p1 := 1051) (a := 39) (as := [.int a2]) (st := [.int r95]) (ev_X4_half a2 u) mw_X4_half (by decide +kernel) (by decide +kernel) (by decide) rfl rfl (by decide) rfl (Nat.le_of_ble_eq_true rfl) (fun r100 => ?_)
      refine xm_icmp_ne (pc := 103) (off := 20) (tgt := 123) (by decide +kernel) (by decide) ?_ ?_
      · refine xm_wk [] (lv' := []) rfl ?_
        exact go_X4_holdsOf_L123 N u
      · refine xm_blk0 (pc' := 109) (lv' := [(0, .ref 39), (1, .int a1), (2, .int a2), (3, .int a3), (4, .int a4)]) (st' := [.int a2, .ref 39, .ref 39]) (u' := (xU u)) [(.aload_n 0, (0, 0, 0), 0, 0), (.aload_n 0, (0, 0, 0), 0, 0), (.iload_n 2, (0, 0, 0), 0, 0)] (by decide +kernel) rfl ?_
        refine xm_Vi (pc := 109) (mz := md_X4_half) (idx := 172) (p1 := 1051) (a := 39) (as := [.int a2]) (st := [.ref 39]) (ev_X4_half a2 u) mw_X4_half (by decide +kernel) (by decide +kernel) (by decide) rfl rfl (by decide) rfl (Nat.le_of_ble_eq_true rfl) (fun r109 => ?_)
        refine xm_blk0 (pc' := 113) (lv' := [(0, .ref 39), (1, .int a1), (2, .int a2), (3, .int a3), (4, .int a4)]) (st' := [.int a2, .int r109, .ref 39]) (u' := (xU u)) [(.iload_n 2, (0, 0, 0), 0, 0)] (by decide +kernel) rfl ?_
        refine xm_Vi (pc := 113) (mz := md_X4_isBetween) (idx := 166) (p1 := 1035) (a := 39) (as := [.int r109, .int a2]) (st := []) (ev_X4_isBetween r109 a2 u) mw_X4_isBetween (by decide +kernel) (by decide +kernel) (by decide) rfl rfl (by decide) rfl (Nat.le_of_ble_eq_true rfl) (fun r113 => ?_)
        refine xm_if_eq (pc := 116) (off := 7) (tgt := 123) (by decide +kernel) (by decide) ?_ ?_
        · refine xm_wk [] (lv' := []) rfl ?_
          exact go_X4_holdsOf_L123 N u
        · refine xm_blk0 (pc' := 120) (lv' := [(0, .ref 39), (1, .int a1), (2, .int a2), (3, .int a3), (4, .int a4)]) (st' := [.int (1 : Int32)]) (u' := (xU u)) [(.iconst 1, (0, 0, 0), 1, 0)] (by decide +kernel) rfl ?_
          refine xm_goto (pc := 120) (off := 4) (tgt := 124) (by decide +kernel) (by decide) ?_
          refine xm_wk [] (lv' := []) rfl ?_
          exact go_X4_holdsOf_L124 N u (1 : Int32)
    refine xm_tin (pc := 1) (tgt := 125) (off := 124) (dflt := 150) (lo := 1) (hi := 5) (offs := #[35, 48, 74, 90, 124]) (len := 35) (5 : Int32) (by decide +kernel) (by decide) (by decide) (by decide) (by decide) ?_ ?_
    · refine xm_blk0 (pc' := 129) (lv' := [(0, .ref 39), (1, .int a1), (2, .int a2), (3, .int a3), (4, .int a4)]) (st' := [.int a2, .int a4, .ref 39]) (u' := (xU u)) [(.aload_n 0, (0, 0, 0), 0, 0), (.iload 4, (0, 0, 0), 0, 0), (.iload_n 2, (0, 0, 0), 0, 0)] (by decide +kernel) rfl ?_
      refine xm_Vi (pc := 129) (mz := md_X4_isMuch) (idx := 169) (p1 := 1047) (a := 39) (as := [.int a4, .int a2]) (st := []) (ev_X4_isMuch N a4 a2 u) mw_X4_isMuch (by decide +kernel) (by decide +kernel) (by decide) rfl rfl (by decide) rfl (Nat.le_of_ble_eq_true rfl) (fun r129 => ?_)
      refine xm_if_eq (pc := 132) (off := 17) (tgt := 149) (by decide +kernel) (by decide) ?_ ?_
      · refine xm_wk [] (lv' := []) rfl ?_
        exact go_X4_holdsOf_L149 N u
      · refine xm_blk0 (pc' := 139) (lv' := [(0, .ref 39), (1, .int a1), (2, .int a2), (3, .int a3), (4, .int a4)]) (st' := [.int a3, .int a4, .ref 39]) (u' := (xU u)) [(.aload_n 0, (0, 0, 0), 0, 0), (.iload 4, (0, 0, 0), 0, 0), (.iload_n 3, (0, 0, 0), 0, 0)] (by decide +kernel) rfl ?_
        refine xm_Vi (pc := 139) (mz := md_X4_isLittle) (idx := 175) (p1 := 1055) (a := 39) (as := [.int a4, .int a3]) (st := []) (ev_X4_isLittle N a4 a3 u) mw_X4_isLittle (by decide +kernel) (by decide +kernel) (by decide) rfl rfl (by decide) rfl (Nat.le_of_ble_eq_true rfl) (fun r139 => ?_)
        refine xm_if_eq (pc := 142) (off := 7) (tgt := 149) (by decide +kernel) (by decide) ?_ ?_
        · refine xm_wk [] (lv' := []) rfl ?_
          exact go_X4_holdsOf_L149 N u
        · refine xm_blk0 (pc' := 146) (lv' := [(0, .ref 39), (1, .int a1), (2, .int a2), (3, .int a3), (4, .int a4)]) (st' := [.int (1 : Int32)]) (u' := (xU u)) [(.iconst 1, (0, 0, 0), 1, 0)] (by decide +kernel) rfl ?_
          refine xm_goto (pc := 146) (off := 4) (tgt := 150) (by decide +kernel) (by decide) ?_
          refine xm_wk [] (lv' := []) rfl ?_
          exact go_X4_holdsOf_L150 N u (1 : Int32)
    exact xm_none
theorem ev_X4_holdsOf (N : Nat) (a1 : Int32) (a2 : Int32) (a3 : Int32) (a4 : Int32) (u : xN) : ∀ r, f_X4_holdsOf N a1 a2 a3 a4 u = some r → xEm md_X4_holdsOf yX4_holdsOf [.ref 39, .int a1, .int a2, .int a3, .int a4] (xU u) (some (.int r), (xU u)) := xm_met (res := (rsI (xU u))) (as := [.ref 39, .int a1, .int a2, .int a3, .int a4]) (go_X4_holdsOf N a1 a2 a3 a4 u) (by decide) rfl (Nat.le_of_ble_eq_true rfl)
theorem mw_X4_heldMany : xMv yX4_heldMany cX4_heldMany 6 (some .int) 3 := xMv_of (p1 := 1019) (p2 := 1018) (p3 := 97) (p4 := 53) (by decide +kernel)
/-! NeitherBareModel.heldMany(III)I (39, None, None, None) -/
abbrev md_X4_heldMany : xMd := (cX4_heldMany, RX4, 6, some .int, 5)
def f_X4_heldMany_L34 (N : Nat) (u : xN) (rec6 : Int32 → Int32 → Int32 → Int32 → Int32 → Option Int32) (v1 : Int32) (v2 : Int32) (v3 : Int32) (v5 : Int32) (t0 : Int32) (t1 : Int32) : Option Int32 := rec6 v1 v2 v3 (t1 + t0) (v5 + (1 : Int32))
set_option maxRecDepth 20000 in
theorem go_X4_heldMany_L34 (N : Nat) (u : xN) (rec6 : Int32 → Int32 → Int32 → Int32 → Int32 → Option Int32) (h6 : ∀ (v1 : Int32) (v2 : Int32) (v3 : Int32) (v4 : Int32) (v5 : Int32), xGm md_X4_heldMany (rsI (xU u)) (rec6 v1 v2 v3 v4 v5) 6 [(0, .ref 39), (1, .int v1), (2, .int v2), (3, .int v3), (4, .int v4), (5, .int v5)] [] (xU u)) (v1 : Int32) (v2 : Int32) (v3 : Int32) (v5 : Int32) (t0 : Int32) (t1 : Int32) : xGm md_X4_heldMany (rsI (xU u)) (f_X4_heldMany_L34 N u rec6 v1 v2 v3 v5 t0 t1) 34 [(0, .ref 39), (1, .int v1), (2, .int v2), (3, .int v3), (5, .int v5)] [.int t0, .int t1] (xU u) := by
  unfold f_X4_heldMany_L34
  refine xm_blk0 (pc' := 40) (lv' := [(0, .ref 39), (1, .int v1), (2, .int v2), (3, .int v3), (4, .int (t1 + t0)), (5, .int (v5 + (1 : Int32)))]) (st' := []) (u' := (xU u)) [(.iadd, (0, 0, 0), 0, 0), (.istore 4, (0, 0, 0), 0, 0), (.iinc 5 1, (0, 0, 0), 1, 0)] (by decide +kernel) rfl ?_
  refine xm_goto (pc := 40) (off := -34) (tgt := 6) (by decide +kernel) (by decide) ?_
  exact h6 v1 v2 v3 (t1 + t0) (v5 + (1 : Int32))
def f_X4_heldMany_L6b (N : Nat) (u : xN) (rec6 : Int32 → Int32 → Int32 → Int32 → Int32 → Option Int32) (v1 : Int32) (v2 : Int32) (v3 : Int32) (v4 : Int32) (v5 : Int32) : Option Int32 := Option.bind (f_X4_ways u) (fun r9 => if r9 ≤ v5 then some v4 else Option.bind (f_X4_holdsOf N v1 v2 v3 v5 u) (fun r23 => if r23 = (0 : Int32) then f_X4_heldMany_L34 N u rec6 v1 v2 v3 v5 (0 : Int32) v4 else f_X4_heldMany_L34 N u rec6 v1 v2 v3 v5 (1 : Int32) v4))
set_option maxRecDepth 20000 in
theorem go_X4_heldMany_L6b (N : Nat) (u : xN) (rec6 : Int32 → Int32 → Int32 → Int32 → Int32 → Option Int32) (h6 : ∀ (v1 : Int32) (v2 : Int32) (v3 : Int32) (v4 : Int32) (v5 : Int32), xGm md_X4_heldMany (rsI (xU u)) (rec6 v1 v2 v3 v4 v5) 6 [(0, .ref 39), (1, .int v1), (2, .int v2), (3, .int v3), (4, .int v4), (5, .int v5)] [] (xU u)) (v1 : Int32) (v2 : Int32) (v3 : Int32) (v4 : Int32) (v5 : Int32) : xGm md_X4_heldMany (rsI (xU u)) (f_X4_heldMany_L6b N u rec6 v1 v2 v3 v4 v5) 6 [(0, .ref 39), (1, .int v1), (2, .int v2), (3, .int v3), (4, .int v4), (5, .int v5)] [] (xU u) := by
  unfold f_X4_heldMany_L6b
  refine xm_blk0 (pc' := 9) (lv' := [(0, .ref 39), (1, .int v1), (2, .int v2), (3, .int v3), (4, .int v4), (5, .int v5)]) (st' := [.ref 39, .int v5]) (u' := (xU u)) [(.iload 5, (0, 0, 0), 0, 0), (.aload_n 0, (0, 0, 0), 0, 0)] (by decide +kernel) rfl ?_
  refine xm_Vi (pc := 9) (mz := md_X4_ways) (idx := 150) (p1 := 1020) (a := 39) (as := []) (st := [.int v5]) (ev_X4_ways u) mw_X4_ways (by decide +kernel) (by decide +kernel) (by decide) rfl rfl (by decide) rfl (Nat.le_of_ble_eq_true rfl) (fun r9 => ?_)
  refine xm_icmp_ge (pc := 12) (off := 31) (tgt := 43) (by decide +kernel) (by decide) ?_ ?_
  · refine xm_blk0 (pc' := 45) (lv' := [(0, .ref 39), (1, .int v1), (2, .int v2), (3, .int v3), (4, .int v4), (5, .int v5)]) (st' := [.int v4]) (u' := (xU u)) [(.iload 4, (0, 0, 0), 0, 0)] (by decide +kernel) rfl ?_
    exact xm_iret (pc := 45) (by decide +kernel) rfl rfl
  · refine xm_blk0 (pc' := 23) (lv' := [(0, .ref 39), (1, .int v1), (2, .int v2), (3, .int v3), (4, .int v4), (5, .int v5)]) (st' := [.int v5, .int v3, .int v2, .int v1, .ref 39, .int v4]) (u' := (xU u)) [(.iload 4, (0, 0, 0), 0, 0), (.aload_n 0, (0, 0, 0), 0, 0), (.iload_n 1, (0, 0, 0), 0, 0), (.iload_n 2, (0, 0, 0), 0, 0), (.iload_n 3, (0, 0, 0), 0, 0), (.iload 5, (0, 0, 0), 0, 0)] (by decide +kernel) rfl ?_
    refine xm_Vi (pc := 23) (mz := md_X4_holdsOf) (idx := 178) (p1 := 1024) (a := 39) (as := [.int v1, .int v2, .int v3, .int v5]) (st := [.int v4]) (ev_X4_holdsOf N v1 v2 v3 v5 u) mw_X4_holdsOf (by decide +kernel) (by decide +kernel) (by decide) rfl rfl (by decide) rfl (Nat.le_of_ble_eq_true rfl) (fun r23 => ?_)
    refine xm_if_eq (pc := 26) (off := 7) (tgt := 33) (by decide +kernel) (by decide) ?_ ?_
    · refine xm_blk0 (pc' := 34) (lv' := [(0, .ref 39), (1, .int v1), (2, .int v2), (3, .int v3), (4, .int v4), (5, .int v5)]) (st' := [.int (0 : Int32), .int v4]) (u' := (xU u)) [(.iconst 0, (0, 0, 0), 0, 0)] (by decide +kernel) rfl ?_
      refine xm_wk [0, 1, 2, 3, 5] (lv' := [(0, .ref 39), (1, .int v1), (2, .int v2), (3, .int v3), (5, .int v5)]) rfl ?_
      exact go_X4_heldMany_L34 N u rec6 h6 v1 v2 v3 v5 (0 : Int32) v4
    · refine xm_blk0 (pc' := 30) (lv' := [(0, .ref 39), (1, .int v1), (2, .int v2), (3, .int v3), (4, .int v4), (5, .int v5)]) (st' := [.int (1 : Int32), .int v4]) (u' := (xU u)) [(.iconst 1, (0, 0, 0), 1, 0)] (by decide +kernel) rfl ?_
      refine xm_goto (pc := 30) (off := 4) (tgt := 34) (by decide +kernel) (by decide) ?_
      refine xm_wk [0, 1, 2, 3, 5] (lv' := [(0, .ref 39), (1, .int v1), (2, .int v2), (3, .int v3), (5, .int v5)]) rfl ?_
      exact go_X4_heldMany_L34 N u rec6 h6 v1 v2 v3 v5 (1 : Int32) v4
def f_X4_heldMany_L6 (N : Nat) (u : xN) : Nat → Int32 → Int32 → Int32 → Int32 → Int32 → Option Int32
  | 0 => fun _ _ _ _ _ => none
  | n + 1 => fun v1 v2 v3 v4 v5 => f_X4_heldMany_L6b N u (f_X4_heldMany_L6 N u n) v1 v2 v3 v4 v5
theorem go_X4_heldMany_L6 (N : Nat) (u : xN) : ∀ (n : Nat) (v1 : Int32) (v2 : Int32) (v3 : Int32) (v4 : Int32) (v5 : Int32), xGm md_X4_heldMany (rsI (xU u)) (f_X4_heldMany_L6 N u n v1 v2 v3 v4 v5) 6 [(0, .ref 39), (1, .int v1), (2, .int v2), (3, .int v3), (4, .int v4), (5, .int v5)] [] (xU u) := by
  intro n
  induction n with
  | zero => intro v1 v2 v3 v4 v5; exact xm_none
  | succ n ih => intro v1 v2 v3 v4 v5; exact go_X4_heldMany_L6b N u _ ih v1 v2 v3 v4 v5
def f_X4_heldMany (N : Nat) (a1 : Int32) (a2 : Int32) (a3 : Int32) (u : xN) : Option Int32 := f_X4_heldMany_L6 N u N a1 a2 a3 (0 : Int32) (0 : Int32)
set_option maxRecDepth 20000 in
theorem go_X4_heldMany (N : Nat) (a1 : Int32) (a2 : Int32) (a3 : Int32) (u : xN) : xGm md_X4_heldMany (rsI (xU u)) (f_X4_heldMany N a1 a2 a3 u) 0 [(0, .ref 39), (1, .int a1), (2, .int a2), (3, .int a3)] [] (xU u) := by
  unfold f_X4_heldMany
  refine xm_blk0 (pc' := 6) (lv' := [(0, .ref 39), (1, .int a1), (2, .int a2), (3, .int a3), (4, .int (0 : Int32)), (5, .int (0 : Int32))]) (st' := []) (u' := (xU u)) [(.iconst 0, (0, 0, 0), 0, 0), (.istore 4, (0, 0, 0), 0, 0), (.iconst 0, (0, 0, 0), 0, 0), (.istore 5, (0, 0, 0), 0, 0)] (by decide +kernel) rfl ?_
  exact go_X4_heldMany_L6 N u N a1 a2 a3 (0 : Int32) (0 : Int32)
theorem ev_X4_heldMany (N : Nat) (a1 : Int32) (a2 : Int32) (a3 : Int32) (u : xN) : ∀ r, f_X4_heldMany N a1 a2 a3 u = some r → xEm md_X4_heldMany yX4_heldMany [.ref 39, .int a1, .int a2, .int a3] (xU u) (some (.int r), (xU u)) := xm_met (res := (rsI (xU u))) (as := [.ref 39, .int a1, .int a2, .int a3]) (go_X4_heldMany N a1 a2 a3 u) (by decide) rfl (Nat.le_of_ble_eq_true rfl)
theorem mw_X4_toldOf : xMv yX4_toldOf cX4_toldOf 3 (some .int) 2 := xMv_of (p1 := 1015) (p2 := 1014) (p3 := 97) (p4 := 52) (by decide +kernel)
/-! NeitherBareModel.toldOf(II)I (39, None, None) -/
abbrev md_X4_toldOf : xMd := (cX4_toldOf, RX4, 3, some .int, 6)
def f_X4_toldOf (N : Nat) (a1 : Int32) (a2 : Int32) (u : xN) : Option Int32 := if Int32.toInt a2 < 0 ∨ 3 < Int32.toInt a2 then (gdl [inb a1 8, inb a1 8, inb a1 8] (Option.bind (f_X4_heldMany N (u.1 42 (Int32.toNatClampNeg a1)) (u.1 43 (Int32.toNatClampNeg a1)) (u.1 44 (Int32.toNatClampNeg a1)) u) (fun r83 => some r83))) else if a2 = (0 : Int32) then (gdl [inb a1 8] (some (u.1 42 (Int32.toNatClampNeg a1)))) else if a2 = (1 : Int32) then (gdl [inb a1 8] (some (u.1 43 (Int32.toNatClampNeg a1)))) else if a2 = (2 : Int32) then (gdl [inb a1 8] (some (u.1 44 (Int32.toNatClampNeg a1)))) else if a2 = (3 : Int32) then (gdl [inb (1 : Int32) 1480] (some (((u.1 40 (Int32.toNatClampNeg (1 : Int32))) >>> (a1 &&& 31)) &&& (1 : Int32)))) else none
set_option maxRecDepth 20000 in
theorem go_X4_toldOf (N : Nat) (a1 : Int32) (a2 : Int32) (u : xN) : xGm md_X4_toldOf (rsI (xU u)) (f_X4_toldOf N a1 a2 u) 0 [(0, .ref 39), (1, .int a1), (2, .int a2)] [] (xU u) := by
  unfold f_X4_toldOf
  refine xm_blk0 (pc' := 1) (lv' := [(0, .ref 39), (1, .int a1), (2, .int a2)]) (st' := [.int a2]) (u' := (xU u)) [(.iload_n 2, (0, 0, 0), 0, 0)] (by decide +kernel) rfl ?_
  refine xm_tout (pc := 1) (tgt := 64) (dflt := 63) (lo := 0) (hi := 3) (offs := #[31, 38, 45, 52]) (len := 31) (by decide +kernel) (by decide) ?_ ?_
  · refine xm_blk (bs := [inb a1 8, inb a1 8, inb a1 8]) (pc' := 83) (lv' := [(0, .ref 39), (1, .int a1), (2, .int a2)]) (st' := [.int (u.1 44 (Int32.toNatClampNeg a1)), .int (u.1 43 (Int32.toNatClampNeg a1)), .int (u.1 42 (Int32.toNatClampNeg a1)), .ref 39]) (u' := (xU u)) [(.aload_n 0, (0, 0, 0), 0, 0), (.aload_n 0, (0, 0, 0), 0, 0), (.getfield 16, (4, 4, 824), 0, 0), (.iload_n 1, (0, 0, 0), 0, 0), (.iaload, (0, 0, 0), 0, 0), (.aload_n 0, (0, 0, 0), 0, 0), (.getfield 19, (4, 5, 825), 0, 0), (.iload_n 1, (0, 0, 0), 0, 0), (.iaload, (0, 0, 0), 0, 0), (.aload_n 0, (0, 0, 0), 0, 0), (.getfield 22, (4, 6, 826), 0, 0), (.iload_n 1, (0, 0, 0), 0, 0), (.iaload, (0, 0, 0), 0, 0)] (by decide +kernel) rfl ?_
    refine xm_Vi (pc := 83) (mz := md_X4_heldMany) (idx := 190) (p1 := 1016) (a := 39) (as := [.int (u.1 42 (Int32.toNatClampNeg a1)), .int (u.1 43 (Int32.toNatClampNeg a1)), .int (u.1 44 (Int32.toNatClampNeg a1))]) (st := []) (ev_X4_heldMany N (u.1 42 (Int32.toNatClampNeg a1)) (u.1 43 (Int32.toNatClampNeg a1)) (u.1 44 (Int32.toNatClampNeg a1)) u) mw_X4_heldMany (by decide +kernel) (by decide +kernel) (by decide) rfl rfl (by decide) rfl (Nat.le_of_ble_eq_true rfl) (fun r83 => ?_)
    exact xm_iret (pc := 86) (by decide +kernel) rfl rfl
  · refine xm_tin (pc := 1) (tgt := 32) (off := 31) (dflt := 63) (lo := 0) (hi := 3) (offs := #[31, 38, 45, 52]) (len := 31) (0 : Int32) (by decide +kernel) (by decide) (by decide) (by decide) (by decide) ?_ ?_
    · refine xm_blk (bs := [inb a1 8]) (pc' := 38) (lv' := [(0, .ref 39), (1, .int a1), (2, .int a2)]) (st' := [.int (u.1 42 (Int32.toNatClampNeg a1))]) (u' := (xU u)) [(.aload_n 0, (0, 0, 0), 0, 0), (.getfield 16, (4, 4, 824), 0, 0), (.iload_n 1, (0, 0, 0), 0, 0), (.iaload, (0, 0, 0), 0, 0)] (by decide +kernel) rfl ?_
      exact xm_iret (pc := 38) (by decide +kernel) rfl rfl
    refine xm_tin (pc := 1) (tgt := 39) (off := 38) (dflt := 63) (lo := 0) (hi := 3) (offs := #[31, 38, 45, 52]) (len := 31) (1 : Int32) (by decide +kernel) (by decide) (by decide) (by decide) (by decide) ?_ ?_
    · refine xm_blk (bs := [inb a1 8]) (pc' := 45) (lv' := [(0, .ref 39), (1, .int a1), (2, .int a2)]) (st' := [.int (u.1 43 (Int32.toNatClampNeg a1))]) (u' := (xU u)) [(.aload_n 0, (0, 0, 0), 0, 0), (.getfield 19, (4, 5, 825), 0, 0), (.iload_n 1, (0, 0, 0), 0, 0), (.iaload, (0, 0, 0), 0, 0)] (by decide +kernel) rfl ?_
      exact xm_iret (pc := 45) (by decide +kernel) rfl rfl
    refine xm_tin (pc := 1) (tgt := 46) (off := 45) (dflt := 63) (lo := 0) (hi := 3) (offs := #[31, 38, 45, 52]) (len := 31) (2 : Int32) (by decide +kernel) (by decide) (by decide) (by decide) (by decide) ?_ ?_
    · refine xm_blk (bs := [inb a1 8]) (pc' := 52) (lv' := [(0, .ref 39), (1, .int a1), (2, .int a2)]) (st' := [.int (u.1 44 (Int32.toNatClampNeg a1))]) (u' := (xU u)) [(.aload_n 0, (0, 0, 0), 0, 0), (.getfield 22, (4, 6, 826), 0, 0), (.iload_n 1, (0, 0, 0), 0, 0), (.iaload, (0, 0, 0), 0, 0)] (by decide +kernel) rfl ?_
      exact xm_iret (pc := 52) (by decide +kernel) rfl rfl
    refine xm_tin (pc := 1) (tgt := 53) (off := 52) (dflt := 63) (lo := 0) (hi := 3) (offs := #[31, 38, 45, 52]) (len := 31) (3 : Int32) (by decide +kernel) (by decide) (by decide) (by decide) (by decide) ?_ ?_
    · refine xm_blk (bs := [inb (1 : Int32) 1480]) (pc' := 63) (lv' := [(0, .ref 39), (1, .int a1), (2, .int a2)]) (st' := [.int (((u.1 40 (Int32.toNatClampNeg (1 : Int32))) >>> (a1 &&& 31)) &&& (1 : Int32))]) (u' := (xU u)) [(.aload_n 0, (0, 0, 0), 0, 0), (.getfield 7, (4, 0, 820), 0, 0), (.iconst 1, (0, 0, 0), 1, 0), (.iaload, (0, 0, 0), 0, 0), (.iload_n 1, (0, 0, 0), 0, 0), (.ishr, (0, 0, 0), 0, 0), (.iconst 1, (0, 0, 0), 1, 0), (.iand, (0, 0, 0), 0, 0)] (by decide +kernel) rfl ?_
      exact xm_iret (pc := 63) (by decide +kernel) rfl rfl
    exact xm_none
theorem ev_X4_toldOf (N : Nat) (a1 : Int32) (a2 : Int32) (u : xN) : ∀ r, f_X4_toldOf N a1 a2 u = some r → xEm md_X4_toldOf yX4_toldOf [.ref 39, .int a1, .int a2] (xU u) (some (.int r), (xU u)) := xm_met (res := (rsI (xU u))) (as := [.ref 39, .int a1, .int a2]) (go_X4_toldOf N a1 a2 u) (by decide) rfl (Nat.le_of_ble_eq_true rfl)
theorem mw_X4_clause : xMv yX4_clause cX4_clause 3 (some .int) 2 := xMv_of (p1 := 1007) (p2 := 1005) (p3 := 97) (p4 := 1006) (by decide +kernel)
/-! NeitherBareModel.clause(II)I (39, None, None) -/
abbrev md_X4_clause : xMd := (cX4_clause, RX4, 3, some .int, 7)
def f_X4_clause_L34 (N : Nat) (t0 : Int32) (u : xN) : Option (Int32 × xN) := some (t0, u)
set_option maxRecDepth 20000 in
theorem go_X4_clause_L34 (N : Nat) (t0 : Int32) (u : xN) : xGm md_X4_clause rsM (f_X4_clause_L34 N t0 u) 34 [] [.int t0] (xU u) := by
  unfold f_X4_clause_L34
  exact xm_iret (pc := 34) (by decide +kernel) rfl rfl
def f_X4_clause_L33 (N : Nat) (u : xN) : Option (Int32 × xN) := f_X4_clause_L34 N (-1 : Int32) u
set_option maxRecDepth 20000 in
theorem go_X4_clause_L33 (N : Nat) (u : xN) : xGm md_X4_clause rsM (f_X4_clause_L33 N u) 33 [] [] (xU u) := by
  unfold f_X4_clause_L33
  refine xm_blk0 (pc' := 34) (lv' := []) (st' := [.int (-1 : Int32)]) (u' := (xU u)) [(.iconst (-1), (0, 0, 0), -1, 0)] (by decide +kernel) rfl ?_
  exact go_X4_clause_L34 N (-1 : Int32) u
def f_X4_clause (N : Nat) (a1 : Int32) (a2 : Int32) (u : xN) : Option (Int32 × xN) := Option.bind (f_X4_isClause a1 u) (fun r2 => if r2 = (0 : Int32) then f_X4_clause_L33 N u else Option.bind (f_X4_in (Int32.toInt64 a2) (0 : Int64) (4 : Int64)) (fun r14 => if r14 = (0 : Int32) then f_X4_clause_L33 N u else Option.bind (f_X4_toldOf N a1 a2 u) (fun r24 => Option.bind (f_X4_tell r24 u) (fun r27 => f_X4_clause_L34 N r27.1 r27.2))))
set_option maxRecDepth 20000 in
theorem go_X4_clause (N : Nat) (a1 : Int32) (a2 : Int32) (u : xN) : xGm md_X4_clause rsM (f_X4_clause N a1 a2 u) 0 [(0, .ref 39), (1, .int a1), (2, .int a2)] [] (xU u) := by
  unfold f_X4_clause
  refine xm_blk0 (pc' := 2) (lv' := [(0, .ref 39), (1, .int a1), (2, .int a2)]) (st' := [.int a1, .ref 39]) (u' := (xU u)) [(.aload_n 0, (0, 0, 0), 0, 0), (.iload_n 1, (0, 0, 0), 0, 0)] (by decide +kernel) rfl ?_
  refine xm_Vi (pc := 2) (mz := md_X4_isClause) (idx := 194) (p1 := 1008) (a := 39) (as := [.int a1]) (st := []) (ev_X4_isClause a1 u) mw_X4_isClause (by decide +kernel) (by decide +kernel) (by decide) rfl rfl (by decide) rfl (Nat.le_of_ble_eq_true rfl) (fun r2 => ?_)
  refine xm_if_eq (pc := 5) (off := 28) (tgt := 33) (by decide +kernel) (by decide) ?_ ?_
  · refine xm_wk [] (lv' := []) rfl ?_
    exact go_X4_clause_L33 N u
  · refine xm_blk0 (pc' := 14) (lv' := [(0, .ref 39), (1, .int a1), (2, .int a2)]) (st' := [.long (4 : Int64), .long (0 : Int64), .long (Int32.toInt64 a2)]) (u' := (xU u)) [(.iload_n 2, (0, 0, 0), 0, 0), (.i2l, (0, 0, 0), 0, 0), (.lconst 0, (0, 0, 0), 0, 0), (.ldc2_w 188, (0, 0, 1003), 0, 4)] (by decide +kernel) rfl ?_
    refine xm_Si (pc := 14) (mz := md_X4_in) (idx := 72) (p1 := 905) (as := [.long (Int32.toInt64 a2), .long (0 : Int64), .long (4 : Int64)]) (st := []) (ev_X4_in (Int32.toInt64 a2) (0 : Int64) (4 : Int64) u) mw_X4_in (by decide +kernel) (by decide +kernel) (by decide) rfl (Nat.le_of_ble_eq_true rfl) (fun r14 => ?_)
    refine xm_if_eq (pc := 17) (off := 16) (tgt := 33) (by decide +kernel) (by decide) ?_ ?_
    · refine xm_wk [] (lv' := []) rfl ?_
      exact go_X4_clause_L33 N u
    · refine xm_blk0 (pc' := 24) (lv' := [(0, .ref 39), (1, .int a1), (2, .int a2)]) (st' := [.int a2, .int a1, .ref 39, .ref 39]) (u' := (xU u)) [(.aload_n 0, (0, 0, 0), 0, 0), (.aload_n 0, (0, 0, 0), 0, 0), (.iload_n 1, (0, 0, 0), 0, 0), (.iload_n 2, (0, 0, 0), 0, 0)] (by decide +kernel) rfl ?_
      refine xm_Vi (pc := 24) (mz := md_X4_toldOf) (idx := 197) (p1 := 1012) (a := 39) (as := [.int a1, .int a2]) (st := [.ref 39]) (ev_X4_toldOf N a1 a2 u) mw_X4_toldOf (by decide +kernel) (by decide +kernel) (by decide) rfl rfl (by decide) rfl (Nat.le_of_ble_eq_true rfl) (fun r24 => ?_)
      refine xm_Vm (pc := 27) (mz := md_X4_tell) (idx := 94) (p1 := 924) (a := 39) (as := [.int r24]) (st := []) (ev_X4_tell r24 u) mw_X4_tell (by decide +kernel) (by decide +kernel) (by decide) rfl rfl (by decide) rfl (Nat.le_of_ble_eq_true rfl) (fun r27 => ?_)
      refine xm_goto (pc := 30) (off := 4) (tgt := 34) (by decide +kernel) (by decide) ?_
      refine xm_wk [] (lv' := []) rfl ?_
      exact go_X4_clause_L34 N r27.1 r27.2
theorem ev_X4_clause (N : Nat) (a1 : Int32) (a2 : Int32) (u : xN) : ∀ r, f_X4_clause N a1 a2 u = some r → xEm md_X4_clause yX4_clause [.ref 39, .int a1, .int a2] (xU u) (some (.int r.1), xU r.2) := xm_met (res := rsM) (as := [.ref 39, .int a1, .int a2]) (go_X4_clause N a1 a2 u) (by decide) rfl (Nat.le_of_ble_eq_true rfl)
theorem mw_X4_isOf : xMv yX4_isOf cX4_isOf 3 (some .boolean) 2 := xMv_of (p1 := 1066) (p2 := 1065) (p3 := 97) (p4 := 63) (by decide +kernel)
/-! NeitherBareModel.isOf(II)Z (39, None, None) -/
abbrev md_X4_isOf : xMd := (cX4_isOf, RX4, 3, some .boolean, 1)
def f_X4_isOf_L45 (u : xN) (t0 : Int32) : Option Int32 := gdl [isb t0] (some t0)
set_option maxRecDepth 20000 in
theorem go_X4_isOf_L45 (u : xN) (t0 : Int32) : xGm md_X4_isOf (rsI (xU u)) (f_X4_isOf_L45 u t0) 45 [] [.int t0] (xU u) := by
  unfold f_X4_isOf_L45
  exact xm_zret (pc := 45) (by decide +kernel) rfl rfl
def f_X4_isOf_L40 (u : xN) : Option Int32 := f_X4_isOf_L45 u (1 : Int32)
set_option maxRecDepth 20000 in
theorem go_X4_isOf_L40 (u : xN) : xGm md_X4_isOf (rsI (xU u)) (f_X4_isOf_L40 u) 40 [] [] (xU u) := by
  unfold f_X4_isOf_L40
  refine xm_blk0 (pc' := 41) (lv' := []) (st' := [.int (1 : Int32)]) (u' := (xU u)) [(.iconst 1, (0, 0, 0), 1, 0)] (by decide +kernel) rfl ?_
  refine xm_goto (pc := 41) (off := 4) (tgt := 45) (by decide +kernel) (by decide) ?_
  exact go_X4_isOf_L45 u (1 : Int32)
def f_X4_isOf_L44 (u : xN) : Option Int32 := f_X4_isOf_L45 u (0 : Int32)
set_option maxRecDepth 20000 in
theorem go_X4_isOf_L44 (u : xN) : xGm md_X4_isOf (rsI (xU u)) (f_X4_isOf_L44 u) 44 [] [] (xU u) := by
  unfold f_X4_isOf_L44
  refine xm_blk0 (pc' := 45) (lv' := []) (st' := [.int (0 : Int32)]) (u' := (xU u)) [(.iconst 0, (0, 0, 0), 0, 0)] (by decide +kernel) rfl ?_
  exact go_X4_isOf_L45 u (0 : Int32)
def f_X4_isOf_L25 (u : xN) (v1 : Int32) (v2 : Int32) : Option Int32 := if v2 = (2 : Int32) then (gdl [inb v1 8] (if (u.1 42 (Int32.toNatClampNeg v1)) = (5 : Int32) then f_X4_isOf_L40 u else f_X4_isOf_L44 u)) else f_X4_isOf_L44 u
set_option maxRecDepth 20000 in
theorem go_X4_isOf_L25 (u : xN) (v1 : Int32) (v2 : Int32) : xGm md_X4_isOf (rsI (xU u)) (f_X4_isOf_L25 u v1 v2) 25 [(0, .ref 39), (1, .int v1), (2, .int v2)] [] (xU u) := by
  unfold f_X4_isOf_L25
  refine xm_blk0 (pc' := 27) (lv' := [(0, .ref 39), (1, .int v1), (2, .int v2)]) (st' := [.int (2 : Int32), .int v2]) (u' := (xU u)) [(.iload_n 2, (0, 0, 0), 0, 0), (.iconst 2, (0, 0, 0), 2, 0)] (by decide +kernel) rfl ?_
  refine xm_icmp_ne (pc := 27) (off := 17) (tgt := 44) (by decide +kernel) (by decide) ?_ ?_
  · refine xm_wk [] (lv' := []) rfl ?_
    exact go_X4_isOf_L44 u
  · refine xm_blk (bs := [inb v1 8]) (pc' := 37) (lv' := [(0, .ref 39), (1, .int v1), (2, .int v2)]) (st' := [.int (5 : Int32), .int (u.1 42 (Int32.toNatClampNeg v1))]) (u' := (xU u)) [(.aload_n 0, (0, 0, 0), 0, 0), (.getfield 16, (4, 4, 824), 0, 0), (.iload_n 1, (0, 0, 0), 0, 0), (.iaload, (0, 0, 0), 0, 0), (.iconst 5, (0, 0, 0), 5, 0)] (by decide +kernel) rfl ?_
    refine xm_icmp_ne (pc := 37) (off := 7) (tgt := 44) (by decide +kernel) (by decide) ?_ ?_
    · refine xm_wk [] (lv' := []) rfl ?_
      exact go_X4_isOf_L44 u
    · refine xm_wk [] (lv' := []) rfl ?_
      exact go_X4_isOf_L40 u
def f_X4_isOf (a1 : Int32) (a2 : Int32) (u : xN) : Option Int32 := gdl [inb a1 8] (if (u.1 42 (Int32.toNatClampNeg a1)) = a2 then f_X4_isOf_L40 u else if a2 = (1 : Int32) then (gdl [inb a1 8] (if (u.1 42 (Int32.toNatClampNeg a1)) = (4 : Int32) then f_X4_isOf_L40 u else f_X4_isOf_L25 u a1 a2)) else f_X4_isOf_L25 u a1 a2)
set_option maxRecDepth 20000 in
theorem go_X4_isOf (a1 : Int32) (a2 : Int32) (u : xN) : xGm md_X4_isOf (rsI (xU u)) (f_X4_isOf a1 a2 u) 0 [(0, .ref 39), (1, .int a1), (2, .int a2)] [] (xU u) := by
  unfold f_X4_isOf
  refine xm_blk (bs := [inb a1 8]) (pc' := 7) (lv' := [(0, .ref 39), (1, .int a1), (2, .int a2)]) (st' := [.int a2, .int (u.1 42 (Int32.toNatClampNeg a1))]) (u' := (xU u)) [(.aload_n 0, (0, 0, 0), 0, 0), (.getfield 16, (4, 4, 824), 0, 0), (.iload_n 1, (0, 0, 0), 0, 0), (.iaload, (0, 0, 0), 0, 0), (.iload_n 2, (0, 0, 0), 0, 0)] (by decide +kernel) rfl ?_
  refine xm_icmp_eq (pc := 7) (off := 33) (tgt := 40) (by decide +kernel) (by decide) ?_ ?_
  · refine xm_wk [] (lv' := []) rfl ?_
    exact go_X4_isOf_L40 u
  · refine xm_blk0 (pc' := 12) (lv' := [(0, .ref 39), (1, .int a1), (2, .int a2)]) (st' := [.int (1 : Int32), .int a2]) (u' := (xU u)) [(.iload_n 2, (0, 0, 0), 0, 0), (.iconst 1, (0, 0, 0), 1, 0)] (by decide +kernel) rfl ?_
    refine xm_icmp_ne (pc := 12) (off := 13) (tgt := 25) (by decide +kernel) (by decide) ?_ ?_
    · exact go_X4_isOf_L25 u a1 a2
    · refine xm_blk (bs := [inb a1 8]) (pc' := 22) (lv' := [(0, .ref 39), (1, .int a1), (2, .int a2)]) (st' := [.int (4 : Int32), .int (u.1 42 (Int32.toNatClampNeg a1))]) (u' := (xU u)) [(.aload_n 0, (0, 0, 0), 0, 0), (.getfield 16, (4, 4, 824), 0, 0), (.iload_n 1, (0, 0, 0), 0, 0), (.iaload, (0, 0, 0), 0, 0), (.iconst 4, (0, 0, 0), 4, 0)] (by decide +kernel) rfl ?_
      refine xm_icmp_eq (pc := 22) (off := 18) (tgt := 40) (by decide +kernel) (by decide) ?_ ?_
      · refine xm_wk [] (lv' := []) rfl ?_
        exact go_X4_isOf_L40 u
      · exact go_X4_isOf_L25 u a1 a2
theorem ev_X4_isOf (a1 : Int32) (a2 : Int32) (u : xN) : ∀ r, f_X4_isOf a1 a2 u = some r → xEm md_X4_isOf yX4_isOf [.ref 39, .int a1, .int a2] (xU u) (some (.int r), (xU u)) := xm_met (res := (rsI (xU u))) (as := [.ref 39, .int a1, .int a2]) (go_X4_isOf a1 a2 u) (by decide) rfl (Nat.le_of_ble_eq_true rfl)
theorem mw_X4_littleMany : xMv yX4_littleMany cX4_littleMany 4 (some .int) 1 := xMv_of (p1 := 1074) (p2 := 1073) (p3 := 97) (p4 := 65) (by decide +kernel)
/-! NeitherBareModel.littleMany(I)I (39, None) -/
abbrev md_X4_littleMany : xMd := (cX4_littleMany, RX4, 4, some .int, 4)
def f_X4_littleMany_L27 (N : Nat) (u : xN) (rec4 : Int32 → Int32 → Int32 → Option Int32) (v1 : Int32) (v3 : Int32) (t0 : Int32) (t1 : Int32) : Option Int32 := rec4 v1 (t1 + t0) (v3 + (1 : Int32))
set_option maxRecDepth 20000 in
theorem go_X4_littleMany_L27 (N : Nat) (u : xN) (rec4 : Int32 → Int32 → Int32 → Option Int32) (h4 : ∀ (v1 : Int32) (v2 : Int32) (v3 : Int32), xGm md_X4_littleMany (rsI (xU u)) (rec4 v1 v2 v3) 4 [(0, .ref 39), (1, .int v1), (2, .int v2), (3, .int v3)] [] (xU u)) (v1 : Int32) (v3 : Int32) (t0 : Int32) (t1 : Int32) : xGm md_X4_littleMany (rsI (xU u)) (f_X4_littleMany_L27 N u rec4 v1 v3 t0 t1) 27 [(0, .ref 39), (1, .int v1), (3, .int v3)] [.int t0, .int t1] (xU u) := by
  unfold f_X4_littleMany_L27
  refine xm_blk0 (pc' := 32) (lv' := [(0, .ref 39), (1, .int v1), (2, .int (t1 + t0)), (3, .int (v3 + (1 : Int32)))]) (st' := []) (u' := (xU u)) [(.iadd, (0, 0, 0), 0, 0), (.istore_n 2, (0, 0, 0), 0, 0), (.iinc 3 1, (0, 0, 0), 1, 0)] (by decide +kernel) rfl ?_
  refine xm_goto (pc := 32) (off := -28) (tgt := 4) (by decide +kernel) (by decide) ?_
  exact h4 v1 (t1 + t0) (v3 + (1 : Int32))
def f_X4_littleMany_L4b (N : Nat) (u : xN) (rec4 : Int32 → Int32 → Int32 → Option Int32) (v1 : Int32) (v2 : Int32) (v3 : Int32) : Option Int32 := Option.bind (f_X4_ways u) (fun r6 => if r6 ≤ v3 then some v2 else Option.bind (f_X4_isLittle N v3 v1 u) (fun r16 => if r16 = (0 : Int32) then f_X4_littleMany_L27 N u rec4 v1 v3 (0 : Int32) v2 else f_X4_littleMany_L27 N u rec4 v1 v3 (1 : Int32) v2))
set_option maxRecDepth 20000 in
theorem go_X4_littleMany_L4b (N : Nat) (u : xN) (rec4 : Int32 → Int32 → Int32 → Option Int32) (h4 : ∀ (v1 : Int32) (v2 : Int32) (v3 : Int32), xGm md_X4_littleMany (rsI (xU u)) (rec4 v1 v2 v3) 4 [(0, .ref 39), (1, .int v1), (2, .int v2), (3, .int v3)] [] (xU u)) (v1 : Int32) (v2 : Int32) (v3 : Int32) : xGm md_X4_littleMany (rsI (xU u)) (f_X4_littleMany_L4b N u rec4 v1 v2 v3) 4 [(0, .ref 39), (1, .int v1), (2, .int v2), (3, .int v3)] [] (xU u) := by
  unfold f_X4_littleMany_L4b
  refine xm_blk0 (pc' := 6) (lv' := [(0, .ref 39), (1, .int v1), (2, .int v2), (3, .int v3)]) (st' := [.ref 39, .int v3]) (u' := (xU u)) [(.iload_n 3, (0, 0, 0), 0, 0), (.aload_n 0, (0, 0, 0), 0, 0)] (by decide +kernel) rfl ?_
  refine xm_Vi (pc := 6) (mz := md_X4_ways) (idx := 150) (p1 := 1020) (a := 39) (as := []) (st := [.int v3]) (ev_X4_ways u) mw_X4_ways (by decide +kernel) (by decide +kernel) (by decide) rfl rfl (by decide) rfl (Nat.le_of_ble_eq_true rfl) (fun r6 => ?_)
  refine xm_icmp_ge (pc := 9) (off := 26) (tgt := 35) (by decide +kernel) (by decide) ?_ ?_
  · refine xm_blk0 (pc' := 36) (lv' := [(0, .ref 39), (1, .int v1), (2, .int v2), (3, .int v3)]) (st' := [.int v2]) (u' := (xU u)) [(.iload_n 2, (0, 0, 0), 0, 0)] (by decide +kernel) rfl ?_
    exact xm_iret (pc := 36) (by decide +kernel) rfl rfl
  · refine xm_blk0 (pc' := 16) (lv' := [(0, .ref 39), (1, .int v1), (2, .int v2), (3, .int v3)]) (st' := [.int v1, .int v3, .ref 39, .int v2]) (u' := (xU u)) [(.iload_n 2, (0, 0, 0), 0, 0), (.aload_n 0, (0, 0, 0), 0, 0), (.iload_n 3, (0, 0, 0), 0, 0), (.iload_n 1, (0, 0, 0), 0, 0)] (by decide +kernel) rfl ?_
    refine xm_Vi (pc := 16) (mz := md_X4_isLittle) (idx := 175) (p1 := 1055) (a := 39) (as := [.int v3, .int v1]) (st := [.int v2]) (ev_X4_isLittle N v3 v1 u) mw_X4_isLittle (by decide +kernel) (by decide +kernel) (by decide) rfl rfl (by decide) rfl (Nat.le_of_ble_eq_true rfl) (fun r16 => ?_)
    refine xm_if_eq (pc := 19) (off := 7) (tgt := 26) (by decide +kernel) (by decide) ?_ ?_
    · refine xm_blk0 (pc' := 27) (lv' := [(0, .ref 39), (1, .int v1), (2, .int v2), (3, .int v3)]) (st' := [.int (0 : Int32), .int v2]) (u' := (xU u)) [(.iconst 0, (0, 0, 0), 0, 0)] (by decide +kernel) rfl ?_
      refine xm_wk [0, 1, 3] (lv' := [(0, .ref 39), (1, .int v1), (3, .int v3)]) rfl ?_
      exact go_X4_littleMany_L27 N u rec4 h4 v1 v3 (0 : Int32) v2
    · refine xm_blk0 (pc' := 23) (lv' := [(0, .ref 39), (1, .int v1), (2, .int v2), (3, .int v3)]) (st' := [.int (1 : Int32), .int v2]) (u' := (xU u)) [(.iconst 1, (0, 0, 0), 1, 0)] (by decide +kernel) rfl ?_
      refine xm_goto (pc := 23) (off := 4) (tgt := 27) (by decide +kernel) (by decide) ?_
      refine xm_wk [0, 1, 3] (lv' := [(0, .ref 39), (1, .int v1), (3, .int v3)]) rfl ?_
      exact go_X4_littleMany_L27 N u rec4 h4 v1 v3 (1 : Int32) v2
def f_X4_littleMany_L4 (N : Nat) (u : xN) : Nat → Int32 → Int32 → Int32 → Option Int32
  | 0 => fun _ _ _ => none
  | n + 1 => fun v1 v2 v3 => f_X4_littleMany_L4b N u (f_X4_littleMany_L4 N u n) v1 v2 v3
theorem go_X4_littleMany_L4 (N : Nat) (u : xN) : ∀ (n : Nat) (v1 : Int32) (v2 : Int32) (v3 : Int32), xGm md_X4_littleMany (rsI (xU u)) (f_X4_littleMany_L4 N u n v1 v2 v3) 4 [(0, .ref 39), (1, .int v1), (2, .int v2), (3, .int v3)] [] (xU u) := by
  intro n
  induction n with
  | zero => intro v1 v2 v3; exact xm_none
  | succ n ih => intro v1 v2 v3; exact go_X4_littleMany_L4b N u _ ih v1 v2 v3
def f_X4_littleMany (N : Nat) (a1 : Int32) (u : xN) : Option Int32 := f_X4_littleMany_L4 N u N a1 (0 : Int32) (0 : Int32)
set_option maxRecDepth 20000 in
theorem go_X4_littleMany (N : Nat) (a1 : Int32) (u : xN) : xGm md_X4_littleMany (rsI (xU u)) (f_X4_littleMany N a1 u) 0 [(0, .ref 39), (1, .int a1)] [] (xU u) := by
  unfold f_X4_littleMany
  refine xm_blk0 (pc' := 4) (lv' := [(0, .ref 39), (1, .int a1), (2, .int (0 : Int32)), (3, .int (0 : Int32))]) (st' := []) (u' := (xU u)) [(.iconst 0, (0, 0, 0), 0, 0), (.istore_n 2, (0, 0, 0), 0, 0), (.iconst 0, (0, 0, 0), 0, 0), (.istore_n 3, (0, 0, 0), 0, 0)] (by decide +kernel) rfl ?_
  exact go_X4_littleMany_L4 N u N a1 (0 : Int32) (0 : Int32)
theorem ev_X4_littleMany (N : Nat) (a1 : Int32) (u : xN) : ∀ r, f_X4_littleMany N a1 u = some r → xEm md_X4_littleMany yX4_littleMany [.ref 39, .int a1] (xU u) (some (.int r), (xU u)) := xm_met (res := (rsI (xU u))) (as := [.ref 39, .int a1]) (go_X4_littleMany N a1 u) (by decide) rfl (Nat.le_of_ble_eq_true rfl)
theorem mw_X4_muchAlone : xMv yX4_muchAlone cX4_muchAlone 4 (some .int) 1 := xMv_of (p1 := 1070) (p2 := 1069) (p3 := 97) (p4 := 64) (by decide +kernel)
/-! NeitherBareModel.muchAlone(I)I (39, None) -/
abbrev md_X4_muchAlone : xMd := (cX4_muchAlone, RX4, 4, some .int, 4)
def f_X4_muchAlone_L29 (N : Nat) (u : xN) (rec4 : Int32 → Int32 → Int32 → Option Int32) (v1 : Int32) (v3 : Int32) (t0 : Int32) (t1 : Int32) : Option Int32 := rec4 v1 (t1 + t0) (v3 + (1 : Int32))
set_option maxRecDepth 20000 in
theorem go_X4_muchAlone_L29 (N : Nat) (u : xN) (rec4 : Int32 → Int32 → Int32 → Option Int32) (h4 : ∀ (v1 : Int32) (v2 : Int32) (v3 : Int32), xGm md_X4_muchAlone (rsI (xU u)) (rec4 v1 v2 v3) 4 [(0, .ref 39), (1, .int v1), (2, .int v2), (3, .int v3)] [] (xU u)) (v1 : Int32) (v3 : Int32) (t0 : Int32) (t1 : Int32) : xGm md_X4_muchAlone (rsI (xU u)) (f_X4_muchAlone_L29 N u rec4 v1 v3 t0 t1) 29 [(0, .ref 39), (1, .int v1), (3, .int v3)] [.int t0, .int t1] (xU u) := by
  unfold f_X4_muchAlone_L29
  refine xm_blk0 (pc' := 34) (lv' := [(0, .ref 39), (1, .int v1), (2, .int (t1 + t0)), (3, .int (v3 + (1 : Int32)))]) (st' := []) (u' := (xU u)) [(.iadd, (0, 0, 0), 0, 0), (.istore_n 2, (0, 0, 0), 0, 0), (.iinc 3 1, (0, 0, 0), 1, 0)] (by decide +kernel) rfl ?_
  refine xm_goto (pc := 34) (off := -30) (tgt := 4) (by decide +kernel) (by decide) ?_
  exact h4 v1 (t1 + t0) (v3 + (1 : Int32))
def f_X4_muchAlone_L4b (N : Nat) (u : xN) (rec4 : Int32 → Int32 → Int32 → Option Int32) (v1 : Int32) (v2 : Int32) (v3 : Int32) : Option Int32 := if (u.1 39 1) ≤ v3 then some v2 else Option.bind (f_X4_isMuch N ((1 : Int32) <<< (v3 &&& 31)) v1 u) (fun r18 => if r18 = (0 : Int32) then f_X4_muchAlone_L29 N u rec4 v1 v3 (0 : Int32) v2 else f_X4_muchAlone_L29 N u rec4 v1 v3 (1 : Int32) v2)
set_option maxRecDepth 20000 in
theorem go_X4_muchAlone_L4b (N : Nat) (u : xN) (rec4 : Int32 → Int32 → Int32 → Option Int32) (h4 : ∀ (v1 : Int32) (v2 : Int32) (v3 : Int32), xGm md_X4_muchAlone (rsI (xU u)) (rec4 v1 v2 v3) 4 [(0, .ref 39), (1, .int v1), (2, .int v2), (3, .int v3)] [] (xU u)) (v1 : Int32) (v2 : Int32) (v3 : Int32) : xGm md_X4_muchAlone (rsI (xU u)) (f_X4_muchAlone_L4b N u rec4 v1 v2 v3) 4 [(0, .ref 39), (1, .int v1), (2, .int v2), (3, .int v3)] [] (xU u) := by
  unfold f_X4_muchAlone_L4b
  refine xm_blk0 (pc' := 9) (lv' := [(0, .ref 39), (1, .int v1), (2, .int v2), (3, .int v3)]) (st' := [.int (u.1 39 1), .int v3]) (u' := (xU u)) [(.iload_n 3, (0, 0, 0), 0, 0), (.aload_n 0, (0, 0, 0), 0, 0), (.getfield 147, (4, 1, 821), 0, 0)] (by decide +kernel) rfl ?_
  refine xm_icmp_ge (pc := 9) (off := 28) (tgt := 37) (by decide +kernel) (by decide) ?_ ?_
  · refine xm_blk0 (pc' := 38) (lv' := [(0, .ref 39), (1, .int v1), (2, .int v2), (3, .int v3)]) (st' := [.int v2]) (u' := (xU u)) [(.iload_n 2, (0, 0, 0), 0, 0)] (by decide +kernel) rfl ?_
    exact xm_iret (pc := 38) (by decide +kernel) rfl rfl
  · refine xm_blk0 (pc' := 18) (lv' := [(0, .ref 39), (1, .int v1), (2, .int v2), (3, .int v3)]) (st' := [.int v1, .int ((1 : Int32) <<< (v3 &&& 31)), .ref 39, .int v2]) (u' := (xU u)) [(.iload_n 2, (0, 0, 0), 0, 0), (.aload_n 0, (0, 0, 0), 0, 0), (.iconst 1, (0, 0, 0), 1, 0), (.iload_n 3, (0, 0, 0), 0, 0), (.ishl, (0, 0, 0), 0, 0), (.iload_n 1, (0, 0, 0), 0, 0)] (by decide +kernel) rfl ?_
    refine xm_Vi (pc := 18) (mz := md_X4_isMuch) (idx := 169) (p1 := 1047) (a := 39) (as := [.int ((1 : Int32) <<< (v3 &&& 31)), .int v1]) (st := [.int v2]) (ev_X4_isMuch N ((1 : Int32) <<< (v3 &&& 31)) v1 u) mw_X4_isMuch (by decide +kernel) (by decide +kernel) (by decide) rfl rfl (by decide) rfl (Nat.le_of_ble_eq_true rfl) (fun r18 => ?_)
    refine xm_if_eq (pc := 21) (off := 7) (tgt := 28) (by decide +kernel) (by decide) ?_ ?_
    · refine xm_blk0 (pc' := 29) (lv' := [(0, .ref 39), (1, .int v1), (2, .int v2), (3, .int v3)]) (st' := [.int (0 : Int32), .int v2]) (u' := (xU u)) [(.iconst 0, (0, 0, 0), 0, 0)] (by decide +kernel) rfl ?_
      refine xm_wk [0, 1, 3] (lv' := [(0, .ref 39), (1, .int v1), (3, .int v3)]) rfl ?_
      exact go_X4_muchAlone_L29 N u rec4 h4 v1 v3 (0 : Int32) v2
    · refine xm_blk0 (pc' := 25) (lv' := [(0, .ref 39), (1, .int v1), (2, .int v2), (3, .int v3)]) (st' := [.int (1 : Int32), .int v2]) (u' := (xU u)) [(.iconst 1, (0, 0, 0), 1, 0)] (by decide +kernel) rfl ?_
      refine xm_goto (pc := 25) (off := 4) (tgt := 29) (by decide +kernel) (by decide) ?_
      refine xm_wk [0, 1, 3] (lv' := [(0, .ref 39), (1, .int v1), (3, .int v3)]) rfl ?_
      exact go_X4_muchAlone_L29 N u rec4 h4 v1 v3 (1 : Int32) v2
def f_X4_muchAlone_L4 (N : Nat) (u : xN) : Nat → Int32 → Int32 → Int32 → Option Int32
  | 0 => fun _ _ _ => none
  | n + 1 => fun v1 v2 v3 => f_X4_muchAlone_L4b N u (f_X4_muchAlone_L4 N u n) v1 v2 v3
theorem go_X4_muchAlone_L4 (N : Nat) (u : xN) : ∀ (n : Nat) (v1 : Int32) (v2 : Int32) (v3 : Int32), xGm md_X4_muchAlone (rsI (xU u)) (f_X4_muchAlone_L4 N u n v1 v2 v3) 4 [(0, .ref 39), (1, .int v1), (2, .int v2), (3, .int v3)] [] (xU u) := by
  intro n
  induction n with
  | zero => intro v1 v2 v3; exact xm_none
  | succ n ih => intro v1 v2 v3; exact go_X4_muchAlone_L4b N u _ ih v1 v2 v3
def f_X4_muchAlone (N : Nat) (a1 : Int32) (u : xN) : Option Int32 := f_X4_muchAlone_L4 N u N a1 (0 : Int32) (0 : Int32)
set_option maxRecDepth 20000 in
theorem go_X4_muchAlone (N : Nat) (a1 : Int32) (u : xN) : xGm md_X4_muchAlone (rsI (xU u)) (f_X4_muchAlone N a1 u) 0 [(0, .ref 39), (1, .int a1)] [] (xU u) := by
  unfold f_X4_muchAlone
  refine xm_blk0 (pc' := 4) (lv' := [(0, .ref 39), (1, .int a1), (2, .int (0 : Int32)), (3, .int (0 : Int32))]) (st' := []) (u' := (xU u)) [(.iconst 0, (0, 0, 0), 0, 0), (.istore_n 2, (0, 0, 0), 0, 0), (.iconst 0, (0, 0, 0), 0, 0), (.istore_n 3, (0, 0, 0), 0, 0)] (by decide +kernel) rfl ?_
  exact go_X4_muchAlone_L4 N u N a1 (0 : Int32) (0 : Int32)
theorem ev_X4_muchAlone (N : Nat) (a1 : Int32) (u : xN) : ∀ r, f_X4_muchAlone N a1 u = some r → xEm md_X4_muchAlone yX4_muchAlone [.ref 39, .int a1] (xU u) (some (.int r), (xU u)) := xm_met (res := (rsI (xU u))) (as := [.ref 39, .int a1]) (go_X4_muchAlone N a1 u) (by decide) rfl (Nat.le_of_ble_eq_true rfl)
theorem mw_X4_mark : xMv yX4_mark cX4_mark 4 (some .int) 2 := xMv_of (p1 := 1062) (p2 := 1060) (p3 := 97) (p4 := 1061) (by decide +kernel)
/-! NeitherBareModel.mark(II)I (39, None, None) -/
abbrev md_X4_mark : xMd := (cX4_mark, RX4, 4, some .int, 5)
def f_X4_mark_L20 (N : Nat) (u : xN) : Option (Int32 × xN) := some ((-1 : Int32), u)
set_option maxRecDepth 20000 in
theorem go_X4_mark_L20 (N : Nat) (u : xN) : xGm md_X4_mark rsM (f_X4_mark_L20 N u) 20 [] [] (xU u) := by
  unfold f_X4_mark_L20
  refine xm_blk0 (pc' := 21) (lv' := []) (st' := [.int (-1 : Int32)]) (u' := (xU u)) [(.iconst (-1), (0, 0, 0), -1, 0)] (by decide +kernel) rfl ?_
  exact xm_iret (pc := 21) (by decide +kernel) rfl rfl
def f_X4_mark_L126 (N : Nat) (t0 : Int32) (u : xN) : Option (Int32 × xN) := some (t0, u)
set_option maxRecDepth 20000 in
theorem go_X4_mark_L126 (N : Nat) (t0 : Int32) (u : xN) : xGm md_X4_mark rsM (f_X4_mark_L126 N t0 u) 126 [] [.int t0] (xU u) := by
  unfold f_X4_mark_L126
  exact xm_iret (pc := 126) (by decide +kernel) rfl rfl
def f_X4_mark_L156 (N : Nat) (t0 : Int32) (u : xN) : Option (Int32 × xN) := some (t0, u)
set_option maxRecDepth 20000 in
theorem go_X4_mark_L156 (N : Nat) (t0 : Int32) (u : xN) : xGm md_X4_mark rsM (f_X4_mark_L156 N t0 u) 156 [] [.int t0] (xU u) := by
  unfold f_X4_mark_L156
  exact xm_iret (pc := 156) (by decide +kernel) rfl rfl
def f_X4_mark (N : Nat) (a1 : Int32) (a2 : Int32) (u : xN) : Option (Int32 × xN) := Option.bind (f_X4_isClause a1 u) (fun r2 => if r2 = (0 : Int32) then f_X4_mark_L20 N u else Option.bind (f_X4_in (Int32.toInt64 a2) (1 : Int64) (5 : Int64)) (fun r14 => if r14 = (0 : Int32) then f_X4_mark_L20 N u else Option.bind (f_X4_isOf a1 a2 u) (fun r25 => if r25 = (0 : Int32) then Option.bind (f_X4_find (3 : Int32) u) (fun r33 => some (r33.1, r33.2)) else gdl [inb a1 8] (if Int32.toInt a2 < 1 ∨ 4 < Int32.toInt a2 then (gdl [inb a1 8] (Option.bind (f_X4_littleMany N (u.1 44 (Int32.toNatClampNeg a1)) u) (fun r164 => some (r164, u)))) else if a2 = (1 : Int32) then (Option.bind (f_X4_upperOf (u.1 43 (Int32.toNatClampNeg a1)) u) (fun r78 => Option.bind (f_X4_lowerOf (u.1 43 (Int32.toNatClampNeg a1)) u) (fun r83 => some (((r78 - r83) - (1 : Int32)), u)))) else if a2 = (2 : Int32) then (Option.bind (f_X4_upperOf (u.1 43 (Int32.toNatClampNeg a1)) u) (fun r92 => gdl [inb a1 8] (Option.bind (f_X4_upperOf (u.1 44 (Int32.toNatClampNeg a1)) u) (fun r102 => if r92 ≤ r102 then (gdl [inb a1 8] (Option.bind (f_X4_upperOf (u.1 44 (Int32.toNatClampNeg a1)) u) (fun r123 => f_X4_mark_L126 N r123 u))) else Option.bind (f_X4_upperOf (u.1 43 (Int32.toNatClampNeg a1)) u) (fun r110 => f_X4_mark_L126 N r110 u))))) else if a2 = (3 : Int32) then (Option.bind (f_X4_muchAlone N (u.1 43 (Int32.toNatClampNeg a1)) u) (fun r129 => some (r129, u))) else if a2 = (4 : Int32) then (Option.bind (f_X4_half (u.1 43 (Int32.toNatClampNeg a1)) u) (fun r136 => Option.bind (f_X4_isBetween r136 (u.1 43 (Int32.toNatClampNeg a1)) u) (fun r140 => if r140 = (0 : Int32) then f_X4_mark_L156 N (-9 : Int32) u else Option.bind (f_X4_half (u.1 43 (Int32.toNatClampNeg a1)) u) (fun r148 => f_X4_mark_L156 N r148 u)))) else none))))
set_option maxRecDepth 20000 in
theorem go_X4_mark (N : Nat) (a1 : Int32) (a2 : Int32) (u : xN) : xGm md_X4_mark rsM (f_X4_mark N a1 a2 u) 0 [(0, .ref 39), (1, .int a1), (2, .int a2)] [] (xU u) := by
  unfold f_X4_mark
  refine xm_blk0 (pc' := 2) (lv' := [(0, .ref 39), (1, .int a1), (2, .int a2)]) (st' := [.int a1, .ref 39]) (u' := (xU u)) [(.aload_n 0, (0, 0, 0), 0, 0), (.iload_n 1, (0, 0, 0), 0, 0)] (by decide +kernel) rfl ?_
  refine xm_Vi (pc := 2) (mz := md_X4_isClause) (idx := 194) (p1 := 1008) (a := 39) (as := [.int a1]) (st := []) (ev_X4_isClause a1 u) mw_X4_isClause (by decide +kernel) (by decide +kernel) (by decide) rfl rfl (by decide) rfl (Nat.le_of_ble_eq_true rfl) (fun r2 => ?_)
  refine xm_if_eq (pc := 5) (off := 15) (tgt := 20) (by decide +kernel) (by decide) ?_ ?_
  · refine xm_wk [] (lv' := []) rfl ?_
    exact go_X4_mark_L20 N u
  · refine xm_blk0 (pc' := 14) (lv' := [(0, .ref 39), (1, .int a1), (2, .int a2)]) (st' := [.long (5 : Int64), .long (1 : Int64), .long (Int32.toInt64 a2)]) (u' := (xU u)) [(.iload_n 2, (0, 0, 0), 0, 0), (.i2l, (0, 0, 0), 0, 0), (.lconst 1, (0, 0, 0), 0, 1), (.ldc2_w 70, (0, 0, 904), 0, 5)] (by decide +kernel) rfl ?_
    refine xm_Si (pc := 14) (mz := md_X4_in) (idx := 72) (p1 := 905) (as := [.long (Int32.toInt64 a2), .long (1 : Int64), .long (5 : Int64)]) (st := []) (ev_X4_in (Int32.toInt64 a2) (1 : Int64) (5 : Int64) u) mw_X4_in (by decide +kernel) (by decide +kernel) (by decide) rfl (Nat.le_of_ble_eq_true rfl) (fun r14 => ?_)
    refine xm_if_ne (pc := 17) (off := 5) (tgt := 22) (by decide +kernel) (by decide) ?_ ?_
    · refine xm_blk0 (pc' := 25) (lv' := [(0, .ref 39), (1, .int a1), (2, .int a2)]) (st' := [.int a2, .int a1, .ref 39]) (u' := (xU u)) [(.aload_n 0, (0, 0, 0), 0, 0), (.iload_n 1, (0, 0, 0), 0, 0), (.iload_n 2, (0, 0, 0), 0, 0)] (by decide +kernel) rfl ?_
      refine xm_Vi (pc := 25) (mz := md_X4_isOf) (idx := 200) (p1 := 1063) (a := 39) (as := [.int a1, .int a2]) (st := []) (ev_X4_isOf a1 a2 u) mw_X4_isOf (by decide +kernel) (by decide +kernel) (by decide) rfl rfl (by decide) rfl (Nat.le_of_ble_eq_true rfl) (fun r25 => ?_)
      refine xm_if_ne (pc := 28) (off := 9) (tgt := 37) (by decide +kernel) (by decide) ?_ ?_
      · refine xm_blk (bs := [inb a1 8]) (pc' := 45) (lv' := [(0, .ref 39), (1, .int a1), (2, .int a2), (3, .int (u.1 43 (Int32.toNatClampNeg a1)))]) (st' := [.int a2]) (u' := (xU u)) [(.aload_n 0, (0, 0, 0), 0, 0), (.getfield 19, (4, 5, 825), 0, 0), (.iload_n 1, (0, 0, 0), 0, 0), (.iaload, (0, 0, 0), 0, 0), (.istore_n 3, (0, 0, 0), 0, 0), (.iload_n 2, (0, 0, 0), 0, 0)] (by decide +kernel) rfl ?_
        refine xm_tout (pc := 45) (tgt := 157) (dflt := 112) (lo := 1) (hi := 4) (offs := #[31, 45, 82, 88]) (len := 31) (by decide +kernel) (by decide) ?_ ?_
        · refine xm_blk (bs := [inb a1 8]) (pc' := 164) (lv' := [(0, .ref 39), (1, .int a1), (2, .int a2), (3, .int (u.1 43 (Int32.toNatClampNeg a1)))]) (st' := [.int (u.1 44 (Int32.toNatClampNeg a1)), .ref 39]) (u' := (xU u)) [(.aload_n 0, (0, 0, 0), 0, 0), (.aload_n 0, (0, 0, 0), 0, 0), (.getfield 22, (4, 6, 826), 0, 0), (.iload_n 1, (0, 0, 0), 0, 0), (.iaload, (0, 0, 0), 0, 0)] (by decide +kernel) rfl ?_
          refine xm_Vi (pc := 164) (mz := md_X4_littleMany) (idx := 206) (p1 := 1071) (a := 39) (as := [.int (u.1 44 (Int32.toNatClampNeg a1))]) (st := []) (ev_X4_littleMany N (u.1 44 (Int32.toNatClampNeg a1)) u) mw_X4_littleMany (by decide +kernel) (by decide +kernel) (by decide) rfl rfl (by decide) rfl (Nat.le_of_ble_eq_true rfl) (fun r164 => ?_)
          exact xm_iret (pc := 167) (by decide +kernel) rfl rfl
        · refine xm_tin (pc := 45) (tgt := 76) (off := 31) (dflt := 112) (lo := 1) (hi := 4) (offs := #[31, 45, 82, 88]) (len := 31) (1 : Int32) (by decide +kernel) (by decide) (by decide) (by decide) (by decide) ?_ ?_
          · refine xm_blk0 (pc' := 78) (lv' := [(0, .ref 39), (1, .int a1), (2, .int a2), (3, .int (u.1 43 (Int32.toNatClampNeg a1)))]) (st' := [.int (u.1 43 (Int32.toNatClampNeg a1)), .ref 39]) (u' := (xU u)) [(.aload_n 0, (0, 0, 0), 0, 0), (.iload_n 3, (0, 0, 0), 0, 0)] (by decide +kernel) rfl ?_
            refine xm_Vi (pc := 78) (mz := md_X4_upperOf) (idx := 160) (p1 := 1043) (a := 39) (as := [.int (u.1 43 (Int32.toNatClampNeg a1))]) (st := []) (ev_X4_upperOf (u.1 43 (Int32.toNatClampNeg a1)) u) mw_X4_upperOf (by decide +kernel) (by decide +kernel) (by decide) rfl rfl (by decide) rfl (Nat.le_of_ble_eq_true rfl) (fun r78 => ?_)
            refine xm_blk0 (pc' := 83) (lv' := [(0, .ref 39), (1, .int a1), (2, .int a2), (3, .int (u.1 43 (Int32.toNatClampNeg a1)))]) (st' := [.int (u.1 43 (Int32.toNatClampNeg a1)), .ref 39, .int r78]) (u' := (xU u)) [(.aload_n 0, (0, 0, 0), 0, 0), (.iload_n 3, (0, 0, 0), 0, 0)] (by decide +kernel) rfl ?_
            refine xm_Vi (pc := 83) (mz := md_X4_lowerOf) (idx := 163) (p1 := 1039) (a := 39) (as := [.int (u.1 43 (Int32.toNatClampNeg a1))]) (st := [.int r78]) (ev_X4_lowerOf (u.1 43 (Int32.toNatClampNeg a1)) u) mw_X4_lowerOf (by decide +kernel) (by decide +kernel) (by decide) rfl rfl (by decide) rfl (Nat.le_of_ble_eq_true rfl) (fun r83 => ?_)
            refine xm_blk0 (pc' := 89) (lv' := [(0, .ref 39), (1, .int a1), (2, .int a2), (3, .int (u.1 43 (Int32.toNatClampNeg a1)))]) (st' := [.int ((r78 - r83) - (1 : Int32))]) (u' := (xU u)) [(.isub, (0, 0, 0), 0, 0), (.iconst 1, (0, 0, 0), 1, 0), (.isub, (0, 0, 0), 0, 0)] (by decide +kernel) rfl ?_
            exact xm_iret (pc := 89) (by decide +kernel) rfl rfl
          refine xm_tin (pc := 45) (tgt := 90) (off := 45) (dflt := 112) (lo := 1) (hi := 4) (offs := #[31, 45, 82, 88]) (len := 31) (2 : Int32) (by decide +kernel) (by decide) (by decide) (by decide) (by decide) ?_ ?_
          · refine xm_blk0 (pc' := 92) (lv' := [(0, .ref 39), (1, .int a1), (2, .int a2), (3, .int (u.1 43 (Int32.toNatClampNeg a1)))]) (st' := [.int (u.1 43 (Int32.toNatClampNeg a1)), .ref 39]) (u' := (xU u)) [(.aload_n 0, (0, 0, 0), 0, 0), (.iload_n 3, (0, 0, 0), 0, 0)] (by decide +kernel) rfl ?_
            refine xm_Vi (pc := 92) (mz := md_X4_upperOf) (idx := 160) (p1 := 1043) (a := 39) (as := [.int (u.1 43 (Int32.toNatClampNeg a1))]) (st := []) (ev_X4_upperOf (u.1 43 (Int32.toNatClampNeg a1)) u) mw_X4_upperOf (by decide +kernel) (by decide +kernel) (by decide) rfl rfl (by decide) rfl (Nat.le_of_ble_eq_true rfl) (fun r92 => ?_)
            refine xm_blk (bs := [inb a1 8]) (pc' := 102) (lv' := [(0, .ref 39), (1, .int a1), (2, .int a2), (3, .int (u.1 43 (Int32.toNatClampNeg a1)))]) (st' := [.int (u.1 44 (Int32.toNatClampNeg a1)), .ref 39, .int r92]) (u' := (xU u)) [(.aload_n 0, (0, 0, 0), 0, 0), (.aload_n 0, (0, 0, 0), 0, 0), (.getfield 22, (4, 6, 826), 0, 0), (.iload_n 1, (0, 0, 0), 0, 0), (.iaload, (0, 0, 0), 0, 0)] (by decide +kernel) rfl ?_
            refine xm_Vi (pc := 102) (mz := md_X4_upperOf) (idx := 160) (p1 := 1043) (a := 39) (as := [.int (u.1 44 (Int32.toNatClampNeg a1))]) (st := [.int r92]) (ev_X4_upperOf (u.1 44 (Int32.toNatClampNeg a1)) u) mw_X4_upperOf (by decide +kernel) (by decide +kernel) (by decide) rfl rfl (by decide) rfl (Nat.le_of_ble_eq_true rfl) (fun r102 => ?_)
            refine xm_icmp_le (pc := 105) (off := 11) (tgt := 116) (by decide +kernel) (by decide) ?_ ?_
            · refine xm_blk (bs := [inb a1 8]) (pc' := 123) (lv' := [(0, .ref 39), (1, .int a1), (2, .int a2), (3, .int (u.1 43 (Int32.toNatClampNeg a1)))]) (st' := [.int (u.1 44 (Int32.toNatClampNeg a1)), .ref 39]) (u' := (xU u)) [(.aload_n 0, (0, 0, 0), 0, 0), (.aload_n 0, (0, 0, 0), 0, 0), (.getfield 22, (4, 6, 826), 0, 0), (.iload_n 1, (0, 0, 0), 0, 0), (.iaload, (0, 0, 0), 0, 0)] (by decide +kernel) rfl ?_
              refine xm_Vi (pc := 123) (mz := md_X4_upperOf) (idx := 160) (p1 := 1043) (a := 39) (as := [.int (u.1 44 (Int32.toNatClampNeg a1))]) (st := []) (ev_X4_upperOf (u.1 44 (Int32.toNatClampNeg a1)) u) mw_X4_upperOf (by decide +kernel) (by decide +kernel) (by decide) rfl rfl (by decide) rfl (Nat.le_of_ble_eq_true rfl) (fun r123 => ?_)
              refine xm_wk [] (lv' := []) rfl ?_
              exact go_X4_mark_L126 N r123 u
            · refine xm_blk0 (pc' := 110) (lv' := [(0, .ref 39), (1, .int a1), (2, .int a2), (3, .int (u.1 43 (Int32.toNatClampNeg a1)))]) (st' := [.int (u.1 43 (Int32.toNatClampNeg a1)), .ref 39]) (u' := (xU u)) [(.aload_n 0, (0, 0, 0), 0, 0), (.iload_n 3, (0, 0, 0), 0, 0)] (by decide +kernel) rfl ?_
              refine xm_Vi (pc := 110) (mz := md_X4_upperOf) (idx := 160) (p1 := 1043) (a := 39) (as := [.int (u.1 43 (Int32.toNatClampNeg a1))]) (st := []) (ev_X4_upperOf (u.1 43 (Int32.toNatClampNeg a1)) u) mw_X4_upperOf (by decide +kernel) (by decide +kernel) (by decide) rfl rfl (by decide) rfl (Nat.le_of_ble_eq_true rfl) (fun r110 => ?_)
              refine xm_goto (pc := 113) (off := 13) (tgt := 126) (by decide +kernel) (by decide) ?_
              refine xm_wk [] (lv' := []) rfl ?_
              exact go_X4_mark_L126 N r110 u
          refine xm_tin (pc := 45) (tgt := 127) (off := 82) (dflt := 112) (lo := 1) (hi := 4) (offs := #[31, 45, 82, 88]) (len := 31) (3 : Int32) (by decide +kernel) (by decide) (by decide) (by decide) (by decide) ?_ ?_
          · refine xm_blk0 (pc' := 129) (lv' := [(0, .ref 39), (1, .int a1), (2, .int a2), (3, .int (u.1 43 (Int32.toNatClampNeg a1)))]) (st' := [.int (u.1 43 (Int32.toNatClampNeg a1)), .ref 39]) (u' := (xU u)) [(.aload_n 0, (0, 0, 0), 0, 0), (.iload_n 3, (0, 0, 0), 0, 0)] (by decide +kernel) rfl ?_
            refine xm_Vi (pc := 129) (mz := md_X4_muchAlone) (idx := 203) (p1 := 1067) (a := 39) (as := [.int (u.1 43 (Int32.toNatClampNeg a1))]) (st := []) (ev_X4_muchAlone N (u.1 43 (Int32.toNatClampNeg a1)) u) mw_X4_muchAlone (by decide +kernel) (by decide +kernel) (by decide) rfl rfl (by decide) rfl (Nat.le_of_ble_eq_true rfl) (fun r129 => ?_)
            exact xm_iret (pc := 132) (by decide +kernel) rfl rfl
          refine xm_tin (pc := 45) (tgt := 133) (off := 88) (dflt := 112) (lo := 1) (hi := 4) (offs := #[31, 45, 82, 88]) (len := 31) (4 : Int32) (by decide +kernel) (by decide) (by decide) (by decide) (by decide) ?_ ?_
          · refine xm_blk0 (pc' := 136) (lv' := [(0, .ref 39), (1, .int a1), (2, .int a2), (3, .int (u.1 43 (Int32.toNatClampNeg a1)))]) (st' := [.int (u.1 43 (Int32.toNatClampNeg a1)), .ref 39, .ref 39]) (u' := (xU u)) [(.aload_n 0, (0, 0, 0), 0, 0), (.aload_n 0, (0, 0, 0), 0, 0), (.iload_n 3, (0, 0, 0), 0, 0)] (by decide +kernel) rfl ?_
            refine xm_Vi (pc := 136) (mz := md_X4_half) (idx := 172) (p1 := 1051) (a := 39) (as := [.int (u.1 43 (Int32.toNatClampNeg a1))]) (st := [.ref 39]) (ev_X4_half (u.1 43 (Int32.toNatClampNeg a1)) u) mw_X4_half (by decide +kernel) (by decide +kernel) (by decide) rfl rfl (by decide) rfl (Nat.le_of_ble_eq_true rfl) (fun r136 => ?_)
            refine xm_blk0 (pc' := 140) (lv' := [(0, .ref 39), (1, .int a1), (2, .int a2), (3, .int (u.1 43 (Int32.toNatClampNeg a1)))]) (st' := [.int (u.1 43 (Int32.toNatClampNeg a1)), .int r136, .ref 39]) (u' := (xU u)) [(.iload_n 3, (0, 0, 0), 0, 0)] (by decide +kernel) rfl ?_
            refine xm_Vi (pc := 140) (mz := md_X4_isBetween) (idx := 166) (p1 := 1035) (a := 39) (as := [.int r136, .int (u.1 43 (Int32.toNatClampNeg a1))]) (st := []) (ev_X4_isBetween r136 (u.1 43 (Int32.toNatClampNeg a1)) u) mw_X4_isBetween (by decide +kernel) (by decide +kernel) (by decide) rfl rfl (by decide) rfl (Nat.le_of_ble_eq_true rfl) (fun r140 => ?_)
            refine xm_if_eq (pc := 143) (off := 11) (tgt := 154) (by decide +kernel) (by decide) ?_ ?_
            · refine xm_blk0 (pc' := 156) (lv' := [(0, .ref 39), (1, .int a1), (2, .int a2), (3, .int (u.1 43 (Int32.toNatClampNeg a1)))]) (st' := [.int (-9 : Int32)]) (u' := (xU u)) [(.bipush (-9), (0, 0, 0), -9, 0)] (by decide +kernel) rfl ?_
              refine xm_wk [] (lv' := []) rfl ?_
              exact go_X4_mark_L156 N (-9 : Int32) u
            · refine xm_blk0 (pc' := 148) (lv' := [(0, .ref 39), (1, .int a1), (2, .int a2), (3, .int (u.1 43 (Int32.toNatClampNeg a1)))]) (st' := [.int (u.1 43 (Int32.toNatClampNeg a1)), .ref 39]) (u' := (xU u)) [(.aload_n 0, (0, 0, 0), 0, 0), (.iload_n 3, (0, 0, 0), 0, 0)] (by decide +kernel) rfl ?_
              refine xm_Vi (pc := 148) (mz := md_X4_half) (idx := 172) (p1 := 1051) (a := 39) (as := [.int (u.1 43 (Int32.toNatClampNeg a1))]) (st := []) (ev_X4_half (u.1 43 (Int32.toNatClampNeg a1)) u) mw_X4_half (by decide +kernel) (by decide +kernel) (by decide) rfl rfl (by decide) rfl (Nat.le_of_ble_eq_true rfl) (fun r148 => ?_)
              refine xm_goto (pc := 151) (off := 5) (tgt := 156) (by decide +kernel) (by decide) ?_
              refine xm_wk [] (lv' := []) rfl ?_
              exact go_X4_mark_L156 N r148 u
          exact xm_none
      · refine xm_blk0 (pc' := 33) (lv' := [(0, .ref 39), (1, .int a1), (2, .int a2)]) (st' := [.int (3 : Int32), .ref 39]) (u' := (xU u)) [(.aload_n 0, (0, 0, 0), 0, 0), (.iconst 3, (0, 0, 0), 3, 0)] (by decide +kernel) rfl ?_
        refine xm_Vm (pc := 33) (mz := md_X4_find) (idx := 82) (p1 := 908) (a := 39) (as := [.int (3 : Int32)]) (st := []) (ev_X4_find (3 : Int32) u) mw_X4_find (by decide +kernel) (by decide +kernel) (by decide) rfl rfl (by decide) rfl (Nat.le_of_ble_eq_true rfl) (fun r33 => ?_)
        exact xm_iret (pc := 36) (by decide +kernel) rfl rfl
    · refine xm_wk [] (lv' := []) rfl ?_
      exact go_X4_mark_L20 N u
theorem ev_X4_mark (N : Nat) (a1 : Int32) (a2 : Int32) (u : xN) : ∀ r, f_X4_mark N a1 a2 u = some r → xEm md_X4_mark yX4_mark [.ref 39, .int a1, .int a2] (xU u) (some (.int r.1), xU r.2) := xm_met (res := rsM) (as := [.ref 39, .int a1, .int a2]) (go_X4_mark N a1 a2 u) (by decide) rfl (Nat.le_of_ble_eq_true rfl)
theorem mw_X4_isTrait : xMs yX4_isTrait cX4_isTrait 1 (some .boolean) 1 := xMs_of (p1 := 1081) (p2 := 1080) (p3 := 97) (by decide +kernel)
/-! NeitherBareModel.isTrait(I)Z  -/
abbrev md_X4_isTrait : xMd := (cX4_isTrait, RX4, 1, some .boolean, 2)
def f_X4_isTrait (a0 : Int32) : Option Int32 := Option.bind (f_X4_in (Int32.toInt64 a0) (0 : Int64) (3 : Int64)) (fun r6 => gdl [isb r6] (some r6))
set_option maxRecDepth 20000 in
theorem go_X4_isTrait (a0 : Int32) (u : xN) : xGm md_X4_isTrait (rsI (xU u)) (f_X4_isTrait a0) 0 [(0, .int a0)] [] (xU u) := by
  unfold f_X4_isTrait
  refine xm_blk0 (pc' := 6) (lv' := [(0, .int a0)]) (st' := [.long (3 : Int64), .long (0 : Int64), .long (Int32.toInt64 a0)]) (u' := (xU u)) [(.iload_n 0, (0, 0, 0), 0, 0), (.i2l, (0, 0, 0), 0, 0), (.lconst 0, (0, 0, 0), 0, 0), (.ldc2_w 76, (0, 0, 955), 0, 3)] (by decide +kernel) rfl ?_
  refine xm_Si (pc := 6) (mz := md_X4_in) (idx := 72) (p1 := 905) (as := [.long (Int32.toInt64 a0), .long (0 : Int64), .long (3 : Int64)]) (st := []) (ev_X4_in (Int32.toInt64 a0) (0 : Int64) (3 : Int64) u) mw_X4_in (by decide +kernel) (by decide +kernel) (by decide) rfl (Nat.le_of_ble_eq_true rfl) (fun r6 => ?_)
  exact xm_zret (pc := 9) (by decide +kernel) rfl rfl
theorem ev_X4_isTrait (a0 : Int32) (u : xN) : ∀ r, f_X4_isTrait a0 = some r → xEm md_X4_isTrait yX4_isTrait [.int a0] (xU u) (some (.int r), (xU u)) := xm_met (res := (rsI (xU u))) (as := [.int a0]) (go_X4_isTrait a0 u) (by decide) rfl (Nat.le_of_ble_eq_true rfl)
