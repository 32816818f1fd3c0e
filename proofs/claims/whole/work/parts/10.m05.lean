theorem mw_X4_noRulings : xMv yX4_noRulings cX4_noRulings 4 (some .int) 1 := xMv_of (p1 := 1232) (p2 := 1231) (p3 := 97) (p4 := 81) (by decide +kernel)
/-! NeitherBareModel.noRulings(I)I (39, None) -/
abbrev md_X4_noRulings : xMd := (cX4_noRulings, RX4, 4, some .int, 3)
def f_X4_noRulings_L104 (N : Nat) (rec36 : Int32 → Int32 → Int32 → xN → Option (Int32 × xN)) (v1 : Int32) (v3 : Int32) (t0 : Int32) (u : xN) : Option (Int32 × xN) := rec36 v1 t0 (v3 + (1 : Int32)) u
set_option maxRecDepth 20000 in
theorem go_X4_noRulings_L104 (N : Nat) (rec36 : Int32 → Int32 → Int32 → xN → Option (Int32 × xN)) (h36 : ∀ (v1 : Int32) (v2 : Int32) (v3 : Int32) (u : xN), xGm md_X4_noRulings rsM (rec36 v1 v2 v3 u) 36 [(0, .ref 39), (1, .int v1), (2, .int v2), (3, .int v3)] [] (xU u)) (v1 : Int32) (v3 : Int32) (t0 : Int32) (u : xN) : xGm md_X4_noRulings rsM (f_X4_noRulings_L104 N rec36 v1 v3 t0 u) 104 [(0, .ref 39), (1, .int v1), (3, .int v3)] [.int t0] (xU u) := by
  unfold f_X4_noRulings_L104
  refine xm_blk0 (pc' := 108) (lv' := [(0, .ref 39), (1, .int v1), (2, .int t0), (3, .int (v3 + (1 : Int32)))]) (st' := []) (u' := (xU u)) [(.istore_n 2, (0, 0, 0), 0, 0), (.iinc 3 1, (0, 0, 0), 1, 0)] (by decide +kernel) rfl ?_
  refine xm_goto (pc := 108) (off := -72) (tgt := 36) (by decide +kernel) (by decide) ?_
  exact h36 v1 t0 (v3 + (1 : Int32)) u
def f_X4_noRulings_L103 (N : Nat) (rec36 : Int32 → Int32 → Int32 → xN → Option (Int32 × xN)) (v1 : Int32) (v3 : Int32) (u : xN) : Option (Int32 × xN) := f_X4_noRulings_L104 N rec36 v1 v3 (0 : Int32) u
set_option maxRecDepth 20000 in
theorem go_X4_noRulings_L103 (N : Nat) (rec36 : Int32 → Int32 → Int32 → xN → Option (Int32 × xN)) (h36 : ∀ (v1 : Int32) (v2 : Int32) (v3 : Int32) (u : xN), xGm md_X4_noRulings rsM (rec36 v1 v2 v3 u) 36 [(0, .ref 39), (1, .int v1), (2, .int v2), (3, .int v3)] [] (xU u)) (v1 : Int32) (v3 : Int32) (u : xN) : xGm md_X4_noRulings rsM (f_X4_noRulings_L103 N rec36 v1 v3 u) 103 [(0, .ref 39), (1, .int v1), (3, .int v3)] [] (xU u) := by
  unfold f_X4_noRulings_L103
  refine xm_blk0 (pc' := 104) (lv' := [(0, .ref 39), (1, .int v1), (3, .int v3)]) (st' := [.int (0 : Int32)]) (u' := (xU u)) [(.iconst 0, (0, 0, 0), 0, 0)] (by decide +kernel) rfl ?_
  exact go_X4_noRulings_L104 N rec36 h36 v1 v3 (0 : Int32) u
def f_X4_noRulings_L124 (N : Nat) (t0 : Int32) (u : xN) : Option (Int32 × xN) := some (t0, u)
set_option maxRecDepth 20000 in
theorem go_X4_noRulings_L124 (N : Nat) (t0 : Int32) (u : xN) : xGm md_X4_noRulings rsM (f_X4_noRulings_L124 N t0 u) 124 [] [.int t0] (xU u) := by
  unfold f_X4_noRulings_L124
  exact xm_iret (pc := 124) (by decide +kernel) rfl rfl
def f_X4_noRulings_L36b (N : Nat) (rec36 : Int32 → Int32 → Int32 → xN → Option (Int32 × xN)) (v1 : Int32) (v2 : Int32) (v3 : Int32) (u : xN) : Option (Int32 × xN) := gdl [inb v1 6, nzi (3 : Int32)] (if ((u.1 45 (Int32.toNatClampNeg v1)) / (3 : Int32)) ≤ v3 then (if v2 = (0 : Int32) then Option.bind (f_X4_find (3 : Int32) u) (fun r121 => f_X4_noRulings_L124 N r121.1 r121.2) else f_X4_noRulings_L124 N (0 : Int32) u) else if v2 = (0 : Int32) then f_X4_noRulings_L103 N rec36 v1 v3 u else Option.bind (f_X4_rule v1 v3 (0 : Int32) u) (fun r56 => Option.bind (f_X4_isTrait r56) (fun r59 => if r59 = (0 : Int32) then f_X4_noRulings_L103 N rec36 v1 v3 u else Option.bind (f_X4_rule v1 v3 (1 : Int32) u) (fun r69 => Option.bind (f_X4_in (Int32.toInt64 r69) (0 : Int64) (5 : Int64)) (fun r77 => if r77 = (0 : Int32) then f_X4_noRulings_L103 N rec36 v1 v3 u else Option.bind (f_X4_rule v1 v3 (2 : Int32) u) (fun r87 => Option.bind (f_X4_in (Int32.toInt64 r87) (0 : Int64) (1 : Int64)) (fun r93 => if r93 = (0 : Int32) then f_X4_noRulings_L103 N rec36 v1 v3 u else f_X4_noRulings_L104 N rec36 v1 v3 (1 : Int32) u)))))))
set_option maxRecDepth 20000 in
theorem go_X4_noRulings_L36b (N : Nat) (rec36 : Int32 → Int32 → Int32 → xN → Option (Int32 × xN)) (h36 : ∀ (v1 : Int32) (v2 : Int32) (v3 : Int32) (u : xN), xGm md_X4_noRulings rsM (rec36 v1 v2 v3 u) 36 [(0, .ref 39), (1, .int v1), (2, .int v2), (3, .int v3)] [] (xU u)) (v1 : Int32) (v2 : Int32) (v3 : Int32) (u : xN) : xGm md_X4_noRulings rsM (f_X4_noRulings_L36b N rec36 v1 v2 v3 u) 36 [(0, .ref 39), (1, .int v1), (2, .int v2), (3, .int v3)] [] (xU u) := by
  unfold f_X4_noRulings_L36b
  refine xm_blk (bs := [inb v1 6, nzi (3 : Int32)]) (pc' := 45) (lv' := [(0, .ref 39), (1, .int v1), (2, .int v2), (3, .int v3)]) (st' := [.int ((u.1 45 (Int32.toNatClampNeg v1)) / (3 : Int32)), .int v3]) (u' := (xU u)) [(.iload_n 3, (0, 0, 0), 0, 0), (.aload_n 0, (0, 0, 0), 0, 0), (.getfield 25, (4, 7, 827), 0, 0), (.iload_n 1, (0, 0, 0), 0, 0), (.iaload, (0, 0, 0), 0, 0), (.iconst 3, (0, 0, 0), 3, 0), (.idiv, (0, 0, 0), 0, 0)] (by decide +kernel) rfl ?_
  refine xm_icmp_ge (pc := 45) (off := 66) (tgt := 111) (by decide +kernel) (by decide) ?_ ?_
  · refine xm_blk0 (pc' := 112) (lv' := [(0, .ref 39), (1, .int v1), (2, .int v2), (3, .int v3)]) (st' := [.int v2]) (u' := (xU u)) [(.iload_n 2, (0, 0, 0), 0, 0)] (by decide +kernel) rfl ?_
    refine xm_if_eq (pc := 112) (off := 7) (tgt := 119) (by decide +kernel) (by decide) ?_ ?_
    · refine xm_blk0 (pc' := 121) (lv' := [(0, .ref 39), (1, .int v1), (2, .int v2), (3, .int v3)]) (st' := [.int (3 : Int32), .ref 39]) (u' := (xU u)) [(.aload_n 0, (0, 0, 0), 0, 0), (.iconst 3, (0, 0, 0), 3, 0)] (by decide +kernel) rfl ?_
      refine xm_Vm (pc := 121) (mz := md_X4_find) (idx := 82) (p1 := 908) (a := 39) (as := [.int (3 : Int32)]) (st := []) (ev_X4_find (3 : Int32) u) mw_X4_find (by decide +kernel) (by decide +kernel) (by decide) rfl rfl (by decide) rfl (Nat.le_of_ble_eq_true rfl) (fun r121 => ?_)
      refine xm_wk [] (lv' := []) rfl ?_
      exact go_X4_noRulings_L124 N r121.1 r121.2
    · refine xm_blk0 (pc' := 116) (lv' := [(0, .ref 39), (1, .int v1), (2, .int v2), (3, .int v3)]) (st' := [.int (0 : Int32)]) (u' := (xU u)) [(.iconst 0, (0, 0, 0), 0, 0)] (by decide +kernel) rfl ?_
      refine xm_goto (pc := 116) (off := 8) (tgt := 124) (by decide +kernel) (by decide) ?_
      refine xm_wk [] (lv' := []) rfl ?_
      exact go_X4_noRulings_L124 N (0 : Int32) u
  · refine xm_blk0 (pc' := 49) (lv' := [(0, .ref 39), (1, .int v1), (2, .int v2), (3, .int v3)]) (st' := [.int v2]) (u' := (xU u)) [(.iload_n 2, (0, 0, 0), 0, 0)] (by decide +kernel) rfl ?_
    refine xm_if_eq (pc := 49) (off := 54) (tgt := 103) (by decide +kernel) (by decide) ?_ ?_
    · refine xm_wk [0, 1, 3] (lv' := [(0, .ref 39), (1, .int v1), (3, .int v3)]) rfl ?_
      exact go_X4_noRulings_L103 N rec36 h36 v1 v3 u
    · refine xm_blk0 (pc' := 56) (lv' := [(0, .ref 39), (1, .int v1), (2, .int v2), (3, .int v3)]) (st' := [.int (0 : Int32), .int v3, .int v1, .ref 39]) (u' := (xU u)) [(.aload_n 0, (0, 0, 0), 0, 0), (.iload_n 1, (0, 0, 0), 0, 0), (.iload_n 3, (0, 0, 0), 0, 0), (.iconst 0, (0, 0, 0), 0, 0)] (by decide +kernel) rfl ?_
      refine xm_Vi (pc := 56) (mz := md_X4_rule) (idx := 261) (p1 := 1233) (a := 39) (as := [.int v1, .int v3, .int (0 : Int32)]) (st := []) (ev_X4_rule v1 v3 (0 : Int32) u) mw_X4_rule (by decide +kernel) (by decide +kernel) (by decide) rfl rfl (by decide) rfl (Nat.le_of_ble_eq_true rfl) (fun r56 => ?_)
      refine xm_Si (pc := 59) (mz := md_X4_isTrait) (idx := 209) (p1 := 1079) (as := [.int r56]) (st := []) (ev_X4_isTrait r56 u) mw_X4_isTrait (by decide +kernel) (by decide +kernel) (by decide) rfl (Nat.le_of_ble_eq_true rfl) (fun r59 => ?_)
      refine xm_if_eq (pc := 62) (off := 41) (tgt := 103) (by decide +kernel) (by decide) ?_ ?_
      · refine xm_wk [0, 1, 3] (lv' := [(0, .ref 39), (1, .int v1), (3, .int v3)]) rfl ?_
        exact go_X4_noRulings_L103 N rec36 h36 v1 v3 u
      · refine xm_blk0 (pc' := 69) (lv' := [(0, .ref 39), (1, .int v1), (2, .int v2), (3, .int v3)]) (st' := [.int (1 : Int32), .int v3, .int v1, .ref 39]) (u' := (xU u)) [(.aload_n 0, (0, 0, 0), 0, 0), (.iload_n 1, (0, 0, 0), 0, 0), (.iload_n 3, (0, 0, 0), 0, 0), (.iconst 1, (0, 0, 0), 1, 0)] (by decide +kernel) rfl ?_
        refine xm_Vi (pc := 69) (mz := md_X4_rule) (idx := 261) (p1 := 1233) (a := 39) (as := [.int v1, .int v3, .int (1 : Int32)]) (st := []) (ev_X4_rule v1 v3 (1 : Int32) u) mw_X4_rule (by decide +kernel) (by decide +kernel) (by decide) rfl rfl (by decide) rfl (Nat.le_of_ble_eq_true rfl) (fun r69 => ?_)
        refine xm_blk0 (pc' := 77) (lv' := [(0, .ref 39), (1, .int v1), (2, .int v2), (3, .int v3)]) (st' := [.long (5 : Int64), .long (0 : Int64), .long (Int32.toInt64 r69)]) (u' := (xU u)) [(.i2l, (0, 0, 0), 0, 0), (.lconst 0, (0, 0, 0), 0, 0), (.ldc2_w 70, (0, 0, 904), 0, 5)] (by decide +kernel) rfl ?_
        refine xm_Si (pc := 77) (mz := md_X4_in) (idx := 72) (p1 := 905) (as := [.long (Int32.toInt64 r69), .long (0 : Int64), .long (5 : Int64)]) (st := []) (ev_X4_in (Int32.toInt64 r69) (0 : Int64) (5 : Int64) u) mw_X4_in (by decide +kernel) (by decide +kernel) (by decide) rfl (Nat.le_of_ble_eq_true rfl) (fun r77 => ?_)
        refine xm_if_eq (pc := 80) (off := 23) (tgt := 103) (by decide +kernel) (by decide) ?_ ?_
        · refine xm_wk [0, 1, 3] (lv' := [(0, .ref 39), (1, .int v1), (3, .int v3)]) rfl ?_
          exact go_X4_noRulings_L103 N rec36 h36 v1 v3 u
        · refine xm_blk0 (pc' := 87) (lv' := [(0, .ref 39), (1, .int v1), (2, .int v2), (3, .int v3)]) (st' := [.int (2 : Int32), .int v3, .int v1, .ref 39]) (u' := (xU u)) [(.aload_n 0, (0, 0, 0), 0, 0), (.iload_n 1, (0, 0, 0), 0, 0), (.iload_n 3, (0, 0, 0), 0, 0), (.iconst 2, (0, 0, 0), 2, 0)] (by decide +kernel) rfl ?_
          refine xm_Vi (pc := 87) (mz := md_X4_rule) (idx := 261) (p1 := 1233) (a := 39) (as := [.int v1, .int v3, .int (2 : Int32)]) (st := []) (ev_X4_rule v1 v3 (2 : Int32) u) mw_X4_rule (by decide +kernel) (by decide +kernel) (by decide) rfl rfl (by decide) rfl (Nat.le_of_ble_eq_true rfl) (fun r87 => ?_)
          refine xm_blk0 (pc' := 93) (lv' := [(0, .ref 39), (1, .int v1), (2, .int v2), (3, .int v3)]) (st' := [.long (1 : Int64), .long (0 : Int64), .long (Int32.toInt64 r87)]) (u' := (xU u)) [(.i2l, (0, 0, 0), 0, 0), (.lconst 0, (0, 0, 0), 0, 0), (.lconst 1, (0, 0, 0), 0, 1)] (by decide +kernel) rfl ?_
          refine xm_Si (pc := 93) (mz := md_X4_in) (idx := 72) (p1 := 905) (as := [.long (Int32.toInt64 r87), .long (0 : Int64), .long (1 : Int64)]) (st := []) (ev_X4_in (Int32.toInt64 r87) (0 : Int64) (1 : Int64) u) mw_X4_in (by decide +kernel) (by decide +kernel) (by decide) rfl (Nat.le_of_ble_eq_true rfl) (fun r93 => ?_)
          refine xm_if_eq (pc := 96) (off := 7) (tgt := 103) (by decide +kernel) (by decide) ?_ ?_
          · refine xm_wk [0, 1, 3] (lv' := [(0, .ref 39), (1, .int v1), (3, .int v3)]) rfl ?_
            exact go_X4_noRulings_L103 N rec36 h36 v1 v3 u
          · refine xm_blk0 (pc' := 100) (lv' := [(0, .ref 39), (1, .int v1), (2, .int v2), (3, .int v3)]) (st' := [.int (1 : Int32)]) (u' := (xU u)) [(.iconst 1, (0, 0, 0), 1, 0)] (by decide +kernel) rfl ?_
            refine xm_goto (pc := 100) (off := 4) (tgt := 104) (by decide +kernel) (by decide) ?_
            refine xm_wk [0, 1, 3] (lv' := [(0, .ref 39), (1, .int v1), (3, .int v3)]) rfl ?_
            exact go_X4_noRulings_L104 N rec36 h36 v1 v3 (1 : Int32) u
def f_X4_noRulings_L36 (N : Nat) : Nat → Int32 → Int32 → Int32 → xN → Option (Int32 × xN)
  | 0 => fun _ _ _ _ => none
  | n + 1 => fun v1 v2 v3 u => f_X4_noRulings_L36b N (f_X4_noRulings_L36 N n) v1 v2 v3 u
theorem go_X4_noRulings_L36 (N : Nat) : ∀ (n : Nat) (v1 : Int32) (v2 : Int32) (v3 : Int32) (u : xN), xGm md_X4_noRulings rsM (f_X4_noRulings_L36 N n v1 v2 v3 u) 36 [(0, .ref 39), (1, .int v1), (2, .int v2), (3, .int v3)] [] (xU u) := by
  intro n
  induction n with
  | zero => intro v1 v2 v3 u; exact xm_none
  | succ n ih => intro v1 v2 v3 u; exact go_X4_noRulings_L36b N _ ih v1 v2 v3 u
def f_X4_noRulings (N : Nat) (a1 : Int32) (u : xN) : Option (Int32 × xN) := gdl [inb a1 6] (if (0 : Int32) ≤ (u.1 45 (Int32.toNatClampNeg a1)) then (gdl [inb a1 6, nzi (3 : Int32)] (if ((u.1 45 (Int32.toNatClampNeg a1)) - (u.1 45 (Int32.toNatClampNeg a1)) / (3 : Int32) * (3 : Int32)) = (0 : Int32) then f_X4_noRulings_L36 N N a1 (1 : Int32) (0 : Int32) u else Option.bind (f_X4_find (5 : Int32) u) (fun r28 => some (r28.1, r28.2)))) else Option.bind (f_X4_find (1 : Int32) u) (fun r11 => some (r11.1, r11.2)))
set_option maxRecDepth 20000 in
theorem go_X4_noRulings (N : Nat) (a1 : Int32) (u : xN) : xGm md_X4_noRulings rsM (f_X4_noRulings N a1 u) 0 [(0, .ref 39), (1, .int a1)] [] (xU u) := by
  unfold f_X4_noRulings
  refine xm_blk (bs := [inb a1 6]) (pc' := 6) (lv' := [(0, .ref 39), (1, .int a1)]) (st' := [.int (u.1 45 (Int32.toNatClampNeg a1))]) (u' := (xU u)) [(.aload_n 0, (0, 0, 0), 0, 0), (.getfield 25, (4, 7, 827), 0, 0), (.iload_n 1, (0, 0, 0), 0, 0), (.iaload, (0, 0, 0), 0, 0)] (by decide +kernel) rfl ?_
  refine xm_if_ge (pc := 6) (off := 9) (tgt := 15) (by decide +kernel) (by decide) ?_ ?_
  · refine xm_blk (bs := [inb a1 6, nzi (3 : Int32)]) (pc' := 23) (lv' := [(0, .ref 39), (1, .int a1)]) (st' := [.int ((u.1 45 (Int32.toNatClampNeg a1)) - (u.1 45 (Int32.toNatClampNeg a1)) / (3 : Int32) * (3 : Int32))]) (u' := (xU u)) [(.aload_n 0, (0, 0, 0), 0, 0), (.getfield 25, (4, 7, 827), 0, 0), (.iload_n 1, (0, 0, 0), 0, 0), (.iaload, (0, 0, 0), 0, 0), (.iconst 3, (0, 0, 0), 3, 0), (.irem, (0, 0, 0), 0, 0)] (by decide +kernel) rfl ?_
    refine xm_if_eq (pc := 23) (off := 9) (tgt := 32) (by decide +kernel) (by decide) ?_ ?_
    · refine xm_blk0 (pc' := 36) (lv' := [(0, .ref 39), (1, .int a1), (2, .int (1 : Int32)), (3, .int (0 : Int32))]) (st' := []) (u' := (xU u)) [(.iconst 1, (0, 0, 0), 1, 0), (.istore_n 2, (0, 0, 0), 0, 0), (.iconst 0, (0, 0, 0), 0, 0), (.istore_n 3, (0, 0, 0), 0, 0)] (by decide +kernel) rfl ?_
      exact go_X4_noRulings_L36 N N a1 (1 : Int32) (0 : Int32) u
    · refine xm_blk0 (pc' := 28) (lv' := [(0, .ref 39), (1, .int a1)]) (st' := [.int (5 : Int32), .ref 39]) (u' := (xU u)) [(.aload_n 0, (0, 0, 0), 0, 0), (.iconst 5, (0, 0, 0), 5, 0)] (by decide +kernel) rfl ?_
      refine xm_Vm (pc := 28) (mz := md_X4_find) (idx := 82) (p1 := 908) (a := 39) (as := [.int (5 : Int32)]) (st := []) (ev_X4_find (5 : Int32) u) mw_X4_find (by decide +kernel) (by decide +kernel) (by decide) rfl rfl (by decide) rfl (Nat.le_of_ble_eq_true rfl) (fun r28 => ?_)
      exact xm_iret (pc := 31) (by decide +kernel) rfl rfl
  · refine xm_blk0 (pc' := 11) (lv' := [(0, .ref 39), (1, .int a1)]) (st' := [.int (1 : Int32), .ref 39]) (u' := (xU u)) [(.aload_n 0, (0, 0, 0), 0, 0), (.iconst 1, (0, 0, 0), 1, 0)] (by decide +kernel) rfl ?_
    refine xm_Vm (pc := 11) (mz := md_X4_find) (idx := 82) (p1 := 908) (a := 39) (as := [.int (1 : Int32)]) (st := []) (ev_X4_find (1 : Int32) u) mw_X4_find (by decide +kernel) (by decide +kernel) (by decide) rfl rfl (by decide) rfl (Nat.le_of_ble_eq_true rfl) (fun r11 => ?_)
    exact xm_iret (pc := 14) (by decide +kernel) rfl rfl
theorem ev_X4_noRulings (N : Nat) (a1 : Int32) (u : xN) : ∀ r, f_X4_noRulings N a1 u = some r → xEm md_X4_noRulings yX4_noRulings [.ref 39, .int a1] (xU u) (some (.int r.1), xU r.2) := xm_met (res := rsM) (as := [.ref 39, .int a1]) (go_X4_noRulings N a1 u) (by decide) rfl (Nat.le_of_ble_eq_true rfl)
theorem mw_X4_against : xMv yX4_against cX4_against 4 (some .boolean) 3 := xMv_of (p1 := 1240) (p2 := 1239) (p3 := 97) (p4 := 83) (by decide +kernel)
/-! NeitherBareModel.against(III)Z (39, None, None, None) -/
abbrev md_X4_against : xMd := (cX4_against, RX4, 4, some .boolean, 2)
def f_X4_against_L60 (u : xN) (t0 : Int32) : Option Int32 := gdl [isb t0] (some t0)
set_option maxRecDepth 20000 in
theorem go_X4_against_L60 (u : xN) (t0 : Int32) : xGm md_X4_against (rsI (xU u)) (f_X4_against_L60 u t0) 60 [] [.int t0] (xU u) := by
  unfold f_X4_against_L60
  exact xm_zret (pc := 60) (by decide +kernel) rfl rfl
def f_X4_against_L59 (u : xN) : Option Int32 := f_X4_against_L60 u (0 : Int32)
set_option maxRecDepth 20000 in
theorem go_X4_against_L59 (u : xN) : xGm md_X4_against (rsI (xU u)) (f_X4_against_L59 u) 59 [] [] (xU u) := by
  unfold f_X4_against_L59
  refine xm_blk0 (pc' := 60) (lv' := []) (st' := [.int (0 : Int32)]) (u' := (xU u)) [(.iconst 0, (0, 0, 0), 0, 0)] (by decide +kernel) rfl ?_
  exact go_X4_against_L60 u (0 : Int32)
def f_X4_against (a1 : Int32) (a2 : Int32) (a3 : Int32) (u : xN) : Option Int32 := Option.bind (f_X4_rule a1 a2 (0 : Int32) u) (fun r4 => Option.bind (f_X4_rule a1 a3 (0 : Int32) u) (fun r11 => if r4 = r11 then Option.bind (f_X4_rule a1 a2 (2 : Int32) u) (fun r21 => if r21 = (1 : Int32) then Option.bind (f_X4_rule a1 a3 (2 : Int32) u) (fun r32 => if r32 = (0 : Int32) then Option.bind (f_X4_rule a1 a3 (1 : Int32) u) (fun r42 => Option.bind (f_X4_rule a1 a2 (1 : Int32) u) (fun r49 => if r42 < r49 then f_X4_against_L59 u else f_X4_against_L60 u (1 : Int32))) else f_X4_against_L59 u) else f_X4_against_L59 u) else f_X4_against_L59 u))
set_option maxRecDepth 20000 in
theorem go_X4_against (a1 : Int32) (a2 : Int32) (a3 : Int32) (u : xN) : xGm md_X4_against (rsI (xU u)) (f_X4_against a1 a2 a3 u) 0 [(0, .ref 39), (1, .int a1), (2, .int a2), (3, .int a3)] [] (xU u) := by
  unfold f_X4_against
  refine xm_blk0 (pc' := 4) (lv' := [(0, .ref 39), (1, .int a1), (2, .int a2), (3, .int a3)]) (st' := [.int (0 : Int32), .int a2, .int a1, .ref 39]) (u' := (xU u)) [(.aload_n 0, (0, 0, 0), 0, 0), (.iload_n 1, (0, 0, 0), 0, 0), (.iload_n 2, (0, 0, 0), 0, 0), (.iconst 0, (0, 0, 0), 0, 0)] (by decide +kernel) rfl ?_
  refine xm_Vi (pc := 4) (mz := md_X4_rule) (idx := 261) (p1 := 1233) (a := 39) (as := [.int a1, .int a2, .int (0 : Int32)]) (st := []) (ev_X4_rule a1 a2 (0 : Int32) u) mw_X4_rule (by decide +kernel) (by decide +kernel) (by decide) rfl rfl (by decide) rfl (Nat.le_of_ble_eq_true rfl) (fun r4 => ?_)
  refine xm_blk0 (pc' := 11) (lv' := [(0, .ref 39), (1, .int a1), (2, .int a2), (3, .int a3)]) (st' := [.int (0 : Int32), .int a3, .int a1, .ref 39, .int r4]) (u' := (xU u)) [(.aload_n 0, (0, 0, 0), 0, 0), (.iload_n 1, (0, 0, 0), 0, 0), (.iload_n 3, (0, 0, 0), 0, 0), (.iconst 0, (0, 0, 0), 0, 0)] (by decide +kernel) rfl ?_
  refine xm_Vi (pc := 11) (mz := md_X4_rule) (idx := 261) (p1 := 1233) (a := 39) (as := [.int a1, .int a3, .int (0 : Int32)]) (st := [.int r4]) (ev_X4_rule a1 a3 (0 : Int32) u) mw_X4_rule (by decide +kernel) (by decide +kernel) (by decide) rfl rfl (by decide) rfl (Nat.le_of_ble_eq_true rfl) (fun r11 => ?_)
  refine xm_icmp_ne (pc := 14) (off := 45) (tgt := 59) (by decide +kernel) (by decide) ?_ ?_
  · refine xm_wk [] (lv' := []) rfl ?_
    exact go_X4_against_L59 u
  · refine xm_blk0 (pc' := 21) (lv' := [(0, .ref 39), (1, .int a1), (2, .int a2), (3, .int a3)]) (st' := [.int (2 : Int32), .int a2, .int a1, .ref 39]) (u' := (xU u)) [(.aload_n 0, (0, 0, 0), 0, 0), (.iload_n 1, (0, 0, 0), 0, 0), (.iload_n 2, (0, 0, 0), 0, 0), (.iconst 2, (0, 0, 0), 2, 0)] (by decide +kernel) rfl ?_
    refine xm_Vi (pc := 21) (mz := md_X4_rule) (idx := 261) (p1 := 1233) (a := 39) (as := [.int a1, .int a2, .int (2 : Int32)]) (st := []) (ev_X4_rule a1 a2 (2 : Int32) u) mw_X4_rule (by decide +kernel) (by decide +kernel) (by decide) rfl rfl (by decide) rfl (Nat.le_of_ble_eq_true rfl) (fun r21 => ?_)
    refine xm_blk0 (pc' := 25) (lv' := [(0, .ref 39), (1, .int a1), (2, .int a2), (3, .int a3)]) (st' := [.int (1 : Int32), .int r21]) (u' := (xU u)) [(.iconst 1, (0, 0, 0), 1, 0)] (by decide +kernel) rfl ?_
    refine xm_icmp_ne (pc := 25) (off := 34) (tgt := 59) (by decide +kernel) (by decide) ?_ ?_
    · refine xm_wk [] (lv' := []) rfl ?_
      exact go_X4_against_L59 u
    · refine xm_blk0 (pc' := 32) (lv' := [(0, .ref 39), (1, .int a1), (2, .int a2), (3, .int a3)]) (st' := [.int (2 : Int32), .int a3, .int a1, .ref 39]) (u' := (xU u)) [(.aload_n 0, (0, 0, 0), 0, 0), (.iload_n 1, (0, 0, 0), 0, 0), (.iload_n 3, (0, 0, 0), 0, 0), (.iconst 2, (0, 0, 0), 2, 0)] (by decide +kernel) rfl ?_
      refine xm_Vi (pc := 32) (mz := md_X4_rule) (idx := 261) (p1 := 1233) (a := 39) (as := [.int a1, .int a3, .int (2 : Int32)]) (st := []) (ev_X4_rule a1 a3 (2 : Int32) u) mw_X4_rule (by decide +kernel) (by decide +kernel) (by decide) rfl rfl (by decide) rfl (Nat.le_of_ble_eq_true rfl) (fun r32 => ?_)
      refine xm_if_ne (pc := 35) (off := 24) (tgt := 59) (by decide +kernel) (by decide) ?_ ?_
      · refine xm_wk [] (lv' := []) rfl ?_
        exact go_X4_against_L59 u
      · refine xm_blk0 (pc' := 42) (lv' := [(0, .ref 39), (1, .int a1), (2, .int a2), (3, .int a3)]) (st' := [.int (1 : Int32), .int a3, .int a1, .ref 39]) (u' := (xU u)) [(.aload_n 0, (0, 0, 0), 0, 0), (.iload_n 1, (0, 0, 0), 0, 0), (.iload_n 3, (0, 0, 0), 0, 0), (.iconst 1, (0, 0, 0), 1, 0)] (by decide +kernel) rfl ?_
        refine xm_Vi (pc := 42) (mz := md_X4_rule) (idx := 261) (p1 := 1233) (a := 39) (as := [.int a1, .int a3, .int (1 : Int32)]) (st := []) (ev_X4_rule a1 a3 (1 : Int32) u) mw_X4_rule (by decide +kernel) (by decide +kernel) (by decide) rfl rfl (by decide) rfl (Nat.le_of_ble_eq_true rfl) (fun r42 => ?_)
        refine xm_blk0 (pc' := 49) (lv' := [(0, .ref 39), (1, .int a1), (2, .int a2), (3, .int a3)]) (st' := [.int (1 : Int32), .int a2, .int a1, .ref 39, .int r42]) (u' := (xU u)) [(.aload_n 0, (0, 0, 0), 0, 0), (.iload_n 1, (0, 0, 0), 0, 0), (.iload_n 2, (0, 0, 0), 0, 0), (.iconst 1, (0, 0, 0), 1, 0)] (by decide +kernel) rfl ?_
        refine xm_Vi (pc := 49) (mz := md_X4_rule) (idx := 261) (p1 := 1233) (a := 39) (as := [.int a1, .int a2, .int (1 : Int32)]) (st := [.int r42]) (ev_X4_rule a1 a2 (1 : Int32) u) mw_X4_rule (by decide +kernel) (by decide +kernel) (by decide) rfl rfl (by decide) rfl (Nat.le_of_ble_eq_true rfl) (fun r49 => ?_)
        refine xm_icmp_lt (pc := 52) (off := 7) (tgt := 59) (by decide +kernel) (by decide) ?_ ?_
        · refine xm_wk [] (lv' := []) rfl ?_
          exact go_X4_against_L59 u
        · refine xm_blk0 (pc' := 56) (lv' := [(0, .ref 39), (1, .int a1), (2, .int a2), (3, .int a3)]) (st' := [.int (1 : Int32)]) (u' := (xU u)) [(.iconst 1, (0, 0, 0), 1, 0)] (by decide +kernel) rfl ?_
          refine xm_goto (pc := 56) (off := 4) (tgt := 60) (by decide +kernel) (by decide) ?_
          refine xm_wk [] (lv' := []) rfl ?_
          exact go_X4_against_L60 u (1 : Int32)
theorem ev_X4_against (a1 : Int32) (a2 : Int32) (a3 : Int32) (u : xN) : ∀ r, f_X4_against a1 a2 a3 u = some r → xEm md_X4_against yX4_against [.ref 39, .int a1, .int a2, .int a3] (xU u) (some (.int r), (xU u)) := xm_met (res := (rsI (xU u))) (as := [.ref 39, .int a1, .int a2, .int a3]) (go_X4_against a1 a2 a3 u) (by decide) rfl (Nat.le_of_ble_eq_true rfl)
theorem mw_X4_contradict : xMv yX4_contradict cX4_contradict 8 (some .int) 1 := xMv_of (p1 := 1228) (p2 := 1226) (p3 := 97) (p4 := 1227) (by decide +kernel)
/-! NeitherBareModel.contradict(I)I (39, None) -/
abbrev md_X4_contradict : xMd := (cX4_contradict, RX4, 8, some .int, 4)
def f_X4_contradict_L128 (N : Nat) (rec30 : Int32 → Int32 → Int32 → Int32 → xN → Option (Int32 × xN)) (rec49 : Int32 → Int32 → Int32 → Int32 → Int32 → xN → Option (Int32 × xN)) (v1 : Int32) (v4 : Int32) (v5 : Int32) (v6 : Int32) (t0 : Int32) (t1 : Int32) (u : xN) : Option (Int32 × xN) := rec49 v1 (t1 + t0) v4 v5 (v6 + (1 : Int32)) u
set_option maxRecDepth 20000 in
theorem go_X4_contradict_L128 (N : Nat) (rec30 : Int32 → Int32 → Int32 → Int32 → xN → Option (Int32 × xN)) (h30 : ∀ (v1 : Int32) (v3 : Int32) (v4 : Int32) (v5 : Int32) (u : xN), xGm md_X4_contradict rsM (rec30 v1 v3 v4 v5 u) 30 [(0, .ref 39), (1, .int v1), (3, .int v3), (4, .int v4), (5, .int v5)] [] (xU u)) (rec49 : Int32 → Int32 → Int32 → Int32 → Int32 → xN → Option (Int32 × xN)) (h49 : ∀ (v1 : Int32) (v3 : Int32) (v4 : Int32) (v5 : Int32) (v6 : Int32) (u : xN), xGm md_X4_contradict rsM (rec49 v1 v3 v4 v5 v6 u) 49 [(0, .ref 39), (1, .int v1), (3, .int v3), (4, .int v4), (5, .int v5), (6, .int v6)] [] (xU u)) (v1 : Int32) (v4 : Int32) (v5 : Int32) (v6 : Int32) (t0 : Int32) (t1 : Int32) (u : xN) : xGm md_X4_contradict rsM (f_X4_contradict_L128 N rec30 rec49 v1 v4 v5 v6 t0 t1 u) 128 [(0, .ref 39), (1, .int v1), (4, .int v4), (5, .int v5), (6, .int v6)] [.int t0, .int t1] (xU u) := by
  unfold f_X4_contradict_L128
  refine xm_blk0 (pc' := 133) (lv' := [(0, .ref 39), (1, .int v1), (3, .int (t1 + t0)), (4, .int v4), (5, .int v5), (6, .int (v6 + (1 : Int32)))]) (st' := []) (u' := (xU u)) [(.iadd, (0, 0, 0), 0, 0), (.istore_n 3, (0, 0, 0), 0, 0), (.iinc 6 1, (0, 0, 0), 1, 0)] (by decide +kernel) rfl ?_
  refine xm_goto (pc := 133) (off := -84) (tgt := 49) (by decide +kernel) (by decide) ?_
  exact h49 v1 (t1 + t0) v4 v5 (v6 + (1 : Int32)) u
def f_X4_contradict_L115 (N : Nat) (rec30 : Int32 → Int32 → Int32 → Int32 → xN → Option (Int32 × xN)) (rec49 : Int32 → Int32 → Int32 → Int32 → Int32 → xN → Option (Int32 × xN)) (v1 : Int32) (v3 : Int32) (v5 : Int32) (v6 : Int32) (v7 : Int32) (t0 : Int32) (u : xN) : Option (Int32 × xN) := if v7 = (0 : Int32) then f_X4_contradict_L128 N rec30 rec49 v1 t0 v5 v6 (0 : Int32) v3 u else f_X4_contradict_L128 N rec30 rec49 v1 t0 v5 v6 (1 : Int32) v3 u
set_option maxRecDepth 20000 in
theorem go_X4_contradict_L115 (N : Nat) (rec30 : Int32 → Int32 → Int32 → Int32 → xN → Option (Int32 × xN)) (h30 : ∀ (v1 : Int32) (v3 : Int32) (v4 : Int32) (v5 : Int32) (u : xN), xGm md_X4_contradict rsM (rec30 v1 v3 v4 v5 u) 30 [(0, .ref 39), (1, .int v1), (3, .int v3), (4, .int v4), (5, .int v5)] [] (xU u)) (rec49 : Int32 → Int32 → Int32 → Int32 → Int32 → xN → Option (Int32 × xN)) (h49 : ∀ (v1 : Int32) (v3 : Int32) (v4 : Int32) (v5 : Int32) (v6 : Int32) (u : xN), xGm md_X4_contradict rsM (rec49 v1 v3 v4 v5 v6 u) 49 [(0, .ref 39), (1, .int v1), (3, .int v3), (4, .int v4), (5, .int v5), (6, .int v6)] [] (xU u)) (v1 : Int32) (v3 : Int32) (v5 : Int32) (v6 : Int32) (v7 : Int32) (t0 : Int32) (u : xN) : xGm md_X4_contradict rsM (f_X4_contradict_L115 N rec30 rec49 v1 v3 v5 v6 v7 t0 u) 115 [(0, .ref 39), (1, .int v1), (3, .int v3), (5, .int v5), (6, .int v6), (7, .int v7)] [.int t0] (xU u) := by
  unfold f_X4_contradict_L115
  refine xm_blk0 (pc' := 120) (lv' := [(0, .ref 39), (1, .int v1), (3, .int v3), (4, .int t0), (5, .int v5), (6, .int v6), (7, .int v7)]) (st' := [.int v7, .int v3]) (u' := (xU u)) [(.istore 4, (0, 0, 0), 0, 0), (.iload_n 3, (0, 0, 0), 0, 0), (.iload 7, (0, 0, 0), 0, 0)] (by decide +kernel) rfl ?_
  refine xm_if_eq (pc := 120) (off := 7) (tgt := 127) (by decide +kernel) (by decide) ?_ ?_
  · refine xm_blk0 (pc' := 128) (lv' := [(0, .ref 39), (1, .int v1), (3, .int v3), (4, .int t0), (5, .int v5), (6, .int v6), (7, .int v7)]) (st' := [.int (0 : Int32), .int v3]) (u' := (xU u)) [(.iconst 0, (0, 0, 0), 0, 0)] (by decide +kernel) rfl ?_
    refine xm_wk [0, 1, 3, 4, 5] (lv' := [(0, .ref 39), (1, .int v1), (4, .int t0), (5, .int v5), (6, .int v6)]) rfl ?_
    exact go_X4_contradict_L128 N rec30 h30 rec49 h49 v1 t0 v5 v6 (0 : Int32) v3 u
  · refine xm_blk0 (pc' := 124) (lv' := [(0, .ref 39), (1, .int v1), (3, .int v3), (4, .int t0), (5, .int v5), (6, .int v6), (7, .int v7)]) (st' := [.int (1 : Int32), .int v3]) (u' := (xU u)) [(.iconst 1, (0, 0, 0), 1, 0)] (by decide +kernel) rfl ?_
    refine xm_goto (pc := 124) (off := 4) (tgt := 128) (by decide +kernel) (by decide) ?_
    refine xm_wk [0, 1, 3, 4, 5] (lv' := [(0, .ref 39), (1, .int v1), (4, .int t0), (5, .int v5), (6, .int v6)]) rfl ?_
    exact go_X4_contradict_L128 N rec30 h30 rec49 h49 v1 t0 v5 v6 (1 : Int32) v3 u
def f_X4_contradict_L113 (N : Nat) (rec30 : Int32 → Int32 → Int32 → Int32 → xN → Option (Int32 × xN)) (rec49 : Int32 → Int32 → Int32 → Int32 → Int32 → xN → Option (Int32 × xN)) (v1 : Int32) (v3 : Int32) (v4 : Int32) (v5 : Int32) (v6 : Int32) (v7 : Int32) (u : xN) : Option (Int32 × xN) := f_X4_contradict_L115 N rec30 rec49 v1 v3 v5 v6 v7 v4 u
set_option maxRecDepth 20000 in
theorem go_X4_contradict_L113 (N : Nat) (rec30 : Int32 → Int32 → Int32 → Int32 → xN → Option (Int32 × xN)) (h30 : ∀ (v1 : Int32) (v3 : Int32) (v4 : Int32) (v5 : Int32) (u : xN), xGm md_X4_contradict rsM (rec30 v1 v3 v4 v5 u) 30 [(0, .ref 39), (1, .int v1), (3, .int v3), (4, .int v4), (5, .int v5)] [] (xU u)) (rec49 : Int32 → Int32 → Int32 → Int32 → Int32 → xN → Option (Int32 × xN)) (h49 : ∀ (v1 : Int32) (v3 : Int32) (v4 : Int32) (v5 : Int32) (v6 : Int32) (u : xN), xGm md_X4_contradict rsM (rec49 v1 v3 v4 v5 v6 u) 49 [(0, .ref 39), (1, .int v1), (3, .int v3), (4, .int v4), (5, .int v5), (6, .int v6)] [] (xU u)) (v1 : Int32) (v3 : Int32) (v4 : Int32) (v5 : Int32) (v6 : Int32) (v7 : Int32) (u : xN) : xGm md_X4_contradict rsM (f_X4_contradict_L113 N rec30 rec49 v1 v3 v4 v5 v6 v7 u) 113 [(0, .ref 39), (1, .int v1), (3, .int v3), (4, .int v4), (5, .int v5), (6, .int v6), (7, .int v7)] [] (xU u) := by
  unfold f_X4_contradict_L113
  refine xm_blk0 (pc' := 115) (lv' := [(0, .ref 39), (1, .int v1), (3, .int v3), (4, .int v4), (5, .int v5), (6, .int v6), (7, .int v7)]) (st' := [.int v4]) (u' := (xU u)) [(.iload 4, (0, 0, 0), 0, 0)] (by decide +kernel) rfl ?_
  refine xm_wk [0, 1, 2, 4, 5, 6] (lv' := [(0, .ref 39), (1, .int v1), (3, .int v3), (5, .int v5), (6, .int v6), (7, .int v7)]) rfl ?_
  exact go_X4_contradict_L115 N rec30 h30 rec49 h49 v1 v3 v5 v6 v7 v4 u
def f_X4_contradict_L91 (N : Nat) (rec30 : Int32 → Int32 → Int32 → Int32 → xN → Option (Int32 × xN)) (rec49 : Int32 → Int32 → Int32 → Int32 → Int32 → xN → Option (Int32 × xN)) (v1 : Int32) (v3 : Int32) (v4 : Int32) (v5 : Int32) (v6 : Int32) (t0 : Int32) (u : xN) : Option (Int32 × xN) := if t0 = (0 : Int32) then f_X4_contradict_L113 N rec30 rec49 v1 v3 v4 v5 v6 t0 u else if v3 = (0 : Int32) then f_X4_contradict_L115 N rec30 rec49 v1 v3 v5 v6 t0 (((100 : Int32) * v5) + v6) u else f_X4_contradict_L113 N rec30 rec49 v1 v3 v4 v5 v6 t0 u
set_option maxRecDepth 20000 in
theorem go_X4_contradict_L91 (N : Nat) (rec30 : Int32 → Int32 → Int32 → Int32 → xN → Option (Int32 × xN)) (h30 : ∀ (v1 : Int32) (v3 : Int32) (v4 : Int32) (v5 : Int32) (u : xN), xGm md_X4_contradict rsM (rec30 v1 v3 v4 v5 u) 30 [(0, .ref 39), (1, .int v1), (3, .int v3), (4, .int v4), (5, .int v5)] [] (xU u)) (rec49 : Int32 → Int32 → Int32 → Int32 → Int32 → xN → Option (Int32 × xN)) (h49 : ∀ (v1 : Int32) (v3 : Int32) (v4 : Int32) (v5 : Int32) (v6 : Int32) (u : xN), xGm md_X4_contradict rsM (rec49 v1 v3 v4 v5 v6 u) 49 [(0, .ref 39), (1, .int v1), (3, .int v3), (4, .int v4), (5, .int v5), (6, .int v6)] [] (xU u)) (v1 : Int32) (v3 : Int32) (v4 : Int32) (v5 : Int32) (v6 : Int32) (t0 : Int32) (u : xN) : xGm md_X4_contradict rsM (f_X4_contradict_L91 N rec30 rec49 v1 v3 v4 v5 v6 t0 u) 91 [(0, .ref 39), (1, .int v1), (3, .int v3), (4, .int v4), (5, .int v5), (6, .int v6)] [.int t0] (xU u) := by
  unfold f_X4_contradict_L91
  refine xm_blk0 (pc' := 95) (lv' := [(0, .ref 39), (1, .int v1), (3, .int v3), (4, .int v4), (5, .int v5), (6, .int v6), (7, .int t0)]) (st' := [.int t0]) (u' := (xU u)) [(.istore 7, (0, 0, 0), 0, 0), (.iload 7, (0, 0, 0), 0, 0)] (by decide +kernel) rfl ?_
  refine xm_if_eq (pc := 95) (off := 18) (tgt := 113) (by decide +kernel) (by decide) ?_ ?_
  · exact go_X4_contradict_L113 N rec30 h30 rec49 h49 v1 v3 v4 v5 v6 t0 u
  · refine xm_blk0 (pc' := 99) (lv' := [(0, .ref 39), (1, .int v1), (3, .int v3), (4, .int v4), (5, .int v5), (6, .int v6), (7, .int t0)]) (st' := [.int v3]) (u' := (xU u)) [(.iload_n 3, (0, 0, 0), 0, 0)] (by decide +kernel) rfl ?_
    refine xm_if_ne (pc := 99) (off := 14) (tgt := 113) (by decide +kernel) (by decide) ?_ ?_
    · exact go_X4_contradict_L113 N rec30 h30 rec49 h49 v1 v3 v4 v5 v6 t0 u
    · refine xm_blk0 (pc' := 110) (lv' := [(0, .ref 39), (1, .int v1), (3, .int v3), (4, .int v4), (5, .int v5), (6, .int v6), (7, .int t0)]) (st' := [.int (((100 : Int32) * v5) + v6)]) (u' := (xU u)) [(.bipush 100, (0, 0, 0), 100, 0), (.iload 5, (0, 0, 0), 0, 0), (.imul, (0, 0, 0), 0, 0), (.iload 6, (0, 0, 0), 0, 0), (.iadd, (0, 0, 0), 0, 0)] (by decide +kernel) rfl ?_
      refine xm_goto (pc := 110) (off := 5) (tgt := 115) (by decide +kernel) (by decide) ?_
      refine xm_wk [0, 1, 2, 4, 5, 6] (lv' := [(0, .ref 39), (1, .int v1), (3, .int v3), (5, .int v5), (6, .int v6), (7, .int t0)]) rfl ?_
      exact go_X4_contradict_L115 N rec30 h30 rec49 h49 v1 v3 v5 v6 t0 (((100 : Int32) * v5) + v6) u
def f_X4_contradict_L86 (N : Nat) (rec30 : Int32 → Int32 → Int32 → Int32 → xN → Option (Int32 × xN)) (rec49 : Int32 → Int32 → Int32 → Int32 → Int32 → xN → Option (Int32 × xN)) (v1 : Int32) (v3 : Int32) (v4 : Int32) (v5 : Int32) (v6 : Int32) (u : xN) : Option (Int32 × xN) := f_X4_contradict_L91 N rec30 rec49 v1 v3 v4 v5 v6 (1 : Int32) u
set_option maxRecDepth 20000 in
theorem go_X4_contradict_L86 (N : Nat) (rec30 : Int32 → Int32 → Int32 → Int32 → xN → Option (Int32 × xN)) (h30 : ∀ (v1 : Int32) (v3 : Int32) (v4 : Int32) (v5 : Int32) (u : xN), xGm md_X4_contradict rsM (rec30 v1 v3 v4 v5 u) 30 [(0, .ref 39), (1, .int v1), (3, .int v3), (4, .int v4), (5, .int v5)] [] (xU u)) (rec49 : Int32 → Int32 → Int32 → Int32 → Int32 → xN → Option (Int32 × xN)) (h49 : ∀ (v1 : Int32) (v3 : Int32) (v4 : Int32) (v5 : Int32) (v6 : Int32) (u : xN), xGm md_X4_contradict rsM (rec49 v1 v3 v4 v5 v6 u) 49 [(0, .ref 39), (1, .int v1), (3, .int v3), (4, .int v4), (5, .int v5), (6, .int v6)] [] (xU u)) (v1 : Int32) (v3 : Int32) (v4 : Int32) (v5 : Int32) (v6 : Int32) (u : xN) : xGm md_X4_contradict rsM (f_X4_contradict_L86 N rec30 rec49 v1 v3 v4 v5 v6 u) 86 [(0, .ref 39), (1, .int v1), (3, .int v3), (4, .int v4), (5, .int v5), (6, .int v6)] [] (xU u) := by
  unfold f_X4_contradict_L86
  refine xm_blk0 (pc' := 87) (lv' := [(0, .ref 39), (1, .int v1), (3, .int v3), (4, .int v4), (5, .int v5), (6, .int v6)]) (st' := [.int (1 : Int32)]) (u' := (xU u)) [(.iconst 1, (0, 0, 0), 1, 0)] (by decide +kernel) rfl ?_
  refine xm_goto (pc := 87) (off := 4) (tgt := 91) (by decide +kernel) (by decide) ?_
  exact go_X4_contradict_L91 N rec30 h30 rec49 h49 v1 v3 v4 v5 v6 (1 : Int32) u
def f_X4_contradict_L49b (N : Nat) (rec30 : Int32 → Int32 → Int32 → Int32 → xN → Option (Int32 × xN)) (rec49 : Int32 → Int32 → Int32 → Int32 → Int32 → xN → Option (Int32 × xN)) (v1 : Int32) (v3 : Int32) (v4 : Int32) (v5 : Int32) (v6 : Int32) (u : xN) : Option (Int32 × xN) := gdl [inb v1 6, nzi (3 : Int32)] (if ((u.1 45 (Int32.toNatClampNeg v1)) / (3 : Int32)) ≤ v6 then rec30 v1 v3 v4 (v5 + (1 : Int32)) u else Option.bind (f_X4_against v1 v5 v6 u) (fun r68 => if r68 = (0 : Int32) then Option.bind (f_X4_against v1 v6 v5 u) (fun r80 => if r80 = (0 : Int32) then f_X4_contradict_L91 N rec30 rec49 v1 v3 v4 v5 v6 (0 : Int32) u else f_X4_contradict_L86 N rec30 rec49 v1 v3 v4 v5 v6 u) else f_X4_contradict_L86 N rec30 rec49 v1 v3 v4 v5 v6 u))
set_option maxRecDepth 20000 in
theorem go_X4_contradict_L49b (N : Nat) (rec30 : Int32 → Int32 → Int32 → Int32 → xN → Option (Int32 × xN)) (h30 : ∀ (v1 : Int32) (v3 : Int32) (v4 : Int32) (v5 : Int32) (u : xN), xGm md_X4_contradict rsM (rec30 v1 v3 v4 v5 u) 30 [(0, .ref 39), (1, .int v1), (3, .int v3), (4, .int v4), (5, .int v5)] [] (xU u)) (rec49 : Int32 → Int32 → Int32 → Int32 → Int32 → xN → Option (Int32 × xN)) (h49 : ∀ (v1 : Int32) (v3 : Int32) (v4 : Int32) (v5 : Int32) (v6 : Int32) (u : xN), xGm md_X4_contradict rsM (rec49 v1 v3 v4 v5 v6 u) 49 [(0, .ref 39), (1, .int v1), (3, .int v3), (4, .int v4), (5, .int v5), (6, .int v6)] [] (xU u)) (v1 : Int32) (v3 : Int32) (v4 : Int32) (v5 : Int32) (v6 : Int32) (u : xN) : xGm md_X4_contradict rsM (f_X4_contradict_L49b N rec30 rec49 v1 v3 v4 v5 v6 u) 49 [(0, .ref 39), (1, .int v1), (3, .int v3), (4, .int v4), (5, .int v5), (6, .int v6)] [] (xU u) := by
  unfold f_X4_contradict_L49b
  refine xm_blk (bs := [inb v1 6, nzi (3 : Int32)]) (pc' := 59) (lv' := [(0, .ref 39), (1, .int v1), (3, .int v3), (4, .int v4), (5, .int v5), (6, .int v6)]) (st' := [.int ((u.1 45 (Int32.toNatClampNeg v1)) / (3 : Int32)), .int v6]) (u' := (xU u)) [(.iload 6, (0, 0, 0), 0, 0), (.aload_n 0, (0, 0, 0), 0, 0), (.getfield 25, (4, 7, 827), 0, 0), (.iload_n 1, (0, 0, 0), 0, 0), (.iaload, (0, 0, 0), 0, 0), (.iconst 3, (0, 0, 0), 3, 0), (.idiv, (0, 0, 0), 0, 0)] (by decide +kernel) rfl ?_
  refine xm_icmp_ge (pc := 59) (off := 77) (tgt := 136) (by decide +kernel) (by decide) ?_ ?_
  · refine xm_blk0 (pc' := 139) (lv' := [(0, .ref 39), (1, .int v1), (3, .int v3), (4, .int v4), (5, .int (v5 + (1 : Int32))), (6, .int v6)]) (st' := []) (u' := (xU u)) [(.iinc 5 1, (0, 0, 0), 1, 0)] (by decide +kernel) rfl ?_
    refine xm_goto (pc := 139) (off := -109) (tgt := 30) (by decide +kernel) (by decide) ?_
    refine xm_wk [0, 1, 2, 3, 4] (lv' := [(0, .ref 39), (1, .int v1), (3, .int v3), (4, .int v4), (5, .int (v5 + (1 : Int32)))]) rfl ?_
    exact h30 v1 v3 v4 (v5 + (1 : Int32)) u
  · refine xm_blk0 (pc' := 68) (lv' := [(0, .ref 39), (1, .int v1), (3, .int v3), (4, .int v4), (5, .int v5), (6, .int v6)]) (st' := [.int v6, .int v5, .int v1, .ref 39]) (u' := (xU u)) [(.aload_n 0, (0, 0, 0), 0, 0), (.iload_n 1, (0, 0, 0), 0, 0), (.iload 5, (0, 0, 0), 0, 0), (.iload 6, (0, 0, 0), 0, 0)] (by decide +kernel) rfl ?_
    refine xm_Vi (pc := 68) (mz := md_X4_against) (idx := 267) (p1 := 1237) (a := 39) (as := [.int v1, .int v5, .int v6]) (st := []) (ev_X4_against v1 v5 v6 u) mw_X4_against (by decide +kernel) (by decide +kernel) (by decide) rfl rfl (by decide) rfl (Nat.le_of_ble_eq_true rfl) (fun r68 => ?_)
    refine xm_if_ne (pc := 71) (off := 15) (tgt := 86) (by decide +kernel) (by decide) ?_ ?_
    · exact go_X4_contradict_L86 N rec30 h30 rec49 h49 v1 v3 v4 v5 v6 u
    · refine xm_blk0 (pc' := 80) (lv' := [(0, .ref 39), (1, .int v1), (3, .int v3), (4, .int v4), (5, .int v5), (6, .int v6)]) (st' := [.int v5, .int v6, .int v1, .ref 39]) (u' := (xU u)) [(.aload_n 0, (0, 0, 0), 0, 0), (.iload_n 1, (0, 0, 0), 0, 0), (.iload 6, (0, 0, 0), 0, 0), (.iload 5, (0, 0, 0), 0, 0)] (by decide +kernel) rfl ?_
      refine xm_Vi (pc := 80) (mz := md_X4_against) (idx := 267) (p1 := 1237) (a := 39) (as := [.int v1, .int v6, .int v5]) (st := []) (ev_X4_against v1 v6 v5 u) mw_X4_against (by decide +kernel) (by decide +kernel) (by decide) rfl rfl (by decide) rfl (Nat.le_of_ble_eq_true rfl) (fun r80 => ?_)
      refine xm_if_eq (pc := 83) (off := 7) (tgt := 90) (by decide +kernel) (by decide) ?_ ?_
      · refine xm_blk0 (pc' := 91) (lv' := [(0, .ref 39), (1, .int v1), (3, .int v3), (4, .int v4), (5, .int v5), (6, .int v6)]) (st' := [.int (0 : Int32)]) (u' := (xU u)) [(.iconst 0, (0, 0, 0), 0, 0)] (by decide +kernel) rfl ?_
        exact go_X4_contradict_L91 N rec30 h30 rec49 h49 v1 v3 v4 v5 v6 (0 : Int32) u
      · exact go_X4_contradict_L86 N rec30 h30 rec49 h49 v1 v3 v4 v5 v6 u
def f_X4_contradict_L49 (N : Nat) (rec30 : Int32 → Int32 → Int32 → Int32 → xN → Option (Int32 × xN)) : Nat → Int32 → Int32 → Int32 → Int32 → Int32 → xN → Option (Int32 × xN)
  | 0 => fun _ _ _ _ _ _ => none
  | n + 1 => fun v1 v3 v4 v5 v6 u => f_X4_contradict_L49b N rec30 (f_X4_contradict_L49 N rec30 n) v1 v3 v4 v5 v6 u
theorem go_X4_contradict_L49 (N : Nat) (rec30 : Int32 → Int32 → Int32 → Int32 → xN → Option (Int32 × xN)) (h30 : ∀ (v1 : Int32) (v3 : Int32) (v4 : Int32) (v5 : Int32) (u : xN), xGm md_X4_contradict rsM (rec30 v1 v3 v4 v5 u) 30 [(0, .ref 39), (1, .int v1), (3, .int v3), (4, .int v4), (5, .int v5)] [] (xU u)) : ∀ (n : Nat) (v1 : Int32) (v3 : Int32) (v4 : Int32) (v5 : Int32) (v6 : Int32) (u : xN), xGm md_X4_contradict rsM (f_X4_contradict_L49 N rec30 n v1 v3 v4 v5 v6 u) 49 [(0, .ref 39), (1, .int v1), (3, .int v3), (4, .int v4), (5, .int v5), (6, .int v6)] [] (xU u) := by
  intro n
  induction n with
  | zero => intro v1 v3 v4 v5 v6 u; exact xm_none
  | succ n ih => intro v1 v3 v4 v5 v6 u; exact go_X4_contradict_L49b N rec30 h30 _ ih v1 v3 v4 v5 v6 u
def f_X4_contradict_L30b (N : Nat) (rec30 : Int32 → Int32 → Int32 → Int32 → xN → Option (Int32 × xN)) (v1 : Int32) (v3 : Int32) (v4 : Int32) (v5 : Int32) (u : xN) : Option (Int32 × xN) := gdl [inb v1 6, nzi (3 : Int32)] (if ((u.1 45 (Int32.toNatClampNeg v1)) / (3 : Int32)) ≤ v5 then some (v3, mI u 39 11 v4) else f_X4_contradict_L49 N rec30 N v1 v3 v4 v5 (v5 + (1 : Int32)) u)
set_option maxRecDepth 20000 in
theorem go_X4_contradict_L30b (N : Nat) (rec30 : Int32 → Int32 → Int32 → Int32 → xN → Option (Int32 × xN)) (h30 : ∀ (v1 : Int32) (v3 : Int32) (v4 : Int32) (v5 : Int32) (u : xN), xGm md_X4_contradict rsM (rec30 v1 v3 v4 v5 u) 30 [(0, .ref 39), (1, .int v1), (3, .int v3), (4, .int v4), (5, .int v5)] [] (xU u)) (v1 : Int32) (v3 : Int32) (v4 : Int32) (v5 : Int32) (u : xN) : xGm md_X4_contradict rsM (f_X4_contradict_L30b N rec30 v1 v3 v4 v5 u) 30 [(0, .ref 39), (1, .int v1), (3, .int v3), (4, .int v4), (5, .int v5)] [] (xU u) := by
  unfold f_X4_contradict_L30b
  refine xm_blk (bs := [inb v1 6, nzi (3 : Int32)]) (pc' := 40) (lv' := [(0, .ref 39), (1, .int v1), (3, .int v3), (4, .int v4), (5, .int v5)]) (st' := [.int ((u.1 45 (Int32.toNatClampNeg v1)) / (3 : Int32)), .int v5]) (u' := (xU u)) [(.iload 5, (0, 0, 0), 0, 0), (.aload_n 0, (0, 0, 0), 0, 0), (.getfield 25, (4, 7, 827), 0, 0), (.iload_n 1, (0, 0, 0), 0, 0), (.iaload, (0, 0, 0), 0, 0), (.iconst 3, (0, 0, 0), 3, 0), (.idiv, (0, 0, 0), 0, 0)] (by decide +kernel) rfl ?_
  refine xm_icmp_ge (pc := 40) (off := 102) (tgt := 142) (by decide +kernel) (by decide) ?_ ?_
  · refine xm_blk0 (pc' := 149) (lv' := [(0, .ref 39), (1, .int v1), (3, .int v3), (4, .int v4), (5, .int v5)]) (st' := [.int v3]) (u' := (xU (mI u 39 11 v4))) [(.aload_n 0, (0, 0, 0), 0, 0), (.iload 4, (0, 0, 0), 0, 0), (.putfield 67, (4, 11, 831), 0, 0), (.iload_n 3, (0, 0, 0), 0, 0)] (by decide +kernel) rfl ?_
    exact xm_iret (pc := 149) (by decide +kernel) rfl rfl
  · refine xm_blk0 (pc' := 49) (lv' := [(0, .ref 39), (1, .int v1), (3, .int v3), (4, .int v4), (5, .int v5), (6, .int (v5 + (1 : Int32)))]) (st' := []) (u' := (xU u)) [(.iload 5, (0, 0, 0), 0, 0), (.iconst 1, (0, 0, 0), 1, 0), (.iadd, (0, 0, 0), 0, 0), (.istore 6, (0, 0, 0), 0, 0)] (by decide +kernel) rfl ?_
    exact go_X4_contradict_L49 N rec30 h30 N v1 v3 v4 v5 (v5 + (1 : Int32)) u
def f_X4_contradict_L30 (N : Nat) : Nat → Int32 → Int32 → Int32 → Int32 → xN → Option (Int32 × xN)
  | 0 => fun _ _ _ _ _ => none
  | n + 1 => fun v1 v3 v4 v5 u => f_X4_contradict_L30b N (f_X4_contradict_L30 N n) v1 v3 v4 v5 u
theorem go_X4_contradict_L30 (N : Nat) : ∀ (n : Nat) (v1 : Int32) (v3 : Int32) (v4 : Int32) (v5 : Int32) (u : xN), xGm md_X4_contradict rsM (f_X4_contradict_L30 N n v1 v3 v4 v5 u) 30 [(0, .ref 39), (1, .int v1), (3, .int v3), (4, .int v4), (5, .int v5)] [] (xU u) := by
  intro n
  induction n with
  | zero => intro v1 v3 v4 v5 u; exact xm_none
  | succ n ih => intro v1 v3 v4 v5 u; exact go_X4_contradict_L30b N _ ih v1 v3 v4 v5 u
def f_X4_contradict (N : Nat) (a1 : Int32) (u : xN) : Option (Int32 × xN) := Option.bind (f_X4_isRow a1) (fun r1 => if r1 = (0 : Int32) then some ((-1 : Int32), u) else Option.bind (f_X4_noRulings N a1 u) (fun r11 => if r11.1 = (0 : Int32) then f_X4_contradict_L30 N N a1 (0 : Int32) (-9 : Int32) (0 : Int32) r11.2 else some (r11.1, r11.2)))
set_option maxRecDepth 20000 in
theorem go_X4_contradict (N : Nat) (a1 : Int32) (u : xN) : xGm md_X4_contradict rsM (f_X4_contradict N a1 u) 0 [(0, .ref 39), (1, .int a1)] [] (xU u) := by
  unfold f_X4_contradict
  refine xm_blk0 (pc' := 1) (lv' := [(0, .ref 39), (1, .int a1)]) (st' := [.int a1]) (u' := (xU u)) [(.iload_n 1, (0, 0, 0), 0, 0)] (by decide +kernel) rfl ?_
  refine xm_Si (pc := 1) (mz := md_X4_isRow) (idx := 78) (p1 := 901) (as := [.int a1]) (st := []) (ev_X4_isRow a1 u) mw_X4_isRow (by decide +kernel) (by decide +kernel) (by decide) rfl (Nat.le_of_ble_eq_true rfl) (fun r1 => ?_)
  refine xm_if_ne (pc := 4) (off := 5) (tgt := 9) (by decide +kernel) (by decide) ?_ ?_
  · refine xm_blk0 (pc' := 11) (lv' := [(0, .ref 39), (1, .int a1)]) (st' := [.int a1, .ref 39]) (u' := (xU u)) [(.aload_n 0, (0, 0, 0), 0, 0), (.iload_n 1, (0, 0, 0), 0, 0)] (by decide +kernel) rfl ?_
    refine xm_Vm (pc := 11) (mz := md_X4_noRulings) (idx := 264) (p1 := 1229) (a := 39) (as := [.int a1]) (st := []) (ev_X4_noRulings N a1 u) mw_X4_noRulings (by decide +kernel) (by decide +kernel) (by decide) rfl rfl (by decide) rfl (Nat.le_of_ble_eq_true rfl) (fun r11 => ?_)
    refine xm_blk0 (pc' := 16) (lv' := [(0, .ref 39), (1, .int a1), (2, .int r11.1)]) (st' := [.int r11.1]) (u' := (xU r11.2)) [(.istore_n 2, (0, 0, 0), 0, 0), (.iload_n 2, (0, 0, 0), 0, 0)] (by decide +kernel) rfl ?_
    refine xm_if_eq (pc := 16) (off := 5) (tgt := 21) (by decide +kernel) (by decide) ?_ ?_
    · refine xm_blk0 (pc' := 30) (lv' := [(0, .ref 39), (1, .int a1), (2, .int r11.1), (3, .int (0 : Int32)), (4, .int (-9 : Int32)), (5, .int (0 : Int32))]) (st' := []) (u' := (xU r11.2)) [(.iconst 0, (0, 0, 0), 0, 0), (.istore_n 3, (0, 0, 0), 0, 0), (.bipush (-9), (0, 0, 0), -9, 0), (.istore 4, (0, 0, 0), 0, 0), (.iconst 0, (0, 0, 0), 0, 0), (.istore 5, (0, 0, 0), 0, 0)] (by decide +kernel) rfl ?_
      refine xm_wk [0, 1, 3, 4, 5] (lv' := [(0, .ref 39), (1, .int a1), (3, .int (0 : Int32)), (4, .int (-9 : Int32)), (5, .int (0 : Int32))]) rfl ?_
      exact go_X4_contradict_L30 N N a1 (0 : Int32) (-9 : Int32) (0 : Int32) r11.2
    · refine xm_blk0 (pc' := 20) (lv' := [(0, .ref 39), (1, .int a1), (2, .int r11.1)]) (st' := [.int r11.1]) (u' := (xU r11.2)) [(.iload_n 2, (0, 0, 0), 0, 0)] (by decide +kernel) rfl ?_
      exact xm_iret (pc := 20) (by decide +kernel) rfl rfl
  · refine xm_blk0 (pc' := 8) (lv' := [(0, .ref 39), (1, .int a1)]) (st' := [.int (-1 : Int32)]) (u' := (xU u)) [(.iconst (-1), (0, 0, 0), -1, 0)] (by decide +kernel) rfl ?_
    exact xm_iret (pc := 8) (by decide +kernel) rfl rfl
theorem ev_X4_contradict (N : Nat) (a1 : Int32) (u : xN) : ∀ r, f_X4_contradict N a1 u = some r → xEm md_X4_contradict yX4_contradict [.ref 39, .int a1] (xU u) (some (.int r.1), xU r.2) := xm_met (res := rsM) (as := [.ref 39, .int a1]) (go_X4_contradict N a1 u) (by decide) rfl (Nat.le_of_ble_eq_true rfl)
theorem mw_X4_isFixed : xMv yX4_isFixed cX4_isFixed 6 (some .boolean) 2 := xMv_of (p1 := 1248) (p2 := 1247) (p3 := 97) (p4 := 84) (by decide +kernel)
/-! NeitherBareModel.isFixed(II)Z (39, None, None) -/
abbrev md_X4_isFixed : xMd := (cX4_isFixed, RX4, 6, some .boolean, 3)
def f_X4_isFixed_L73 (N : Nat) (u : xN) (rec5 : Int32 → Int32 → Int32 → Int32 → Option Int32) (rec21 : Int32 → Int32 → Int32 → Int32 → Int32 → Option Int32) (v1 : Int32) (v2 : Int32) (v4 : Int32) (v5 : Int32) (t0 : Int32) : Option Int32 := rec21 v1 v2 t0 v4 (v5 + (1 : Int32))
set_option maxRecDepth 20000 in
theorem go_X4_isFixed_L73 (N : Nat) (u : xN) (rec5 : Int32 → Int32 → Int32 → Int32 → Option Int32) (h5 : ∀ (v1 : Int32) (v2 : Int32) (v3 : Int32) (v4 : Int32), xGm md_X4_isFixed (rsI (xU u)) (rec5 v1 v2 v3 v4) 5 [(0, .ref 39), (1, .int v1), (2, .int v2), (3, .int v3), (4, .int v4)] [] (xU u)) (rec21 : Int32 → Int32 → Int32 → Int32 → Int32 → Option Int32) (h21 : ∀ (v1 : Int32) (v2 : Int32) (v3 : Int32) (v4 : Int32) (v5 : Int32), xGm md_X4_isFixed (rsI (xU u)) (rec21 v1 v2 v3 v4 v5) 21 [(0, .ref 39), (1, .int v1), (2, .int v2), (3, .int v3), (4, .int v4), (5, .int v5)] [] (xU u)) (v1 : Int32) (v2 : Int32) (v4 : Int32) (v5 : Int32) (t0 : Int32) : xGm md_X4_isFixed (rsI (xU u)) (f_X4_isFixed_L73 N u rec5 rec21 v1 v2 v4 v5 t0) 73 [(0, .ref 39), (1, .int v1), (2, .int v2), (4, .int v4), (5, .int v5)] [.int t0] (xU u) := by
  unfold f_X4_isFixed_L73
  refine xm_blk0 (pc' := 77) (lv' := [(0, .ref 39), (1, .int v1), (2, .int v2), (3, .int t0), (4, .int v4), (5, .int (v5 + (1 : Int32)))]) (st' := []) (u' := (xU u)) [(.istore_n 3, (0, 0, 0), 0, 0), (.iinc 5 1, (0, 0, 0), 1, 0)] (by decide +kernel) rfl ?_
  refine xm_goto (pc := 77) (off := -56) (tgt := 21) (by decide +kernel) (by decide) ?_
  exact h21 v1 v2 t0 v4 (v5 + (1 : Int32))
def f_X4_isFixed_L68 (N : Nat) (u : xN) (rec5 : Int32 → Int32 → Int32 → Int32 → Option Int32) (rec21 : Int32 → Int32 → Int32 → Int32 → Int32 → Option Int32) (v1 : Int32) (v2 : Int32) (v4 : Int32) (v5 : Int32) : Option Int32 := f_X4_isFixed_L73 N u rec5 rec21 v1 v2 v4 v5 (1 : Int32)
set_option maxRecDepth 20000 in
theorem go_X4_isFixed_L68 (N : Nat) (u : xN) (rec5 : Int32 → Int32 → Int32 → Int32 → Option Int32) (h5 : ∀ (v1 : Int32) (v2 : Int32) (v3 : Int32) (v4 : Int32), xGm md_X4_isFixed (rsI (xU u)) (rec5 v1 v2 v3 v4) 5 [(0, .ref 39), (1, .int v1), (2, .int v2), (3, .int v3), (4, .int v4)] [] (xU u)) (rec21 : Int32 → Int32 → Int32 → Int32 → Int32 → Option Int32) (h21 : ∀ (v1 : Int32) (v2 : Int32) (v3 : Int32) (v4 : Int32) (v5 : Int32), xGm md_X4_isFixed (rsI (xU u)) (rec21 v1 v2 v3 v4 v5) 21 [(0, .ref 39), (1, .int v1), (2, .int v2), (3, .int v3), (4, .int v4), (5, .int v5)] [] (xU u)) (v1 : Int32) (v2 : Int32) (v4 : Int32) (v5 : Int32) : xGm md_X4_isFixed (rsI (xU u)) (f_X4_isFixed_L68 N u rec5 rec21 v1 v2 v4 v5) 68 [(0, .ref 39), (1, .int v1), (2, .int v2), (4, .int v4), (5, .int v5)] [] (xU u) := by
  unfold f_X4_isFixed_L68
  refine xm_blk0 (pc' := 69) (lv' := [(0, .ref 39), (1, .int v1), (2, .int v2), (4, .int v4), (5, .int v5)]) (st' := [.int (1 : Int32)]) (u' := (xU u)) [(.iconst 1, (0, 0, 0), 1, 0)] (by decide +kernel) rfl ?_
  refine xm_goto (pc := 69) (off := 4) (tgt := 73) (by decide +kernel) (by decide) ?_
  exact go_X4_isFixed_L73 N u rec5 h5 rec21 h21 v1 v2 v4 v5 (1 : Int32)
def f_X4_isFixed_L80 (N : Nat) (u : xN) (rec5 : Int32 → Int32 → Int32 → Int32 → Option Int32) (v1 : Int32) (v2 : Int32) (v3 : Int32) (v4 : Int32) : Option Int32 := rec5 v1 v2 v3 (v4 + (1 : Int32))
set_option maxRecDepth 20000 in
theorem go_X4_isFixed_L80 (N : Nat) (u : xN) (rec5 : Int32 → Int32 → Int32 → Int32 → Option Int32) (h5 : ∀ (v1 : Int32) (v2 : Int32) (v3 : Int32) (v4 : Int32), xGm md_X4_isFixed (rsI (xU u)) (rec5 v1 v2 v3 v4) 5 [(0, .ref 39), (1, .int v1), (2, .int v2), (3, .int v3), (4, .int v4)] [] (xU u)) (v1 : Int32) (v2 : Int32) (v3 : Int32) (v4 : Int32) : xGm md_X4_isFixed (rsI (xU u)) (f_X4_isFixed_L80 N u rec5 v1 v2 v3 v4) 80 [(0, .ref 39), (1, .int v1), (2, .int v2), (3, .int v3), (4, .int v4)] [] (xU u) := by
  unfold f_X4_isFixed_L80
  refine xm_blk0 (pc' := 83) (lv' := [(0, .ref 39), (1, .int v1), (2, .int v2), (3, .int v3), (4, .int (v4 + (1 : Int32)))]) (st' := []) (u' := (xU u)) [(.iinc 4 1, (0, 0, 0), 1, 0)] (by decide +kernel) rfl ?_
  refine xm_goto (pc := 83) (off := -78) (tgt := 5) (by decide +kernel) (by decide) ?_
  exact h5 v1 v2 v3 (v4 + (1 : Int32))
def f_X4_isFixed_L21b (N : Nat) (u : xN) (rec5 : Int32 → Int32 → Int32 → Int32 → Option Int32) (rec21 : Int32 → Int32 → Int32 → Int32 → Int32 → Option Int32) (v1 : Int32) (v2 : Int32) (v3 : Int32) (v4 : Int32) (v5 : Int32) : Option Int32 := gdl [inb v1 6, nzi (3 : Int32)] (if ((u.1 45 (Int32.toNatClampNeg v1)) / (3 : Int32)) ≤ v5 then f_X4_isFixed_L80 N u rec5 v1 v2 v3 v4 else if v3 = (0 : Int32) then f_X4_isFixed_L80 N u rec5 v1 v2 v3 v4 else Option.bind (f_X4_has v2 v4) (fun r41 => if r41 = (0 : Int32) then Option.bind (f_X4_has v2 v5) (fun r50 => if r50 = (0 : Int32) then Option.bind (f_X4_against v1 v4 v5 u) (fun r62 => if r62 = (0 : Int32) then f_X4_isFixed_L68 N u rec5 rec21 v1 v2 v4 v5 else f_X4_isFixed_L73 N u rec5 rec21 v1 v2 v4 v5 (0 : Int32)) else f_X4_isFixed_L68 N u rec5 rec21 v1 v2 v4 v5) else f_X4_isFixed_L68 N u rec5 rec21 v1 v2 v4 v5))
set_option maxRecDepth 20000 in
theorem go_X4_isFixed_L21b (N : Nat) (u : xN) (rec5 : Int32 → Int32 → Int32 → Int32 → Option Int32) (h5 : ∀ (v1 : Int32) (v2 : Int32) (v3 : Int32) (v4 : Int32), xGm md_X4_isFixed (rsI (xU u)) (rec5 v1 v2 v3 v4) 5 [(0, .ref 39), (1, .int v1), (2, .int v2), (3, .int v3), (4, .int v4)] [] (xU u)) (rec21 : Int32 → Int32 → Int32 → Int32 → Int32 → Option Int32) (h21 : ∀ (v1 : Int32) (v2 : Int32) (v3 : Int32) (v4 : Int32) (v5 : Int32), xGm md_X4_isFixed (rsI (xU u)) (rec21 v1 v2 v3 v4 v5) 21 [(0, .ref 39), (1, .int v1), (2, .int v2), (3, .int v3), (4, .int v4), (5, .int v5)] [] (xU u)) (v1 : Int32) (v2 : Int32) (v3 : Int32) (v4 : Int32) (v5 : Int32) : xGm md_X4_isFixed (rsI (xU u)) (f_X4_isFixed_L21b N u rec5 rec21 v1 v2 v3 v4 v5) 21 [(0, .ref 39), (1, .int v1), (2, .int v2), (3, .int v3), (4, .int v4), (5, .int v5)] [] (xU u) := by
  unfold f_X4_isFixed_L21b
  refine xm_blk (bs := [inb v1 6, nzi (3 : Int32)]) (pc' := 31) (lv' := [(0, .ref 39), (1, .int v1), (2, .int v2), (3, .int v3), (4, .int v4), (5, .int v5)]) (st' := [.int ((u.1 45 (Int32.toNatClampNeg v1)) / (3 : Int32)), .int v5]) (u' := (xU u)) [(.iload 5, (0, 0, 0), 0, 0), (.aload_n 0, (0, 0, 0), 0, 0), (.getfield 25, (4, 7, 827), 0, 0), (.iload_n 1, (0, 0, 0), 0, 0), (.iaload, (0, 0, 0), 0, 0), (.iconst 3, (0, 0, 0), 3, 0), (.idiv, (0, 0, 0), 0, 0)] (by decide +kernel) rfl ?_
  refine xm_icmp_ge (pc := 31) (off := 49) (tgt := 80) (by decide +kernel) (by decide) ?_ ?_
  · refine xm_wk [0, 1, 2, 3, 4] (lv' := [(0, .ref 39), (1, .int v1), (2, .int v2), (3, .int v3), (4, .int v4)]) rfl ?_
    exact go_X4_isFixed_L80 N u rec5 h5 v1 v2 v3 v4
  · refine xm_blk0 (pc' := 35) (lv' := [(0, .ref 39), (1, .int v1), (2, .int v2), (3, .int v3), (4, .int v4), (5, .int v5)]) (st' := [.int v3]) (u' := (xU u)) [(.iload_n 3, (0, 0, 0), 0, 0)] (by decide +kernel) rfl ?_
    refine xm_if_eq (pc := 35) (off := 45) (tgt := 80) (by decide +kernel) (by decide) ?_ ?_
    · refine xm_wk [0, 1, 2, 3, 4] (lv' := [(0, .ref 39), (1, .int v1), (2, .int v2), (3, .int v3), (4, .int v4)]) rfl ?_
      exact go_X4_isFixed_L80 N u rec5 h5 v1 v2 v3 v4
    · refine xm_blk0 (pc' := 41) (lv' := [(0, .ref 39), (1, .int v1), (2, .int v2), (3, .int v3), (4, .int v4), (5, .int v5)]) (st' := [.int v4, .int v2]) (u' := (xU u)) [(.iload_n 2, (0, 0, 0), 0, 0), (.iload 4, (0, 0, 0), 0, 0)] (by decide +kernel) rfl ?_
      refine xm_Si (pc := 41) (mz := md_X4_has) (idx := 153) (p1 := 1032) (as := [.int v2, .int v4]) (st := []) (ev_X4_has v2 v4 u) mw_X4_has (by decide +kernel) (by decide +kernel) (by decide) rfl (Nat.le_of_ble_eq_true rfl) (fun r41 => ?_)
      refine xm_if_ne (pc := 44) (off := 24) (tgt := 68) (by decide +kernel) (by decide) ?_ ?_
      · refine xm_wk [0, 1, 2, 4, 5] (lv' := [(0, .ref 39), (1, .int v1), (2, .int v2), (4, .int v4), (5, .int v5)]) rfl ?_
        exact go_X4_isFixed_L68 N u rec5 h5 rec21 h21 v1 v2 v4 v5
      · refine xm_blk0 (pc' := 50) (lv' := [(0, .ref 39), (1, .int v1), (2, .int v2), (3, .int v3), (4, .int v4), (5, .int v5)]) (st' := [.int v5, .int v2]) (u' := (xU u)) [(.iload_n 2, (0, 0, 0), 0, 0), (.iload 5, (0, 0, 0), 0, 0)] (by decide +kernel) rfl ?_
        refine xm_Si (pc := 50) (mz := md_X4_has) (idx := 153) (p1 := 1032) (as := [.int v2, .int v5]) (st := []) (ev_X4_has v2 v5 u) mw_X4_has (by decide +kernel) (by decide +kernel) (by decide) rfl (Nat.le_of_ble_eq_true rfl) (fun r50 => ?_)
        refine xm_if_ne (pc := 53) (off := 15) (tgt := 68) (by decide +kernel) (by decide) ?_ ?_
        · refine xm_wk [0, 1, 2, 4, 5] (lv' := [(0, .ref 39), (1, .int v1), (2, .int v2), (4, .int v4), (5, .int v5)]) rfl ?_
          exact go_X4_isFixed_L68 N u rec5 h5 rec21 h21 v1 v2 v4 v5
        · refine xm_blk0 (pc' := 62) (lv' := [(0, .ref 39), (1, .int v1), (2, .int v2), (3, .int v3), (4, .int v4), (5, .int v5)]) (st' := [.int v5, .int v4, .int v1, .ref 39]) (u' := (xU u)) [(.aload_n 0, (0, 0, 0), 0, 0), (.iload_n 1, (0, 0, 0), 0, 0), (.iload 4, (0, 0, 0), 0, 0), (.iload 5, (0, 0, 0), 0, 0)] (by decide +kernel) rfl ?_
          refine xm_Vi (pc := 62) (mz := md_X4_against) (idx := 267) (p1 := 1237) (a := 39) (as := [.int v1, .int v4, .int v5]) (st := []) (ev_X4_against v1 v4 v5 u) mw_X4_against (by decide +kernel) (by decide +kernel) (by decide) rfl rfl (by decide) rfl (Nat.le_of_ble_eq_true rfl) (fun r62 => ?_)
          refine xm_if_ne (pc := 65) (off := 7) (tgt := 72) (by decide +kernel) (by decide) ?_ ?_
          · refine xm_blk0 (pc' := 73) (lv' := [(0, .ref 39), (1, .int v1), (2, .int v2), (3, .int v3), (4, .int v4), (5, .int v5)]) (st' := [.int (0 : Int32)]) (u' := (xU u)) [(.iconst 0, (0, 0, 0), 0, 0)] (by decide +kernel) rfl ?_
            refine xm_wk [0, 1, 2, 4, 5] (lv' := [(0, .ref 39), (1, .int v1), (2, .int v2), (4, .int v4), (5, .int v5)]) rfl ?_
            exact go_X4_isFixed_L73 N u rec5 h5 rec21 h21 v1 v2 v4 v5 (0 : Int32)
          · refine xm_wk [0, 1, 2, 4, 5] (lv' := [(0, .ref 39), (1, .int v1), (2, .int v2), (4, .int v4), (5, .int v5)]) rfl ?_
            exact go_X4_isFixed_L68 N u rec5 h5 rec21 h21 v1 v2 v4 v5
def f_X4_isFixed_L21 (N : Nat) (u : xN) (rec5 : Int32 → Int32 → Int32 → Int32 → Option Int32) : Nat → Int32 → Int32 → Int32 → Int32 → Int32 → Option Int32
  | 0 => fun _ _ _ _ _ => none
  | n + 1 => fun v1 v2 v3 v4 v5 => f_X4_isFixed_L21b N u rec5 (f_X4_isFixed_L21 N u rec5 n) v1 v2 v3 v4 v5
theorem go_X4_isFixed_L21 (N : Nat) (u : xN) (rec5 : Int32 → Int32 → Int32 → Int32 → Option Int32) (h5 : ∀ (v1 : Int32) (v2 : Int32) (v3 : Int32) (v4 : Int32), xGm md_X4_isFixed (rsI (xU u)) (rec5 v1 v2 v3 v4) 5 [(0, .ref 39), (1, .int v1), (2, .int v2), (3, .int v3), (4, .int v4)] [] (xU u)) : ∀ (n : Nat) (v1 : Int32) (v2 : Int32) (v3 : Int32) (v4 : Int32) (v5 : Int32), xGm md_X4_isFixed (rsI (xU u)) (f_X4_isFixed_L21 N u rec5 n v1 v2 v3 v4 v5) 21 [(0, .ref 39), (1, .int v1), (2, .int v2), (3, .int v3), (4, .int v4), (5, .int v5)] [] (xU u) := by
  intro n
  induction n with
  | zero => intro v1 v2 v3 v4 v5; exact xm_none
  | succ n ih => intro v1 v2 v3 v4 v5; exact go_X4_isFixed_L21b N u rec5 h5 _ ih v1 v2 v3 v4 v5
def f_X4_isFixed_L5b (N : Nat) (u : xN) (rec5 : Int32 → Int32 → Int32 → Int32 → Option Int32) (v1 : Int32) (v2 : Int32) (v3 : Int32) (v4 : Int32) : Option Int32 := gdl [inb v1 6, nzi (3 : Int32)] (if ((u.1 45 (Int32.toNatClampNeg v1)) / (3 : Int32)) ≤ v4 then (gdl [isb v3] (some v3)) else f_X4_isFixed_L21 N u rec5 N v1 v2 v3 v4 (0 : Int32))
set_option maxRecDepth 20000 in
theorem go_X4_isFixed_L5b (N : Nat) (u : xN) (rec5 : Int32 → Int32 → Int32 → Int32 → Option Int32) (h5 : ∀ (v1 : Int32) (v2 : Int32) (v3 : Int32) (v4 : Int32), xGm md_X4_isFixed (rsI (xU u)) (rec5 v1 v2 v3 v4) 5 [(0, .ref 39), (1, .int v1), (2, .int v2), (3, .int v3), (4, .int v4)] [] (xU u)) (v1 : Int32) (v2 : Int32) (v3 : Int32) (v4 : Int32) : xGm md_X4_isFixed (rsI (xU u)) (f_X4_isFixed_L5b N u rec5 v1 v2 v3 v4) 5 [(0, .ref 39), (1, .int v1), (2, .int v2), (3, .int v3), (4, .int v4)] [] (xU u) := by
  unfold f_X4_isFixed_L5b
  refine xm_blk (bs := [inb v1 6, nzi (3 : Int32)]) (pc' := 15) (lv' := [(0, .ref 39), (1, .int v1), (2, .int v2), (3, .int v3), (4, .int v4)]) (st' := [.int ((u.1 45 (Int32.toNatClampNeg v1)) / (3 : Int32)), .int v4]) (u' := (xU u)) [(.iload 4, (0, 0, 0), 0, 0), (.aload_n 0, (0, 0, 0), 0, 0), (.getfield 25, (4, 7, 827), 0, 0), (.iload_n 1, (0, 0, 0), 0, 0), (.iaload, (0, 0, 0), 0, 0), (.iconst 3, (0, 0, 0), 3, 0), (.idiv, (0, 0, 0), 0, 0)] (by decide +kernel) rfl ?_
  refine xm_icmp_ge (pc := 15) (off := 71) (tgt := 86) (by decide +kernel) (by decide) ?_ ?_
  · refine xm_blk0 (pc' := 87) (lv' := [(0, .ref 39), (1, .int v1), (2, .int v2), (3, .int v3), (4, .int v4)]) (st' := [.int v3]) (u' := (xU u)) [(.iload_n 3, (0, 0, 0), 0, 0)] (by decide +kernel) rfl ?_
    exact xm_zret (pc := 87) (by decide +kernel) rfl rfl
  · refine xm_blk0 (pc' := 21) (lv' := [(0, .ref 39), (1, .int v1), (2, .int v2), (3, .int v3), (4, .int v4), (5, .int (0 : Int32))]) (st' := []) (u' := (xU u)) [(.iconst 0, (0, 0, 0), 0, 0), (.istore 5, (0, 0, 0), 0, 0)] (by decide +kernel) rfl ?_
    exact go_X4_isFixed_L21 N u rec5 h5 N v1 v2 v3 v4 (0 : Int32)
def f_X4_isFixed_L5 (N : Nat) (u : xN) : Nat → Int32 → Int32 → Int32 → Int32 → Option Int32
  | 0 => fun _ _ _ _ => none
  | n + 1 => fun v1 v2 v3 v4 => f_X4_isFixed_L5b N u (f_X4_isFixed_L5 N u n) v1 v2 v3 v4
theorem go_X4_isFixed_L5 (N : Nat) (u : xN) : ∀ (n : Nat) (v1 : Int32) (v2 : Int32) (v3 : Int32) (v4 : Int32), xGm md_X4_isFixed (rsI (xU u)) (f_X4_isFixed_L5 N u n v1 v2 v3 v4) 5 [(0, .ref 39), (1, .int v1), (2, .int v2), (3, .int v3), (4, .int v4)] [] (xU u) := by
  intro n
  induction n with
  | zero => intro v1 v2 v3 v4; exact xm_none
  | succ n ih => intro v1 v2 v3 v4; exact go_X4_isFixed_L5b N u _ ih v1 v2 v3 v4
def f_X4_isFixed (N : Nat) (a1 : Int32) (a2 : Int32) (u : xN) : Option Int32 := f_X4_isFixed_L5 N u N a1 a2 (1 : Int32) (0 : Int32)
set_option maxRecDepth 20000 in
theorem go_X4_isFixed (N : Nat) (a1 : Int32) (a2 : Int32) (u : xN) : xGm md_X4_isFixed (rsI (xU u)) (f_X4_isFixed N a1 a2 u) 0 [(0, .ref 39), (1, .int a1), (2, .int a2)] [] (xU u) := by
  unfold f_X4_isFixed
  refine xm_blk0 (pc' := 5) (lv' := [(0, .ref 39), (1, .int a1), (2, .int a2), (3, .int (1 : Int32)), (4, .int (0 : Int32))]) (st' := []) (u' := (xU u)) [(.iconst 1, (0, 0, 0), 1, 0), (.istore_n 3, (0, 0, 0), 0, 0), (.iconst 0, (0, 0, 0), 0, 0), (.istore 4, (0, 0, 0), 0, 0)] (by decide +kernel) rfl ?_
  exact go_X4_isFixed_L5 N u N a1 a2 (1 : Int32) (0 : Int32)
theorem ev_X4_isFixed (N : Nat) (a1 : Int32) (a2 : Int32) (u : xN) : ∀ r, f_X4_isFixed N a1 a2 u = some r → xEm md_X4_isFixed yX4_isFixed [.ref 39, .int a1, .int a2] (xU u) (some (.int r), (xU u)) := xm_met (res := (rsI (xU u))) (as := [.ref 39, .int a1, .int a2]) (go_X4_isFixed N a1 a2 u) (by decide) rfl (Nat.le_of_ble_eq_true rfl)
theorem mw_X4_fix : xMv yX4_fix cX4_fix 5 (some .int) 1 := xMv_of (p1 := 1244) (p2 := 1242) (p3 := 97) (p4 := 1243) (by decide +kernel)
/-! NeitherBareModel.fix(I)I (39, None) -/
abbrev md_X4_fix : xMd := (cX4_fix, RX4, 5, some .int, 4)
def f_X4_fix_L70 (N : Nat) (rec37 : Int32 → Int32 → Int32 → xN → Option (Int32 × xN)) (v1 : Int32) (v4 : Int32) (t0 : Int32) (u : xN) : Option (Int32 × xN) := rec37 v1 t0 (v4 + (-1 : Int32)) u
set_option maxRecDepth 20000 in
theorem go_X4_fix_L70 (N : Nat) (rec37 : Int32 → Int32 → Int32 → xN → Option (Int32 × xN)) (h37 : ∀ (v1 : Int32) (v3 : Int32) (v4 : Int32) (u : xN), xGm md_X4_fix rsM (rec37 v1 v3 v4 u) 37 [(0, .ref 39), (1, .int v1), (3, .int v3), (4, .int v4)] [] (xU u)) (v1 : Int32) (v4 : Int32) (t0 : Int32) (u : xN) : xGm md_X4_fix rsM (f_X4_fix_L70 N rec37 v1 v4 t0 u) 70 [(0, .ref 39), (1, .int v1), (4, .int v4)] [.int t0] (xU u) := by
  unfold f_X4_fix_L70
  refine xm_blk0 (pc' := 74) (lv' := [(0, .ref 39), (1, .int v1), (3, .int t0), (4, .int (v4 + (-1 : Int32)))]) (st' := []) (u' := (xU u)) [(.istore_n 3, (0, 0, 0), 0, 0), (.iinc 4 (-1), (0, 0, 0), -1, 0)] (by decide +kernel) rfl ?_
  refine xm_goto (pc := 74) (off := -37) (tgt := 37) (by decide +kernel) (by decide) ?_
  exact h37 v1 t0 (v4 + (-1 : Int32)) u
def f_X4_fix_L69 (N : Nat) (rec37 : Int32 → Int32 → Int32 → xN → Option (Int32 × xN)) (v1 : Int32) (v3 : Int32) (v4 : Int32) (u : xN) : Option (Int32 × xN) := f_X4_fix_L70 N rec37 v1 v4 v3 u
set_option maxRecDepth 20000 in
theorem go_X4_fix_L69 (N : Nat) (rec37 : Int32 → Int32 → Int32 → xN → Option (Int32 × xN)) (h37 : ∀ (v1 : Int32) (v3 : Int32) (v4 : Int32) (u : xN), xGm md_X4_fix rsM (rec37 v1 v3 v4 u) 37 [(0, .ref 39), (1, .int v1), (3, .int v3), (4, .int v4)] [] (xU u)) (v1 : Int32) (v3 : Int32) (v4 : Int32) (u : xN) : xGm md_X4_fix rsM (f_X4_fix_L69 N rec37 v1 v3 v4 u) 69 [(0, .ref 39), (1, .int v1), (3, .int v3), (4, .int v4)] [] (xU u) := by
  unfold f_X4_fix_L69
  refine xm_blk0 (pc' := 70) (lv' := [(0, .ref 39), (1, .int v1), (3, .int v3), (4, .int v4)]) (st' := [.int v3]) (u' := (xU u)) [(.iload_n 3, (0, 0, 0), 0, 0)] (by decide +kernel) rfl ?_
  refine xm_wk [0, 1, 3] (lv' := [(0, .ref 39), (1, .int v1), (4, .int v4)]) rfl ?_
  exact go_X4_fix_L70 N rec37 h37 v1 v4 v3 u
def f_X4_fix_L37b (N : Nat) (rec37 : Int32 → Int32 → Int32 → xN → Option (Int32 × xN)) (v1 : Int32) (v3 : Int32) (v4 : Int32) (u : xN) : Option (Int32 × xN) := if v4 < (0 : Int32) then Option.bind (f_X4_bits N v3) (fun r83 => some (r83, mI u 39 11 v3)) else Option.bind (f_X4_bits N v4) (fun r44 => Option.bind (f_X4_bits N v3) (fun r48 => if r48 < r44 then f_X4_fix_L69 N rec37 v1 v3 v4 u else Option.bind (f_X4_isFixed N v1 v4 u) (fun r58 => if r58 = (0 : Int32) then f_X4_fix_L69 N rec37 v1 v3 v4 u else f_X4_fix_L70 N rec37 v1 v4 v4 u)))
set_option maxRecDepth 20000 in
theorem go_X4_fix_L37b (N : Nat) (rec37 : Int32 → Int32 → Int32 → xN → Option (Int32 × xN)) (h37 : ∀ (v1 : Int32) (v3 : Int32) (v4 : Int32) (u : xN), xGm md_X4_fix rsM (rec37 v1 v3 v4 u) 37 [(0, .ref 39), (1, .int v1), (3, .int v3), (4, .int v4)] [] (xU u)) (v1 : Int32) (v3 : Int32) (v4 : Int32) (u : xN) : xGm md_X4_fix rsM (f_X4_fix_L37b N rec37 v1 v3 v4 u) 37 [(0, .ref 39), (1, .int v1), (3, .int v3), (4, .int v4)] [] (xU u) := by
  unfold f_X4_fix_L37b
  refine xm_blk0 (pc' := 39) (lv' := [(0, .ref 39), (1, .int v1), (3, .int v3), (4, .int v4)]) (st' := [.int v4]) (u' := (xU u)) [(.iload 4, (0, 0, 0), 0, 0)] (by decide +kernel) rfl ?_
  refine xm_if_lt (pc := 39) (off := 38) (tgt := 77) (by decide +kernel) (by decide) ?_ ?_
  · refine xm_blk0 (pc' := 83) (lv' := [(0, .ref 39), (1, .int v1), (3, .int v3), (4, .int v4)]) (st' := [.int v3]) (u' := (xU (mI u 39 11 v3))) [(.aload_n 0, (0, 0, 0), 0, 0), (.iload_n 3, (0, 0, 0), 0, 0), (.putfield 67, (4, 11, 831), 0, 0), (.iload_n 3, (0, 0, 0), 0, 0)] (by decide +kernel) rfl ?_
    refine xm_Si (pc := 83) (mz := md_X4_bits) (idx := 215) (p1 := 1090) (as := [.int v3]) (st := []) (ev_X4_bits N v3 (mI u 39 11 v3)) mw_X4_bits (by decide +kernel) (by decide +kernel) (by decide) rfl (Nat.le_of_ble_eq_true rfl) (fun r83 => ?_)
    exact xm_iret (pc := 86) (by decide +kernel) rfl rfl
  · refine xm_blk0 (pc' := 44) (lv' := [(0, .ref 39), (1, .int v1), (3, .int v3), (4, .int v4)]) (st' := [.int v4]) (u' := (xU u)) [(.iload 4, (0, 0, 0), 0, 0)] (by decide +kernel) rfl ?_
    refine xm_Si (pc := 44) (mz := md_X4_bits) (idx := 215) (p1 := 1090) (as := [.int v4]) (st := []) (ev_X4_bits N v4 u) mw_X4_bits (by decide +kernel) (by decide +kernel) (by decide) rfl (Nat.le_of_ble_eq_true rfl) (fun r44 => ?_)
    refine xm_blk0 (pc' := 48) (lv' := [(0, .ref 39), (1, .int v1), (3, .int v3), (4, .int v4)]) (st' := [.int v3, .int r44]) (u' := (xU u)) [(.iload_n 3, (0, 0, 0), 0, 0)] (by decide +kernel) rfl ?_
    refine xm_Si (pc := 48) (mz := md_X4_bits) (idx := 215) (p1 := 1090) (as := [.int v3]) (st := [.int r44]) (ev_X4_bits N v3 u) mw_X4_bits (by decide +kernel) (by decide +kernel) (by decide) rfl (Nat.le_of_ble_eq_true rfl) (fun r48 => ?_)
    refine xm_icmp_gt (pc := 51) (off := 18) (tgt := 69) (by decide +kernel) (by decide) ?_ ?_
    · exact go_X4_fix_L69 N rec37 h37 v1 v3 v4 u
    · refine xm_blk0 (pc' := 58) (lv' := [(0, .ref 39), (1, .int v1), (3, .int v3), (4, .int v4)]) (st' := [.int v4, .int v1, .ref 39]) (u' := (xU u)) [(.aload_n 0, (0, 0, 0), 0, 0), (.iload_n 1, (0, 0, 0), 0, 0), (.iload 4, (0, 0, 0), 0, 0)] (by decide +kernel) rfl ?_
      refine xm_Vi (pc := 58) (mz := md_X4_isFixed) (idx := 270) (p1 := 1245) (a := 39) (as := [.int v1, .int v4]) (st := []) (ev_X4_isFixed N v1 v4 u) mw_X4_isFixed (by decide +kernel) (by decide +kernel) (by decide) rfl rfl (by decide) rfl (Nat.le_of_ble_eq_true rfl) (fun r58 => ?_)
      refine xm_if_eq (pc := 61) (off := 8) (tgt := 69) (by decide +kernel) (by decide) ?_ ?_
      · exact go_X4_fix_L69 N rec37 h37 v1 v3 v4 u
      · refine xm_blk0 (pc' := 66) (lv' := [(0, .ref 39), (1, .int v1), (3, .int v3), (4, .int v4)]) (st' := [.int v4]) (u' := (xU u)) [(.iload 4, (0, 0, 0), 0, 0)] (by decide +kernel) rfl ?_
        refine xm_goto (pc := 66) (off := 4) (tgt := 70) (by decide +kernel) (by decide) ?_
        refine xm_wk [0, 1, 3] (lv' := [(0, .ref 39), (1, .int v1), (4, .int v4)]) rfl ?_
        exact go_X4_fix_L70 N rec37 h37 v1 v4 v4 u
def f_X4_fix_L37 (N : Nat) : Nat → Int32 → Int32 → Int32 → xN → Option (Int32 × xN)
  | 0 => fun _ _ _ _ => none
  | n + 1 => fun v1 v3 v4 u => f_X4_fix_L37b N (f_X4_fix_L37 N n) v1 v3 v4 u
theorem go_X4_fix_L37 (N : Nat) : ∀ (n : Nat) (v1 : Int32) (v3 : Int32) (v4 : Int32) (u : xN), xGm md_X4_fix rsM (f_X4_fix_L37 N n v1 v3 v4 u) 37 [(0, .ref 39), (1, .int v1), (3, .int v3), (4, .int v4)] [] (xU u) := by
  intro n
  induction n with
  | zero => intro v1 v3 v4 u; exact xm_none
  | succ n ih => intro v1 v3 v4 u; exact go_X4_fix_L37b N _ ih v1 v3 v4 u
def f_X4_fix (N : Nat) (a1 : Int32) (u : xN) : Option (Int32 × xN) := Option.bind (f_X4_isRow a1) (fun r1 => if r1 = (0 : Int32) then some ((-1 : Int32), u) else Option.bind (f_X4_noRulings N a1 u) (fun r11 => if r11.1 = (0 : Int32) then (gdl [inb a1 6, nzi (3 : Int32)] (f_X4_fix_L37 N N a1 (((1 : Int32) <<< (((r11.2.1 45 (Int32.toNatClampNeg a1)) / (3 : Int32)) &&& 31)) - (1 : Int32)) (((1 : Int32) <<< (((r11.2.1 45 (Int32.toNatClampNeg a1)) / (3 : Int32)) &&& 31)) - (1 : Int32)) r11.2)) else some (r11.1, r11.2)))
set_option maxRecDepth 20000 in
theorem go_X4_fix (N : Nat) (a1 : Int32) (u : xN) : xGm md_X4_fix rsM (f_X4_fix N a1 u) 0 [(0, .ref 39), (1, .int a1)] [] (xU u) := by
  unfold f_X4_fix
  refine xm_blk0 (pc' := 1) (lv' := [(0, .ref 39), (1, .int a1)]) (st' := [.int a1]) (u' := (xU u)) [(.iload_n 1, (0, 0, 0), 0, 0)] (by decide +kernel) rfl ?_
  refine xm_Si (pc := 1) (mz := md_X4_isRow) (idx := 78) (p1 := 901) (as := [.int a1]) (st := []) (ev_X4_isRow a1 u) mw_X4_isRow (by decide +kernel) (by decide +kernel) (by decide) rfl (Nat.le_of_ble_eq_true rfl) (fun r1 => ?_)
  refine xm_if_ne (pc := 4) (off := 5) (tgt := 9) (by decide +kernel) (by decide) ?_ ?_
  · refine xm_blk0 (pc' := 11) (lv' := [(0, .ref 39), (1, .int a1)]) (st' := [.int a1, .ref 39]) (u' := (xU u)) [(.aload_n 0, (0, 0, 0), 0, 0), (.iload_n 1, (0, 0, 0), 0, 0)] (by decide +kernel) rfl ?_
    refine xm_Vm (pc := 11) (mz := md_X4_noRulings) (idx := 264) (p1 := 1229) (a := 39) (as := [.int a1]) (st := []) (ev_X4_noRulings N a1 u) mw_X4_noRulings (by decide +kernel) (by decide +kernel) (by decide) rfl rfl (by decide) rfl (Nat.le_of_ble_eq_true rfl) (fun r11 => ?_)
    refine xm_blk0 (pc' := 16) (lv' := [(0, .ref 39), (1, .int a1), (2, .int r11.1)]) (st' := [.int r11.1]) (u' := (xU r11.2)) [(.istore_n 2, (0, 0, 0), 0, 0), (.iload_n 2, (0, 0, 0), 0, 0)] (by decide +kernel) rfl ?_
    refine xm_if_eq (pc := 16) (off := 5) (tgt := 21) (by decide +kernel) (by decide) ?_ ?_
    · refine xm_blk (bs := [inb a1 6, nzi (3 : Int32)]) (pc' := 37) (lv' := [(0, .ref 39), (1, .int a1), (2, .int r11.1), (3, .int (((1 : Int32) <<< (((r11.2.1 45 (Int32.toNatClampNeg a1)) / (3 : Int32)) &&& 31)) - (1 : Int32))), (4, .int (((1 : Int32) <<< (((r11.2.1 45 (Int32.toNatClampNeg a1)) / (3 : Int32)) &&& 31)) - (1 : Int32)))]) (st' := []) (u' := (xU r11.2)) [(.iconst 1, (0, 0, 0), 1, 0), (.aload_n 0, (0, 0, 0), 0, 0), (.getfield 25, (4, 7, 827), 0, 0), (.iload_n 1, (0, 0, 0), 0, 0), (.iaload, (0, 0, 0), 0, 0), (.iconst 3, (0, 0, 0), 3, 0), (.idiv, (0, 0, 0), 0, 0), (.ishl, (0, 0, 0), 0, 0), (.iconst 1, (0, 0, 0), 1, 0), (.isub, (0, 0, 0), 0, 0), (.istore_n 3, (0, 0, 0), 0, 0), (.iload_n 3, (0, 0, 0), 0, 0), (.istore 4, (0, 0, 0), 0, 0)] (by decide +kernel) rfl ?_
      refine xm_wk [0, 1, 3, 4] (lv' := [(0, .ref 39), (1, .int a1), (3, .int (((1 : Int32) <<< (((r11.2.1 45 (Int32.toNatClampNeg a1)) / (3 : Int32)) &&& 31)) - (1 : Int32))), (4, .int (((1 : Int32) <<< (((r11.2.1 45 (Int32.toNatClampNeg a1)) / (3 : Int32)) &&& 31)) - (1 : Int32)))]) rfl ?_
      exact go_X4_fix_L37 N N a1 (((1 : Int32) <<< (((r11.2.1 45 (Int32.toNatClampNeg a1)) / (3 : Int32)) &&& 31)) - (1 : Int32)) (((1 : Int32) <<< (((r11.2.1 45 (Int32.toNatClampNeg a1)) / (3 : Int32)) &&& 31)) - (1 : Int32)) r11.2
    · refine xm_blk0 (pc' := 20) (lv' := [(0, .ref 39), (1, .int a1), (2, .int r11.1)]) (st' := [.int r11.1]) (u' := (xU r11.2)) [(.iload_n 2, (0, 0, 0), 0, 0)] (by decide +kernel) rfl ?_
      exact xm_iret (pc := 20) (by decide +kernel) rfl rfl
  · refine xm_blk0 (pc' := 8) (lv' := [(0, .ref 39), (1, .int a1)]) (st' := [.int (-1 : Int32)]) (u' := (xU u)) [(.iconst (-1), (0, 0, 0), -1, 0)] (by decide +kernel) rfl ?_
    exact xm_iret (pc := 8) (by decide +kernel) rfl rfl
theorem ev_X4_fix (N : Nat) (a1 : Int32) (u : xN) : ∀ r, f_X4_fix N a1 u = some r → xEm md_X4_fix yX4_fix [.ref 39, .int a1] (xU u) (some (.int r.1), xU r.2) := xm_met (res := rsM) (as := [.ref 39, .int a1]) (go_X4_fix N a1 u) (by decide) rfl (Nat.le_of_ble_eq_true rfl)
theorem mw_X4_follows : xMv yX4_follows cX4_follows 9 (some .int) 3 := xMv_of (p1 := 1252) (p2 := 1250) (p3 := 97) (p4 := 1251) (by decide +kernel)
/-! NeitherBareModel.follows(III)I (39, None, None, None) -/
abbrev md_X4_follows : xMd := (cX4_follows, RX4, 9, some .int, 4)
def f_X4_follows_L26 (N : Nat) (u : xN) : Option (Int32 × xN) := some ((-1 : Int32), u)
set_option maxRecDepth 20000 in
theorem go_X4_follows_L26 (N : Nat) (u : xN) : xGm md_X4_follows rsM (f_X4_follows_L26 N u) 26 [] [] (xU u) := by
  unfold f_X4_follows_L26
  refine xm_blk0 (pc' := 27) (lv' := []) (st' := [.int (-1 : Int32)]) (u' := (xU u)) [(.iconst (-1), (0, 0, 0), -1, 0)] (by decide +kernel) rfl ?_
  exact xm_iret (pc := 27) (by decide +kernel) rfl rfl
def f_X4_follows_L163 (N : Nat) (rec52 : Int32 → Int32 → Int32 → Int32 → Int32 → Int32 → xN → Option (Int32 × xN)) (v1 : Int32) (v2 : Int32) (v3 : Int32) (v5 : Int32) (v7 : Int32) (t0 : Int32) (u : xN) : Option (Int32 × xN) := rec52 v1 v2 v3 v5 t0 (v7 + (1 : Int32)) u
set_option maxRecDepth 20000 in
theorem go_X4_follows_L163 (N : Nat) (rec52 : Int32 → Int32 → Int32 → Int32 → Int32 → Int32 → xN → Option (Int32 × xN)) (h52 : ∀ (v1 : Int32) (v2 : Int32) (v3 : Int32) (v5 : Int32) (v6 : Int32) (v7 : Int32) (u : xN), xGm md_X4_follows rsM (rec52 v1 v2 v3 v5 v6 v7 u) 52 [(0, .ref 39), (1, .int v1), (2, .int v2), (3, .int v3), (5, .int v5), (6, .int v6), (7, .int v7)] [] (xU u)) (v1 : Int32) (v2 : Int32) (v3 : Int32) (v5 : Int32) (v7 : Int32) (t0 : Int32) (u : xN) : xGm md_X4_follows rsM (f_X4_follows_L163 N rec52 v1 v2 v3 v5 v7 t0 u) 163 [(0, .ref 39), (1, .int v1), (2, .int v2), (3, .int v3), (5, .int v5), (7, .int v7)] [.int t0] (xU u) := by
  unfold f_X4_follows_L163
  refine xm_blk0 (pc' := 168) (lv' := [(0, .ref 39), (1, .int v1), (2, .int v2), (3, .int v3), (5, .int v5), (6, .int t0), (7, .int (v7 + (1 : Int32)))]) (st' := []) (u' := (xU u)) [(.istore 6, (0, 0, 0), 0, 0), (.iinc 7 1, (0, 0, 0), 1, 0)] (by decide +kernel) rfl ?_
  refine xm_goto (pc := 168) (off := -116) (tgt := 52) (by decide +kernel) (by decide) ?_
  exact h52 v1 v2 v3 v5 t0 (v7 + (1 : Int32)) u
def f_X4_follows_L158 (N : Nat) (rec52 : Int32 → Int32 → Int32 → Int32 → Int32 → Int32 → xN → Option (Int32 × xN)) (v1 : Int32) (v2 : Int32) (v3 : Int32) (v5 : Int32) (v7 : Int32) (u : xN) : Option (Int32 × xN) := f_X4_follows_L163 N rec52 v1 v2 v3 v5 v7 (1 : Int32) u
set_option maxRecDepth 20000 in
theorem go_X4_follows_L158 (N : Nat) (rec52 : Int32 → Int32 → Int32 → Int32 → Int32 → Int32 → xN → Option (Int32 × xN)) (h52 : ∀ (v1 : Int32) (v2 : Int32) (v3 : Int32) (v5 : Int32) (v6 : Int32) (v7 : Int32) (u : xN), xGm md_X4_follows rsM (rec52 v1 v2 v3 v5 v6 v7 u) 52 [(0, .ref 39), (1, .int v1), (2, .int v2), (3, .int v3), (5, .int v5), (6, .int v6), (7, .int v7)] [] (xU u)) (v1 : Int32) (v2 : Int32) (v3 : Int32) (v5 : Int32) (v7 : Int32) (u : xN) : xGm md_X4_follows rsM (f_X4_follows_L158 N rec52 v1 v2 v3 v5 v7 u) 158 [(0, .ref 39), (1, .int v1), (2, .int v2), (3, .int v3), (5, .int v5), (7, .int v7)] [] (xU u) := by
  unfold f_X4_follows_L158
  refine xm_blk0 (pc' := 159) (lv' := [(0, .ref 39), (1, .int v1), (2, .int v2), (3, .int v3), (5, .int v5), (7, .int v7)]) (st' := [.int (1 : Int32)]) (u' := (xU u)) [(.iconst 1, (0, 0, 0), 1, 0)] (by decide +kernel) rfl ?_
  refine xm_goto (pc := 159) (off := 4) (tgt := 163) (by decide +kernel) (by decide) ?_
  exact go_X4_follows_L163 N rec52 h52 v1 v2 v3 v5 v7 (1 : Int32) u
def f_X4_follows_L162 (N : Nat) (rec52 : Int32 → Int32 → Int32 → Int32 → Int32 → Int32 → xN → Option (Int32 × xN)) (v1 : Int32) (v2 : Int32) (v3 : Int32) (v5 : Int32) (v7 : Int32) (u : xN) : Option (Int32 × xN) := f_X4_follows_L163 N rec52 v1 v2 v3 v5 v7 (0 : Int32) u
set_option maxRecDepth 20000 in
theorem go_X4_follows_L162 (N : Nat) (rec52 : Int32 → Int32 → Int32 → Int32 → Int32 → Int32 → xN → Option (Int32 × xN)) (h52 : ∀ (v1 : Int32) (v2 : Int32) (v3 : Int32) (v5 : Int32) (v6 : Int32) (v7 : Int32) (u : xN), xGm md_X4_follows rsM (rec52 v1 v2 v3 v5 v6 v7 u) 52 [(0, .ref 39), (1, .int v1), (2, .int v2), (3, .int v3), (5, .int v5), (6, .int v6), (7, .int v7)] [] (xU u)) (v1 : Int32) (v2 : Int32) (v3 : Int32) (v5 : Int32) (v7 : Int32) (u : xN) : xGm md_X4_follows rsM (f_X4_follows_L162 N rec52 v1 v2 v3 v5 v7 u) 162 [(0, .ref 39), (1, .int v1), (2, .int v2), (3, .int v3), (5, .int v5), (7, .int v7)] [] (xU u) := by
  unfold f_X4_follows_L162
  refine xm_blk0 (pc' := 163) (lv' := [(0, .ref 39), (1, .int v1), (2, .int v2), (3, .int v3), (5, .int v5), (7, .int v7)]) (st' := [.int (0 : Int32)]) (u' := (xU u)) [(.iconst 0, (0, 0, 0), 0, 0)] (by decide +kernel) rfl ?_
  exact go_X4_follows_L163 N rec52 h52 v1 v2 v3 v5 v7 (0 : Int32) u
def f_X4_follows_L123 (N : Nat) (rec52 : Int32 → Int32 → Int32 → Int32 → Int32 → Int32 → xN → Option (Int32 × xN)) (v1 : Int32) (v2 : Int32) (v3 : Int32) (v6 : Int32) (v7 : Int32) (v8 : Int32) (t0 : Int32) (u : xN) : Option (Int32 × xN) := if v6 = (0 : Int32) then (if v8 = (0 : Int32) then f_X4_follows_L162 N rec52 v1 v2 v3 t0 v7 u else Option.bind (f_X4_rule v1 v7 (2 : Int32) u) (fun r140 => if r140 = (0 : Int32) then Option.bind (f_X4_rule v1 v7 (1 : Int32) u) (fun r151 => if r151 < v3 then f_X4_follows_L162 N rec52 v1 v2 v3 t0 v7 u else f_X4_follows_L158 N rec52 v1 v2 v3 t0 v7 u) else f_X4_follows_L162 N rec52 v1 v2 v3 t0 v7 u)) else f_X4_follows_L158 N rec52 v1 v2 v3 t0 v7 u
set_option maxRecDepth 20000 in
theorem go_X4_follows_L123 (N : Nat) (rec52 : Int32 → Int32 → Int32 → Int32 → Int32 → Int32 → xN → Option (Int32 × xN)) (h52 : ∀ (v1 : Int32) (v2 : Int32) (v3 : Int32) (v5 : Int32) (v6 : Int32) (v7 : Int32) (u : xN), xGm md_X4_follows rsM (rec52 v1 v2 v3 v5 v6 v7 u) 52 [(0, .ref 39), (1, .int v1), (2, .int v2), (3, .int v3), (5, .int v5), (6, .int v6), (7, .int v7)] [] (xU u)) (v1 : Int32) (v2 : Int32) (v3 : Int32) (v6 : Int32) (v7 : Int32) (v8 : Int32) (t0 : Int32) (u : xN) : xGm md_X4_follows rsM (f_X4_follows_L123 N rec52 v1 v2 v3 v6 v7 v8 t0 u) 123 [(0, .ref 39), (1, .int v1), (2, .int v2), (3, .int v3), (6, .int v6), (7, .int v7), (8, .int v8)] [.int t0] (xU u) := by
  unfold f_X4_follows_L123
  refine xm_blk0 (pc' := 127) (lv' := [(0, .ref 39), (1, .int v1), (2, .int v2), (3, .int v3), (5, .int t0), (6, .int v6), (7, .int v7), (8, .int v8)]) (st' := [.int v6]) (u' := (xU u)) [(.istore 5, (0, 0, 0), 0, 0), (.iload 6, (0, 0, 0), 0, 0)] (by decide +kernel) rfl ?_
  refine xm_if_ne (pc := 127) (off := 31) (tgt := 158) (by decide +kernel) (by decide) ?_ ?_
  · refine xm_wk [0, 1, 2, 3, 4, 6] (lv' := [(0, .ref 39), (1, .int v1), (2, .int v2), (3, .int v3), (5, .int t0), (7, .int v7)]) rfl ?_
    exact go_X4_follows_L158 N rec52 h52 v1 v2 v3 t0 v7 u
  · refine xm_blk0 (pc' := 132) (lv' := [(0, .ref 39), (1, .int v1), (2, .int v2), (3, .int v3), (5, .int t0), (6, .int v6), (7, .int v7), (8, .int v8)]) (st' := [.int v8]) (u' := (xU u)) [(.iload 8, (0, 0, 0), 0, 0)] (by decide +kernel) rfl ?_
    refine xm_if_eq (pc := 132) (off := 30) (tgt := 162) (by decide +kernel) (by decide) ?_ ?_
    · refine xm_wk [0, 1, 2, 3, 4, 6] (lv' := [(0, .ref 39), (1, .int v1), (2, .int v2), (3, .int v3), (5, .int t0), (7, .int v7)]) rfl ?_
      exact go_X4_follows_L162 N rec52 h52 v1 v2 v3 t0 v7 u
    · refine xm_blk0 (pc' := 140) (lv' := [(0, .ref 39), (1, .int v1), (2, .int v2), (3, .int v3), (5, .int t0), (6, .int v6), (7, .int v7), (8, .int v8)]) (st' := [.int (2 : Int32), .int v7, .int v1, .ref 39]) (u' := (xU u)) [(.aload_n 0, (0, 0, 0), 0, 0), (.iload_n 1, (0, 0, 0), 0, 0), (.iload 7, (0, 0, 0), 0, 0), (.iconst 2, (0, 0, 0), 2, 0)] (by decide +kernel) rfl ?_
      refine xm_Vi (pc := 140) (mz := md_X4_rule) (idx := 261) (p1 := 1233) (a := 39) (as := [.int v1, .int v7, .int (2 : Int32)]) (st := []) (ev_X4_rule v1 v7 (2 : Int32) u) mw_X4_rule (by decide +kernel) (by decide +kernel) (by decide) rfl rfl (by decide) rfl (Nat.le_of_ble_eq_true rfl) (fun r140 => ?_)
      refine xm_if_ne (pc := 143) (off := 19) (tgt := 162) (by decide +kernel) (by decide) ?_ ?_
      · refine xm_wk [0, 1, 2, 3, 4, 6] (lv' := [(0, .ref 39), (1, .int v1), (2, .int v2), (3, .int v3), (5, .int t0), (7, .int v7)]) rfl ?_
        exact go_X4_follows_L162 N rec52 h52 v1 v2 v3 t0 v7 u
      · refine xm_blk0 (pc' := 151) (lv' := [(0, .ref 39), (1, .int v1), (2, .int v2), (3, .int v3), (5, .int t0), (6, .int v6), (7, .int v7), (8, .int v8)]) (st' := [.int (1 : Int32), .int v7, .int v1, .ref 39]) (u' := (xU u)) [(.aload_n 0, (0, 0, 0), 0, 0), (.iload_n 1, (0, 0, 0), 0, 0), (.iload 7, (0, 0, 0), 0, 0), (.iconst 1, (0, 0, 0), 1, 0)] (by decide +kernel) rfl ?_
        refine xm_Vi (pc := 151) (mz := md_X4_rule) (idx := 261) (p1 := 1233) (a := 39) (as := [.int v1, .int v7, .int (1 : Int32)]) (st := []) (ev_X4_rule v1 v7 (1 : Int32) u) mw_X4_rule (by decide +kernel) (by decide +kernel) (by decide) rfl rfl (by decide) rfl (Nat.le_of_ble_eq_true rfl) (fun r151 => ?_)
        refine xm_blk0 (pc' := 155) (lv' := [(0, .ref 39), (1, .int v1), (2, .int v2), (3, .int v3), (5, .int t0), (6, .int v6), (7, .int v7), (8, .int v8)]) (st' := [.int v3, .int r151]) (u' := (xU u)) [(.iload_n 3, (0, 0, 0), 0, 0)] (by decide +kernel) rfl ?_
        refine xm_icmp_lt (pc := 155) (off := 7) (tgt := 162) (by decide +kernel) (by decide) ?_ ?_
        · refine xm_wk [0, 1, 2, 3, 4, 6] (lv' := [(0, .ref 39), (1, .int v1), (2, .int v2), (3, .int v3), (5, .int t0), (7, .int v7)]) rfl ?_
          exact go_X4_follows_L162 N rec52 h52 v1 v2 v3 t0 v7 u
        · refine xm_wk [0, 1, 2, 3, 4, 6] (lv' := [(0, .ref 39), (1, .int v1), (2, .int v2), (3, .int v3), (5, .int t0), (7, .int v7)]) rfl ?_
          exact go_X4_follows_L158 N rec52 h52 v1 v2 v3 t0 v7 u
def f_X4_follows_L118 (N : Nat) (rec52 : Int32 → Int32 → Int32 → Int32 → Int32 → Int32 → xN → Option (Int32 × xN)) (v1 : Int32) (v2 : Int32) (v3 : Int32) (v6 : Int32) (v7 : Int32) (v8 : Int32) (u : xN) : Option (Int32 × xN) := f_X4_follows_L123 N rec52 v1 v2 v3 v6 v7 v8 (1 : Int32) u
set_option maxRecDepth 20000 in
theorem go_X4_follows_L118 (N : Nat) (rec52 : Int32 → Int32 → Int32 → Int32 → Int32 → Int32 → xN → Option (Int32 × xN)) (h52 : ∀ (v1 : Int32) (v2 : Int32) (v3 : Int32) (v5 : Int32) (v6 : Int32) (v7 : Int32) (u : xN), xGm md_X4_follows rsM (rec52 v1 v2 v3 v5 v6 v7 u) 52 [(0, .ref 39), (1, .int v1), (2, .int v2), (3, .int v3), (5, .int v5), (6, .int v6), (7, .int v7)] [] (xU u)) (v1 : Int32) (v2 : Int32) (v3 : Int32) (v6 : Int32) (v7 : Int32) (v8 : Int32) (u : xN) : xGm md_X4_follows rsM (f_X4_follows_L118 N rec52 v1 v2 v3 v6 v7 v8 u) 118 [(0, .ref 39), (1, .int v1), (2, .int v2), (3, .int v3), (6, .int v6), (7, .int v7), (8, .int v8)] [] (xU u) := by
  unfold f_X4_follows_L118
  refine xm_blk0 (pc' := 119) (lv' := [(0, .ref 39), (1, .int v1), (2, .int v2), (3, .int v3), (6, .int v6), (7, .int v7), (8, .int v8)]) (st' := [.int (1 : Int32)]) (u' := (xU u)) [(.iconst 1, (0, 0, 0), 1, 0)] (by decide +kernel) rfl ?_
  refine xm_goto (pc := 119) (off := 4) (tgt := 123) (by decide +kernel) (by decide) ?_
  exact go_X4_follows_L123 N rec52 h52 v1 v2 v3 v6 v7 v8 (1 : Int32) u
def f_X4_follows_L122 (N : Nat) (rec52 : Int32 → Int32 → Int32 → Int32 → Int32 → Int32 → xN → Option (Int32 × xN)) (v1 : Int32) (v2 : Int32) (v3 : Int32) (v6 : Int32) (v7 : Int32) (v8 : Int32) (u : xN) : Option (Int32 × xN) := f_X4_follows_L123 N rec52 v1 v2 v3 v6 v7 v8 (0 : Int32) u
set_option maxRecDepth 20000 in
theorem go_X4_follows_L122 (N : Nat) (rec52 : Int32 → Int32 → Int32 → Int32 → Int32 → Int32 → xN → Option (Int32 × xN)) (h52 : ∀ (v1 : Int32) (v2 : Int32) (v3 : Int32) (v5 : Int32) (v6 : Int32) (v7 : Int32) (u : xN), xGm md_X4_follows rsM (rec52 v1 v2 v3 v5 v6 v7 u) 52 [(0, .ref 39), (1, .int v1), (2, .int v2), (3, .int v3), (5, .int v5), (6, .int v6), (7, .int v7)] [] (xU u)) (v1 : Int32) (v2 : Int32) (v3 : Int32) (v6 : Int32) (v7 : Int32) (v8 : Int32) (u : xN) : xGm md_X4_follows rsM (f_X4_follows_L122 N rec52 v1 v2 v3 v6 v7 v8 u) 122 [(0, .ref 39), (1, .int v1), (2, .int v2), (3, .int v3), (6, .int v6), (7, .int v7), (8, .int v8)] [] (xU u) := by
  unfold f_X4_follows_L122
  refine xm_blk0 (pc' := 123) (lv' := [(0, .ref 39), (1, .int v1), (2, .int v2), (3, .int v3), (6, .int v6), (7, .int v7), (8, .int v8)]) (st' := [.int (0 : Int32)]) (u' := (xU u)) [(.iconst 0, (0, 0, 0), 0, 0)] (by decide +kernel) rfl ?_
  exact go_X4_follows_L123 N rec52 h52 v1 v2 v3 v6 v7 v8 (0 : Int32) u
def f_X4_follows_L82 (N : Nat) (rec52 : Int32 → Int32 → Int32 → Int32 → Int32 → Int32 → xN → Option (Int32 × xN)) (v1 : Int32) (v2 : Int32) (v3 : Int32) (v5 : Int32) (v6 : Int32) (v7 : Int32) (t0 : Int32) (u : xN) : Option (Int32 × xN) := if v5 = (0 : Int32) then (if t0 = (0 : Int32) then f_X4_follows_L122 N rec52 v1 v2 v3 v6 v7 t0 u else Option.bind (f_X4_rule v1 v7 (2 : Int32) u) (fun r99 => if r99 = (1 : Int32) then Option.bind (f_X4_rule v1 v7 (1 : Int32) u) (fun r111 => if v3 < r111 then f_X4_follows_L122 N rec52 v1 v2 v3 v6 v7 t0 u else f_X4_follows_L118 N rec52 v1 v2 v3 v6 v7 t0 u) else f_X4_follows_L122 N rec52 v1 v2 v3 v6 v7 t0 u)) else f_X4_follows_L118 N rec52 v1 v2 v3 v6 v7 t0 u
set_option maxRecDepth 20000 in
theorem go_X4_follows_L82 (N : Nat) (rec52 : Int32 → Int32 → Int32 → Int32 → Int32 → Int32 → xN → Option (Int32 × xN)) (h52 : ∀ (v1 : Int32) (v2 : Int32) (v3 : Int32) (v5 : Int32) (v6 : Int32) (v7 : Int32) (u : xN), xGm md_X4_follows rsM (rec52 v1 v2 v3 v5 v6 v7 u) 52 [(0, .ref 39), (1, .int v1), (2, .int v2), (3, .int v3), (5, .int v5), (6, .int v6), (7, .int v7)] [] (xU u)) (v1 : Int32) (v2 : Int32) (v3 : Int32) (v5 : Int32) (v6 : Int32) (v7 : Int32) (t0 : Int32) (u : xN) : xGm md_X4_follows rsM (f_X4_follows_L82 N rec52 v1 v2 v3 v5 v6 v7 t0 u) 82 [(0, .ref 39), (1, .int v1), (2, .int v2), (3, .int v3), (5, .int v5), (6, .int v6), (7, .int v7)] [.int t0] (xU u) := by
  unfold f_X4_follows_L82
  refine xm_blk0 (pc' := 86) (lv' := [(0, .ref 39), (1, .int v1), (2, .int v2), (3, .int v3), (5, .int v5), (6, .int v6), (7, .int v7), (8, .int t0)]) (st' := [.int v5]) (u' := (xU u)) [(.istore 8, (0, 0, 0), 0, 0), (.iload 5, (0, 0, 0), 0, 0)] (by decide +kernel) rfl ?_
  refine xm_if_ne (pc := 86) (off := 32) (tgt := 118) (by decide +kernel) (by decide) ?_ ?_
  · refine xm_wk [0, 1, 2, 3, 5, 6, 7] (lv' := [(0, .ref 39), (1, .int v1), (2, .int v2), (3, .int v3), (6, .int v6), (7, .int v7), (8, .int t0)]) rfl ?_
    exact go_X4_follows_L118 N rec52 h52 v1 v2 v3 v6 v7 t0 u
  · refine xm_blk0 (pc' := 91) (lv' := [(0, .ref 39), (1, .int v1), (2, .int v2), (3, .int v3), (5, .int v5), (6, .int v6), (7, .int v7), (8, .int t0)]) (st' := [.int t0]) (u' := (xU u)) [(.iload 8, (0, 0, 0), 0, 0)] (by decide +kernel) rfl ?_
    refine xm_if_eq (pc := 91) (off := 31) (tgt := 122) (by decide +kernel) (by decide) ?_ ?_
    · refine xm_wk [0, 1, 2, 3, 5, 6, 7] (lv' := [(0, .ref 39), (1, .int v1), (2, .int v2), (3, .int v3), (6, .int v6), (7, .int v7), (8, .int t0)]) rfl ?_
      exact go_X4_follows_L122 N rec52 h52 v1 v2 v3 v6 v7 t0 u
    · refine xm_blk0 (pc' := 99) (lv' := [(0, .ref 39), (1, .int v1), (2, .int v2), (3, .int v3), (5, .int v5), (6, .int v6), (7, .int v7), (8, .int t0)]) (st' := [.int (2 : Int32), .int v7, .int v1, .ref 39]) (u' := (xU u)) [(.aload_n 0, (0, 0, 0), 0, 0), (.iload_n 1, (0, 0, 0), 0, 0), (.iload 7, (0, 0, 0), 0, 0), (.iconst 2, (0, 0, 0), 2, 0)] (by decide +kernel) rfl ?_
      refine xm_Vi (pc := 99) (mz := md_X4_rule) (idx := 261) (p1 := 1233) (a := 39) (as := [.int v1, .int v7, .int (2 : Int32)]) (st := []) (ev_X4_rule v1 v7 (2 : Int32) u) mw_X4_rule (by decide +kernel) (by decide +kernel) (by decide) rfl rfl (by decide) rfl (Nat.le_of_ble_eq_true rfl) (fun r99 => ?_)
      refine xm_blk0 (pc' := 103) (lv' := [(0, .ref 39), (1, .int v1), (2, .int v2), (3, .int v3), (5, .int v5), (6, .int v6), (7, .int v7), (8, .int t0)]) (st' := [.int (1 : Int32), .int r99]) (u' := (xU u)) [(.iconst 1, (0, 0, 0), 1, 0)] (by decide +kernel) rfl ?_
      refine xm_icmp_ne (pc := 103) (off := 19) (tgt := 122) (by decide +kernel) (by decide) ?_ ?_
      · refine xm_wk [0, 1, 2, 3, 5, 6, 7] (lv' := [(0, .ref 39), (1, .int v1), (2, .int v2), (3, .int v3), (6, .int v6), (7, .int v7), (8, .int t0)]) rfl ?_
        exact go_X4_follows_L122 N rec52 h52 v1 v2 v3 v6 v7 t0 u
      · refine xm_blk0 (pc' := 111) (lv' := [(0, .ref 39), (1, .int v1), (2, .int v2), (3, .int v3), (5, .int v5), (6, .int v6), (7, .int v7), (8, .int t0)]) (st' := [.int (1 : Int32), .int v7, .int v1, .ref 39]) (u' := (xU u)) [(.aload_n 0, (0, 0, 0), 0, 0), (.iload_n 1, (0, 0, 0), 0, 0), (.iload 7, (0, 0, 0), 0, 0), (.iconst 1, (0, 0, 0), 1, 0)] (by decide +kernel) rfl ?_
        refine xm_Vi (pc := 111) (mz := md_X4_rule) (idx := 261) (p1 := 1233) (a := 39) (as := [.int v1, .int v7, .int (1 : Int32)]) (st := []) (ev_X4_rule v1 v7 (1 : Int32) u) mw_X4_rule (by decide +kernel) (by decide +kernel) (by decide) rfl rfl (by decide) rfl (Nat.le_of_ble_eq_true rfl) (fun r111 => ?_)
        refine xm_blk0 (pc' := 115) (lv' := [(0, .ref 39), (1, .int v1), (2, .int v2), (3, .int v3), (5, .int v5), (6, .int v6), (7, .int v7), (8, .int t0)]) (st' := [.int v3, .int r111]) (u' := (xU u)) [(.iload_n 3, (0, 0, 0), 0, 0)] (by decide +kernel) rfl ?_
        refine xm_icmp_gt (pc := 115) (off := 7) (tgt := 122) (by decide +kernel) (by decide) ?_ ?_
        · refine xm_wk [0, 1, 2, 3, 5, 6, 7] (lv' := [(0, .ref 39), (1, .int v1), (2, .int v2), (3, .int v3), (6, .int v6), (7, .int v7), (8, .int t0)]) rfl ?_
          exact go_X4_follows_L122 N rec52 h52 v1 v2 v3 v6 v7 t0 u
        · refine xm_wk [0, 1, 2, 3, 5, 6, 7] (lv' := [(0, .ref 39), (1, .int v1), (2, .int v2), (3, .int v3), (6, .int v6), (7, .int v7), (8, .int t0)]) rfl ?_
          exact go_X4_follows_L118 N rec52 h52 v1 v2 v3 v6 v7 t0 u
def f_X4_follows_L191 (N : Nat) (t0 : Int32) (u : xN) : Option (Int32 × xN) := some (t0, u)
set_option maxRecDepth 20000 in
theorem go_X4_follows_L191 (N : Nat) (t0 : Int32) (u : xN) : xGm md_X4_follows rsM (f_X4_follows_L191 N t0 u) 191 [] [.int t0] (xU u) := by
  unfold f_X4_follows_L191
  exact xm_iret (pc := 191) (by decide +kernel) rfl rfl
def f_X4_follows_L52b (N : Nat) (rec52 : Int32 → Int32 → Int32 → Int32 → Int32 → Int32 → xN → Option (Int32 × xN)) (v1 : Int32) (v2 : Int32) (v3 : Int32) (v5 : Int32) (v6 : Int32) (v7 : Int32) (u : xN) : Option (Int32 × xN) := gdl [inb v1 6, nzi (3 : Int32)] (if ((u.1 45 (Int32.toNatClampNeg v1)) / (3 : Int32)) ≤ v7 then (if v5 = (0 : Int32) then (if v6 = (0 : Int32) then f_X4_follows_L191 N (-9 : Int32) u else f_X4_follows_L191 N (0 : Int32) u) else f_X4_follows_L191 N (1 : Int32) u) else Option.bind (f_X4_rule v1 v7 (0 : Int32) u) (fun r70 => if r70 = v2 then f_X4_follows_L82 N rec52 v1 v2 v3 v5 v6 v7 (1 : Int32) u else f_X4_follows_L82 N rec52 v1 v2 v3 v5 v6 v7 (0 : Int32) u))
set_option maxRecDepth 20000 in
theorem go_X4_follows_L52b (N : Nat) (rec52 : Int32 → Int32 → Int32 → Int32 → Int32 → Int32 → xN → Option (Int32 × xN)) (h52 : ∀ (v1 : Int32) (v2 : Int32) (v3 : Int32) (v5 : Int32) (v6 : Int32) (v7 : Int32) (u : xN), xGm md_X4_follows rsM (rec52 v1 v2 v3 v5 v6 v7 u) 52 [(0, .ref 39), (1, .int v1), (2, .int v2), (3, .int v3), (5, .int v5), (6, .int v6), (7, .int v7)] [] (xU u)) (v1 : Int32) (v2 : Int32) (v3 : Int32) (v5 : Int32) (v6 : Int32) (v7 : Int32) (u : xN) : xGm md_X4_follows rsM (f_X4_follows_L52b N rec52 v1 v2 v3 v5 v6 v7 u) 52 [(0, .ref 39), (1, .int v1), (2, .int v2), (3, .int v3), (5, .int v5), (6, .int v6), (7, .int v7)] [] (xU u) := by
  unfold f_X4_follows_L52b
  refine xm_blk (bs := [inb v1 6, nzi (3 : Int32)]) (pc' := 62) (lv' := [(0, .ref 39), (1, .int v1), (2, .int v2), (3, .int v3), (5, .int v5), (6, .int v6), (7, .int v7)]) (st' := [.int ((u.1 45 (Int32.toNatClampNeg v1)) / (3 : Int32)), .int v7]) (u' := (xU u)) [(.iload 7, (0, 0, 0), 0, 0), (.aload_n 0, (0, 0, 0), 0, 0), (.getfield 25, (4, 7, 827), 0, 0), (.iload_n 1, (0, 0, 0), 0, 0), (.iaload, (0, 0, 0), 0, 0), (.iconst 3, (0, 0, 0), 3, 0), (.idiv, (0, 0, 0), 0, 0)] (by decide +kernel) rfl ?_
  refine xm_icmp_ge (pc := 62) (off := 109) (tgt := 171) (by decide +kernel) (by decide) ?_ ?_
  · refine xm_blk0 (pc' := 173) (lv' := [(0, .ref 39), (1, .int v1), (2, .int v2), (3, .int v3), (5, .int v5), (6, .int v6), (7, .int v7)]) (st' := [.int v5]) (u' := (xU u)) [(.iload 5, (0, 0, 0), 0, 0)] (by decide +kernel) rfl ?_
    refine xm_if_eq (pc := 173) (off := 7) (tgt := 180) (by decide +kernel) (by decide) ?_ ?_
    · refine xm_blk0 (pc' := 182) (lv' := [(0, .ref 39), (1, .int v1), (2, .int v2), (3, .int v3), (5, .int v5), (6, .int v6), (7, .int v7)]) (st' := [.int v6]) (u' := (xU u)) [(.iload 6, (0, 0, 0), 0, 0)] (by decide +kernel) rfl ?_
      refine xm_if_eq (pc := 182) (off := 7) (tgt := 189) (by decide +kernel) (by decide) ?_ ?_
      · refine xm_blk0 (pc' := 191) (lv' := [(0, .ref 39), (1, .int v1), (2, .int v2), (3, .int v3), (5, .int v5), (6, .int v6), (7, .int v7)]) (st' := [.int (-9 : Int32)]) (u' := (xU u)) [(.bipush (-9), (0, 0, 0), -9, 0)] (by decide +kernel) rfl ?_
        refine xm_wk [] (lv' := []) rfl ?_
        exact go_X4_follows_L191 N (-9 : Int32) u
      · refine xm_blk0 (pc' := 186) (lv' := [(0, .ref 39), (1, .int v1), (2, .int v2), (3, .int v3), (5, .int v5), (6, .int v6), (7, .int v7)]) (st' := [.int (0 : Int32)]) (u' := (xU u)) [(.iconst 0, (0, 0, 0), 0, 0)] (by decide +kernel) rfl ?_
        refine xm_goto (pc := 186) (off := 5) (tgt := 191) (by decide +kernel) (by decide) ?_
        refine xm_wk [] (lv' := []) rfl ?_
        exact go_X4_follows_L191 N (0 : Int32) u
    · refine xm_blk0 (pc' := 177) (lv' := [(0, .ref 39), (1, .int v1), (2, .int v2), (3, .int v3), (5, .int v5), (6, .int v6), (7, .int v7)]) (st' := [.int (1 : Int32)]) (u' := (xU u)) [(.iconst 1, (0, 0, 0), 1, 0)] (by decide +kernel) rfl ?_
      refine xm_goto (pc := 177) (off := 14) (tgt := 191) (by decide +kernel) (by decide) ?_
      refine xm_wk [] (lv' := []) rfl ?_
      exact go_X4_follows_L191 N (1 : Int32) u
  · refine xm_blk0 (pc' := 70) (lv' := [(0, .ref 39), (1, .int v1), (2, .int v2), (3, .int v3), (5, .int v5), (6, .int v6), (7, .int v7)]) (st' := [.int (0 : Int32), .int v7, .int v1, .ref 39]) (u' := (xU u)) [(.aload_n 0, (0, 0, 0), 0, 0), (.iload_n 1, (0, 0, 0), 0, 0), (.iload 7, (0, 0, 0), 0, 0), (.iconst 0, (0, 0, 0), 0, 0)] (by decide +kernel) rfl ?_
    refine xm_Vi (pc := 70) (mz := md_X4_rule) (idx := 261) (p1 := 1233) (a := 39) (as := [.int v1, .int v7, .int (0 : Int32)]) (st := []) (ev_X4_rule v1 v7 (0 : Int32) u) mw_X4_rule (by decide +kernel) (by decide +kernel) (by decide) rfl rfl (by decide) rfl (Nat.le_of_ble_eq_true rfl) (fun r70 => ?_)
    refine xm_blk0 (pc' := 74) (lv' := [(0, .ref 39), (1, .int v1), (2, .int v2), (3, .int v3), (5, .int v5), (6, .int v6), (7, .int v7)]) (st' := [.int v2, .int r70]) (u' := (xU u)) [(.iload_n 2, (0, 0, 0), 0, 0)] (by decide +kernel) rfl ?_
    refine xm_icmp_ne (pc := 74) (off := 7) (tgt := 81) (by decide +kernel) (by decide) ?_ ?_
    · refine xm_blk0 (pc' := 82) (lv' := [(0, .ref 39), (1, .int v1), (2, .int v2), (3, .int v3), (5, .int v5), (6, .int v6), (7, .int v7)]) (st' := [.int (0 : Int32)]) (u' := (xU u)) [(.iconst 0, (0, 0, 0), 0, 0)] (by decide +kernel) rfl ?_
      exact go_X4_follows_L82 N rec52 h52 v1 v2 v3 v5 v6 v7 (0 : Int32) u
    · refine xm_blk0 (pc' := 78) (lv' := [(0, .ref 39), (1, .int v1), (2, .int v2), (3, .int v3), (5, .int v5), (6, .int v6), (7, .int v7)]) (st' := [.int (1 : Int32)]) (u' := (xU u)) [(.iconst 1, (0, 0, 0), 1, 0)] (by decide +kernel) rfl ?_
      refine xm_goto (pc := 78) (off := 4) (tgt := 82) (by decide +kernel) (by decide) ?_
      exact go_X4_follows_L82 N rec52 h52 v1 v2 v3 v5 v6 v7 (1 : Int32) u
def f_X4_follows_L52 (N : Nat) : Nat → Int32 → Int32 → Int32 → Int32 → Int32 → Int32 → xN → Option (Int32 × xN)
  | 0 => fun _ _ _ _ _ _ _ => none
  | n + 1 => fun v1 v2 v3 v5 v6 v7 u => f_X4_follows_L52b N (f_X4_follows_L52 N n) v1 v2 v3 v5 v6 v7 u
theorem go_X4_follows_L52 (N : Nat) : ∀ (n : Nat) (v1 : Int32) (v2 : Int32) (v3 : Int32) (v5 : Int32) (v6 : Int32) (v7 : Int32) (u : xN), xGm md_X4_follows rsM (f_X4_follows_L52 N n v1 v2 v3 v5 v6 v7 u) 52 [(0, .ref 39), (1, .int v1), (2, .int v2), (3, .int v3), (5, .int v5), (6, .int v6), (7, .int v7)] [] (xU u) := by
  intro n
  induction n with
  | zero => intro v1 v2 v3 v5 v6 v7 u; exact xm_none
  | succ n ih => intro v1 v2 v3 v5 v6 v7 u; exact go_X4_follows_L52b N _ ih v1 v2 v3 v5 v6 v7 u
def f_X4_follows (N : Nat) (a1 : Int32) (a2 : Int32) (a3 : Int32) (u : xN) : Option (Int32 × xN) := Option.bind (f_X4_isRow a1) (fun r1 => if r1 = (0 : Int32) then f_X4_follows_L26 N u else Option.bind (f_X4_isTrait a2) (fun r8 => if r8 = (0 : Int32) then f_X4_follows_L26 N u else Option.bind (f_X4_in (Int32.toInt64 a3) (0 : Int64) (5 : Int64)) (fun r20 => if r20 = (0 : Int32) then f_X4_follows_L26 N u else Option.bind (f_X4_noRulings N a1 u) (fun r30 => if r30.1 = (0 : Int32) then f_X4_follows_L52 N N a1 a2 a3 (0 : Int32) (0 : Int32) (0 : Int32) r30.2 else some (r30.1, r30.2)))))
set_option maxRecDepth 20000 in
theorem go_X4_follows (N : Nat) (a1 : Int32) (a2 : Int32) (a3 : Int32) (u : xN) : xGm md_X4_follows rsM (f_X4_follows N a1 a2 a3 u) 0 [(0, .ref 39), (1, .int a1), (2, .int a2), (3, .int a3)] [] (xU u) := by
  unfold f_X4_follows
  refine xm_blk0 (pc' := 1) (lv' := [(0, .ref 39), (1, .int a1), (2, .int a2), (3, .int a3)]) (st' := [.int a1]) (u' := (xU u)) [(.iload_n 1, (0, 0, 0), 0, 0)] (by decide +kernel) rfl ?_
  refine xm_Si (pc := 1) (mz := md_X4_isRow) (idx := 78) (p1 := 901) (as := [.int a1]) (st := []) (ev_X4_isRow a1 u) mw_X4_isRow (by decide +kernel) (by decide +kernel) (by decide) rfl (Nat.le_of_ble_eq_true rfl) (fun r1 => ?_)
  refine xm_if_eq (pc := 4) (off := 22) (tgt := 26) (by decide +kernel) (by decide) ?_ ?_
  · refine xm_wk [] (lv' := []) rfl ?_
    exact go_X4_follows_L26 N u
  · refine xm_blk0 (pc' := 8) (lv' := [(0, .ref 39), (1, .int a1), (2, .int a2), (3, .int a3)]) (st' := [.int a2]) (u' := (xU u)) [(.iload_n 2, (0, 0, 0), 0, 0)] (by decide +kernel) rfl ?_
    refine xm_Si (pc := 8) (mz := md_X4_isTrait) (idx := 209) (p1 := 1079) (as := [.int a2]) (st := []) (ev_X4_isTrait a2 u) mw_X4_isTrait (by decide +kernel) (by decide +kernel) (by decide) rfl (Nat.le_of_ble_eq_true rfl) (fun r8 => ?_)
    refine xm_if_eq (pc := 11) (off := 15) (tgt := 26) (by decide +kernel) (by decide) ?_ ?_
    · refine xm_wk [] (lv' := []) rfl ?_
      exact go_X4_follows_L26 N u
    · refine xm_blk0 (pc' := 20) (lv' := [(0, .ref 39), (1, .int a1), (2, .int a2), (3, .int a3)]) (st' := [.long (5 : Int64), .long (0 : Int64), .long (Int32.toInt64 a3)]) (u' := (xU u)) [(.iload_n 3, (0, 0, 0), 0, 0), (.i2l, (0, 0, 0), 0, 0), (.lconst 0, (0, 0, 0), 0, 0), (.ldc2_w 70, (0, 0, 904), 0, 5)] (by decide +kernel) rfl ?_
      refine xm_Si (pc := 20) (mz := md_X4_in) (idx := 72) (p1 := 905) (as := [.long (Int32.toInt64 a3), .long (0 : Int64), .long (5 : Int64)]) (st := []) (ev_X4_in (Int32.toInt64 a3) (0 : Int64) (5 : Int64) u) mw_X4_in (by decide +kernel) (by decide +kernel) (by decide) rfl (Nat.le_of_ble_eq_true rfl) (fun r20 => ?_)
      refine xm_if_ne (pc := 23) (off := 5) (tgt := 28) (by decide +kernel) (by decide) ?_ ?_
      · refine xm_blk0 (pc' := 30) (lv' := [(0, .ref 39), (1, .int a1), (2, .int a2), (3, .int a3)]) (st' := [.int a1, .ref 39]) (u' := (xU u)) [(.aload_n 0, (0, 0, 0), 0, 0), (.iload_n 1, (0, 0, 0), 0, 0)] (by decide +kernel) rfl ?_
        refine xm_Vm (pc := 30) (mz := md_X4_noRulings) (idx := 264) (p1 := 1229) (a := 39) (as := [.int a1]) (st := []) (ev_X4_noRulings N a1 u) mw_X4_noRulings (by decide +kernel) (by decide +kernel) (by decide) rfl rfl (by decide) rfl (Nat.le_of_ble_eq_true rfl) (fun r30 => ?_)
        refine xm_blk0 (pc' := 37) (lv' := [(0, .ref 39), (1, .int a1), (2, .int a2), (3, .int a3), (4, .int r30.1)]) (st' := [.int r30.1]) (u' := (xU r30.2)) [(.istore 4, (0, 0, 0), 0, 0), (.iload 4, (0, 0, 0), 0, 0)] (by decide +kernel) rfl ?_
        refine xm_if_eq (pc := 37) (off := 6) (tgt := 43) (by decide +kernel) (by decide) ?_ ?_
        · refine xm_blk0 (pc' := 52) (lv' := [(0, .ref 39), (1, .int a1), (2, .int a2), (3, .int a3), (4, .int r30.1), (5, .int (0 : Int32)), (6, .int (0 : Int32)), (7, .int (0 : Int32))]) (st' := []) (u' := (xU r30.2)) [(.iconst 0, (0, 0, 0), 0, 0), (.istore 5, (0, 0, 0), 0, 0), (.iconst 0, (0, 0, 0), 0, 0), (.istore 6, (0, 0, 0), 0, 0), (.iconst 0, (0, 0, 0), 0, 0), (.istore 7, (0, 0, 0), 0, 0)] (by decide +kernel) rfl ?_
          refine xm_wk [0, 1, 2, 3, 5, 6, 7] (lv' := [(0, .ref 39), (1, .int a1), (2, .int a2), (3, .int a3), (5, .int (0 : Int32)), (6, .int (0 : Int32)), (7, .int (0 : Int32))]) rfl ?_
          exact go_X4_follows_L52 N N a1 a2 a3 (0 : Int32) (0 : Int32) (0 : Int32) r30.2
        · refine xm_blk0 (pc' := 42) (lv' := [(0, .ref 39), (1, .int a1), (2, .int a2), (3, .int a3), (4, .int r30.1)]) (st' := [.int r30.1]) (u' := (xU r30.2)) [(.iload 4, (0, 0, 0), 0, 0)] (by decide +kernel) rfl ?_
          exact xm_iret (pc := 42) (by decide +kernel) rfl rfl
      · refine xm_wk [] (lv' := []) rfl ?_
        exact go_X4_follows_L26 N u
theorem ev_X4_follows (N : Nat) (a1 : Int32) (a2 : Int32) (a3 : Int32) (u : xN) : ∀ r, f_X4_follows N a1 a2 a3 u = some r → xEm md_X4_follows yX4_follows [.ref 39, .int a1, .int a2, .int a3] (xU u) (some (.int r.1), xU r.2) := xm_met (res := rsM) (as := [.ref 39, .int a1, .int a2, .int a3]) (go_X4_follows N a1 a2 a3 u) (by decide) rfl (Nat.le_of_ble_eq_true rfl)
theorem mw_X4_borders : xMv yX4_borders cX4_borders 8 (some .int) 2 := xMv_of (p1 := 1256) (p2 := 1254) (p3 := 97) (p4 := 1255) (by decide +kernel)
/-! NeitherBareModel.borders(II)I (39, None, None) -/
abbrev md_X4_borders : xMd := (cX4_borders, RX4, 8, some .int, 4)
def f_X4_borders_L14 (N : Nat) (u : xN) : Option (Int32 × xN) := some ((-1 : Int32), u)
set_option maxRecDepth 20000 in
theorem go_X4_borders_L14 (N : Nat) (u : xN) : xGm md_X4_borders rsM (f_X4_borders_L14 N u) 14 [] [] (xU u) := by
  unfold f_X4_borders_L14
  refine xm_blk0 (pc' := 15) (lv' := []) (st' := [.int (-1 : Int32)]) (u' := (xU u)) [(.iconst (-1), (0, 0, 0), -1, 0)] (by decide +kernel) rfl ?_
  exact xm_iret (pc := 15) (by decide +kernel) rfl rfl
def f_X4_borders_L120 (N : Nat) (rec34 : Int32 → Int32 → Int32 → Int32 → xN → Option (Int32 × xN)) (rec47 : Int32 → Int32 → Int32 → Int32 → Int32 → Int32 → xN → Option (Int32 × xN)) (v1 : Int32) (v2 : Int32) (v4 : Int32) (v5 : Int32) (v7 : Int32) (t0 : Int32) (u : xN) : Option (Int32 × xN) := rec47 v1 v2 v4 v5 t0 (v7 + (1 : Int32)) u
set_option maxRecDepth 20000 in
theorem go_X4_borders_L120 (N : Nat) (rec34 : Int32 → Int32 → Int32 → Int32 → xN → Option (Int32 × xN)) (h34 : ∀ (v1 : Int32) (v2 : Int32) (v4 : Int32) (v5 : Int32) (u : xN), xGm md_X4_borders rsM (rec34 v1 v2 v4 v5 u) 34 [(0, .ref 39), (1, .int v1), (2, .int v2), (4, .int v4), (5, .int v5)] [] (xU u)) (rec47 : Int32 → Int32 → Int32 → Int32 → Int32 → Int32 → xN → Option (Int32 × xN)) (h47 : ∀ (v1 : Int32) (v2 : Int32) (v4 : Int32) (v5 : Int32) (v6 : Int32) (v7 : Int32) (u : xN), xGm md_X4_borders rsM (rec47 v1 v2 v4 v5 v6 v7 u) 47 [(0, .ref 39), (1, .int v1), (2, .int v2), (4, .int v4), (5, .int v5), (6, .int v6), (7, .int v7)] [] (xU u)) (v1 : Int32) (v2 : Int32) (v4 : Int32) (v5 : Int32) (v7 : Int32) (t0 : Int32) (u : xN) : xGm md_X4_borders rsM (f_X4_borders_L120 N rec34 rec47 v1 v2 v4 v5 v7 t0 u) 120 [(0, .ref 39), (1, .int v1), (2, .int v2), (4, .int v4), (5, .int v5), (7, .int v7)] [.int t0] (xU u) := by
  unfold f_X4_borders_L120
  refine xm_blk0 (pc' := 125) (lv' := [(0, .ref 39), (1, .int v1), (2, .int v2), (4, .int v4), (5, .int v5), (6, .int t0), (7, .int (v7 + (1 : Int32)))]) (st' := []) (u' := (xU u)) [(.istore 6, (0, 0, 0), 0, 0), (.iinc 7 1, (0, 0, 0), 1, 0)] (by decide +kernel) rfl ?_
  refine xm_goto (pc := 125) (off := -78) (tgt := 47) (by decide +kernel) (by decide) ?_
  exact h47 v1 v2 v4 v5 t0 (v7 + (1 : Int32)) u
def f_X4_borders_L115 (N : Nat) (rec34 : Int32 → Int32 → Int32 → Int32 → xN → Option (Int32 × xN)) (rec47 : Int32 → Int32 → Int32 → Int32 → Int32 → Int32 → xN → Option (Int32 × xN)) (v1 : Int32) (v2 : Int32) (v4 : Int32) (v5 : Int32) (v7 : Int32) (u : xN) : Option (Int32 × xN) := f_X4_borders_L120 N rec34 rec47 v1 v2 v4 v5 v7 (1 : Int32) u
set_option maxRecDepth 20000 in
theorem go_X4_borders_L115 (N : Nat) (rec34 : Int32 → Int32 → Int32 → Int32 → xN → Option (Int32 × xN)) (h34 : ∀ (v1 : Int32) (v2 : Int32) (v4 : Int32) (v5 : Int32) (u : xN), xGm md_X4_borders rsM (rec34 v1 v2 v4 v5 u) 34 [(0, .ref 39), (1, .int v1), (2, .int v2), (4, .int v4), (5, .int v5)] [] (xU u)) (rec47 : Int32 → Int32 → Int32 → Int32 → Int32 → Int32 → xN → Option (Int32 × xN)) (h47 : ∀ (v1 : Int32) (v2 : Int32) (v4 : Int32) (v5 : Int32) (v6 : Int32) (v7 : Int32) (u : xN), xGm md_X4_borders rsM (rec47 v1 v2 v4 v5 v6 v7 u) 47 [(0, .ref 39), (1, .int v1), (2, .int v2), (4, .int v4), (5, .int v5), (6, .int v6), (7, .int v7)] [] (xU u)) (v1 : Int32) (v2 : Int32) (v4 : Int32) (v5 : Int32) (v7 : Int32) (u : xN) : xGm md_X4_borders rsM (f_X4_borders_L115 N rec34 rec47 v1 v2 v4 v5 v7 u) 115 [(0, .ref 39), (1, .int v1), (2, .int v2), (4, .int v4), (5, .int v5), (7, .int v7)] [] (xU u) := by
  unfold f_X4_borders_L115
  refine xm_blk0 (pc' := 116) (lv' := [(0, .ref 39), (1, .int v1), (2, .int v2), (4, .int v4), (5, .int v5), (7, .int v7)]) (st' := [.int (1 : Int32)]) (u' := (xU u)) [(.iconst 1, (0, 0, 0), 1, 0)] (by decide +kernel) rfl ?_
  refine xm_goto (pc := 116) (off := 4) (tgt := 120) (by decide +kernel) (by decide) ?_
  exact go_X4_borders_L120 N rec34 h34 rec47 h47 v1 v2 v4 v5 v7 (1 : Int32) u
def f_X4_borders_L119 (N : Nat) (rec34 : Int32 → Int32 → Int32 → Int32 → xN → Option (Int32 × xN)) (rec47 : Int32 → Int32 → Int32 → Int32 → Int32 → Int32 → xN → Option (Int32 × xN)) (v1 : Int32) (v2 : Int32) (v4 : Int32) (v5 : Int32) (v7 : Int32) (u : xN) : Option (Int32 × xN) := f_X4_borders_L120 N rec34 rec47 v1 v2 v4 v5 v7 (0 : Int32) u
set_option maxRecDepth 20000 in
theorem go_X4_borders_L119 (N : Nat) (rec34 : Int32 → Int32 → Int32 → Int32 → xN → Option (Int32 × xN)) (h34 : ∀ (v1 : Int32) (v2 : Int32) (v4 : Int32) (v5 : Int32) (u : xN), xGm md_X4_borders rsM (rec34 v1 v2 v4 v5 u) 34 [(0, .ref 39), (1, .int v1), (2, .int v2), (4, .int v4), (5, .int v5)] [] (xU u)) (rec47 : Int32 → Int32 → Int32 → Int32 → Int32 → Int32 → xN → Option (Int32 × xN)) (h47 : ∀ (v1 : Int32) (v2 : Int32) (v4 : Int32) (v5 : Int32) (v6 : Int32) (v7 : Int32) (u : xN), xGm md_X4_borders rsM (rec47 v1 v2 v4 v5 v6 v7 u) 47 [(0, .ref 39), (1, .int v1), (2, .int v2), (4, .int v4), (5, .int v5), (6, .int v6), (7, .int v7)] [] (xU u)) (v1 : Int32) (v2 : Int32) (v4 : Int32) (v5 : Int32) (v7 : Int32) (u : xN) : xGm md_X4_borders rsM (f_X4_borders_L119 N rec34 rec47 v1 v2 v4 v5 v7 u) 119 [(0, .ref 39), (1, .int v1), (2, .int v2), (4, .int v4), (5, .int v5), (7, .int v7)] [] (xU u) := by
  unfold f_X4_borders_L119
  refine xm_blk0 (pc' := 120) (lv' := [(0, .ref 39), (1, .int v1), (2, .int v2), (4, .int v4), (5, .int v5), (7, .int v7)]) (st' := [.int (0 : Int32)]) (u' := (xU u)) [(.iconst 0, (0, 0, 0), 0, 0)] (by decide +kernel) rfl ?_
  exact go_X4_borders_L120 N rec34 h34 rec47 h47 v1 v2 v4 v5 v7 (0 : Int32) u
def f_X4_borders_L112 (N : Nat) (rec34 : Int32 → Int32 → Int32 → Int32 → xN → Option (Int32 × xN)) (rec47 : Int32 → Int32 → Int32 → Int32 → Int32 → Int32 → xN → Option (Int32 × xN)) (v1 : Int32) (v2 : Int32) (v4 : Int32) (v5 : Int32) (v7 : Int32) (t0 : Int32) (t1 : Int32) (u : xN) : Option (Int32 × xN) := if t1 = t0 then f_X4_borders_L115 N rec34 rec47 v1 v2 v4 v5 v7 u else f_X4_borders_L119 N rec34 rec47 v1 v2 v4 v5 v7 u
set_option maxRecDepth 20000 in
theorem go_X4_borders_L112 (N : Nat) (rec34 : Int32 → Int32 → Int32 → Int32 → xN → Option (Int32 × xN)) (h34 : ∀ (v1 : Int32) (v2 : Int32) (v4 : Int32) (v5 : Int32) (u : xN), xGm md_X4_borders rsM (rec34 v1 v2 v4 v5 u) 34 [(0, .ref 39), (1, .int v1), (2, .int v2), (4, .int v4), (5, .int v5)] [] (xU u)) (rec47 : Int32 → Int32 → Int32 → Int32 → Int32 → Int32 → xN → Option (Int32 × xN)) (h47 : ∀ (v1 : Int32) (v2 : Int32) (v4 : Int32) (v5 : Int32) (v6 : Int32) (v7 : Int32) (u : xN), xGm md_X4_borders rsM (rec47 v1 v2 v4 v5 v6 v7 u) 47 [(0, .ref 39), (1, .int v1), (2, .int v2), (4, .int v4), (5, .int v5), (6, .int v6), (7, .int v7)] [] (xU u)) (v1 : Int32) (v2 : Int32) (v4 : Int32) (v5 : Int32) (v7 : Int32) (t0 : Int32) (t1 : Int32) (u : xN) : xGm md_X4_borders rsM (f_X4_borders_L112 N rec34 rec47 v1 v2 v4 v5 v7 t0 t1 u) 112 [(0, .ref 39), (1, .int v1), (2, .int v2), (4, .int v4), (5, .int v5), (7, .int v7)] [.int t0, .int t1] (xU u) := by
  unfold f_X4_borders_L112
  refine xm_icmp_ne (pc := 112) (off := 7) (tgt := 119) (by decide +kernel) (by decide) ?_ ?_
  · exact go_X4_borders_L119 N rec34 h34 rec47 h47 v1 v2 v4 v5 v7 u
  · exact go_X4_borders_L115 N rec34 h34 rec47 h47 v1 v2 v4 v5 v7 u
def f_X4_borders_L95 (N : Nat) (rec34 : Int32 → Int32 → Int32 → Int32 → xN → Option (Int32 × xN)) (rec47 : Int32 → Int32 → Int32 → Int32 → Int32 → Int32 → xN → Option (Int32 × xN)) (v1 : Int32) (v2 : Int32) (v4 : Int32) (v5 : Int32) (v7 : Int32) (t0 : Int32) (u : xN) : Option (Int32 × xN) := Option.bind (f_X4_rule v1 v7 (2 : Int32) u) (fun r100 => if r100 = (1 : Int32) then f_X4_borders_L112 N rec34 rec47 v1 v2 v4 v5 v7 (1 : Int32) t0 u else f_X4_borders_L112 N rec34 rec47 v1 v2 v4 v5 v7 (0 : Int32) t0 u)
set_option maxRecDepth 20000 in
theorem go_X4_borders_L95 (N : Nat) (rec34 : Int32 → Int32 → Int32 → Int32 → xN → Option (Int32 × xN)) (h34 : ∀ (v1 : Int32) (v2 : Int32) (v4 : Int32) (v5 : Int32) (u : xN), xGm md_X4_borders rsM (rec34 v1 v2 v4 v5 u) 34 [(0, .ref 39), (1, .int v1), (2, .int v2), (4, .int v4), (5, .int v5)] [] (xU u)) (rec47 : Int32 → Int32 → Int32 → Int32 → Int32 → Int32 → xN → Option (Int32 × xN)) (h47 : ∀ (v1 : Int32) (v2 : Int32) (v4 : Int32) (v5 : Int32) (v6 : Int32) (v7 : Int32) (u : xN), xGm md_X4_borders rsM (rec47 v1 v2 v4 v5 v6 v7 u) 47 [(0, .ref 39), (1, .int v1), (2, .int v2), (4, .int v4), (5, .int v5), (6, .int v6), (7, .int v7)] [] (xU u)) (v1 : Int32) (v2 : Int32) (v4 : Int32) (v5 : Int32) (v7 : Int32) (t0 : Int32) (u : xN) : xGm md_X4_borders rsM (f_X4_borders_L95 N rec34 rec47 v1 v2 v4 v5 v7 t0 u) 95 [(0, .ref 39), (1, .int v1), (2, .int v2), (4, .int v4), (5, .int v5), (7, .int v7)] [.int t0] (xU u) := by
  unfold f_X4_borders_L95
  refine xm_blk0 (pc' := 100) (lv' := [(0, .ref 39), (1, .int v1), (2, .int v2), (4, .int v4), (5, .int v5), (7, .int v7)]) (st' := [.int (2 : Int32), .int v7, .int v1, .ref 39, .int t0]) (u' := (xU u)) [(.aload_n 0, (0, 0, 0), 0, 0), (.iload_n 1, (0, 0, 0), 0, 0), (.iload 7, (0, 0, 0), 0, 0), (.iconst 2, (0, 0, 0), 2, 0)] (by decide +kernel) rfl ?_
  refine xm_Vi (pc := 100) (mz := md_X4_rule) (idx := 261) (p1 := 1233) (a := 39) (as := [.int v1, .int v7, .int (2 : Int32)]) (st := [.int t0]) (ev_X4_rule v1 v7 (2 : Int32) u) mw_X4_rule (by decide +kernel) (by decide +kernel) (by decide) rfl rfl (by decide) rfl (Nat.le_of_ble_eq_true rfl) (fun r100 => ?_)
  refine xm_blk0 (pc' := 104) (lv' := [(0, .ref 39), (1, .int v1), (2, .int v2), (4, .int v4), (5, .int v5), (7, .int v7)]) (st' := [.int (1 : Int32), .int r100, .int t0]) (u' := (xU u)) [(.iconst 1, (0, 0, 0), 1, 0)] (by decide +kernel) rfl ?_
  refine xm_icmp_ne (pc := 104) (off := 7) (tgt := 111) (by decide +kernel) (by decide) ?_ ?_
  · refine xm_blk0 (pc' := 112) (lv' := [(0, .ref 39), (1, .int v1), (2, .int v2), (4, .int v4), (5, .int v5), (7, .int v7)]) (st' := [.int (0 : Int32), .int t0]) (u' := (xU u)) [(.iconst 0, (0, 0, 0), 0, 0)] (by decide +kernel) rfl ?_
    exact go_X4_borders_L112 N rec34 h34 rec47 h47 v1 v2 v4 v5 v7 (0 : Int32) t0 u
  · refine xm_blk0 (pc' := 108) (lv' := [(0, .ref 39), (1, .int v1), (2, .int v2), (4, .int v4), (5, .int v5), (7, .int v7)]) (st' := [.int (1 : Int32), .int t0]) (u' := (xU u)) [(.iconst 1, (0, 0, 0), 1, 0)] (by decide +kernel) rfl ?_
    refine xm_goto (pc := 108) (off := 4) (tgt := 112) (by decide +kernel) (by decide) ?_
    exact go_X4_borders_L112 N rec34 h34 rec47 h47 v1 v2 v4 v5 v7 (1 : Int32) t0 u
def f_X4_borders_L143 (N : Nat) (rec34 : Int32 → Int32 → Int32 → Int32 → xN → Option (Int32 × xN)) (v1 : Int32) (v2 : Int32) (v5 : Int32) (t0 : Int32) (t1 : Int32) (u : xN) : Option (Int32 × xN) := rec34 v1 v2 (t1 ||| t0) (v5 + (1 : Int32)) u
set_option maxRecDepth 20000 in
theorem go_X4_borders_L143 (N : Nat) (rec34 : Int32 → Int32 → Int32 → Int32 → xN → Option (Int32 × xN)) (h34 : ∀ (v1 : Int32) (v2 : Int32) (v4 : Int32) (v5 : Int32) (u : xN), xGm md_X4_borders rsM (rec34 v1 v2 v4 v5 u) 34 [(0, .ref 39), (1, .int v1), (2, .int v2), (4, .int v4), (5, .int v5)] [] (xU u)) (v1 : Int32) (v2 : Int32) (v5 : Int32) (t0 : Int32) (t1 : Int32) (u : xN) : xGm md_X4_borders rsM (f_X4_borders_L143 N rec34 v1 v2 v5 t0 t1 u) 143 [(0, .ref 39), (1, .int v1), (2, .int v2), (5, .int v5)] [.int t0, .int t1] (xU u) := by
  unfold f_X4_borders_L143
  refine xm_blk0 (pc' := 149) (lv' := [(0, .ref 39), (1, .int v1), (2, .int v2), (4, .int (t1 ||| t0)), (5, .int (v5 + (1 : Int32)))]) (st' := []) (u' := (xU u)) [(.ior, (0, 0, 0), 0, 0), (.istore 4, (0, 0, 0), 0, 0), (.iinc 5 1, (0, 0, 0), 1, 0)] (by decide +kernel) rfl ?_
  refine xm_goto (pc := 149) (off := -115) (tgt := 34) (by decide +kernel) (by decide) ?_
  exact h34 v1 v2 (t1 ||| t0) (v5 + (1 : Int32)) u
def f_X4_borders_L47b (N : Nat) (rec34 : Int32 → Int32 → Int32 → Int32 → xN → Option (Int32 × xN)) (rec47 : Int32 → Int32 → Int32 → Int32 → Int32 → Int32 → xN → Option (Int32 × xN)) (v1 : Int32) (v2 : Int32) (v4 : Int32) (v5 : Int32) (v6 : Int32) (v7 : Int32) (u : xN) : Option (Int32 × xN) := gdl [inb v1 6, nzi (3 : Int32)] (if ((u.1 45 (Int32.toNatClampNeg v1)) / (3 : Int32)) ≤ v7 then (if v6 = (0 : Int32) then f_X4_borders_L143 N rec34 v1 v2 v5 (0 : Int32) v4 u else f_X4_borders_L143 N rec34 v1 v2 v5 ((1 : Int32) <<< (v5 &&& 31)) v4 u) else if v6 = (0 : Int32) then f_X4_borders_L119 N rec34 rec47 v1 v2 v4 v5 v7 u else Option.bind (f_X4_rule v1 v7 (0 : Int32) u) (fun r70 => if r70 = v2 then Option.bind (f_X4_rule v1 v7 (1 : Int32) u) (fun r82 => if r82 < v5 then f_X4_borders_L95 N rec34 rec47 v1 v2 v4 v5 v7 (0 : Int32) u else f_X4_borders_L95 N rec34 rec47 v1 v2 v4 v5 v7 (1 : Int32) u) else f_X4_borders_L115 N rec34 rec47 v1 v2 v4 v5 v7 u))
set_option maxRecDepth 20000 in
theorem go_X4_borders_L47b (N : Nat) (rec34 : Int32 → Int32 → Int32 → Int32 → xN → Option (Int32 × xN)) (h34 : ∀ (v1 : Int32) (v2 : Int32) (v4 : Int32) (v5 : Int32) (u : xN), xGm md_X4_borders rsM (rec34 v1 v2 v4 v5 u) 34 [(0, .ref 39), (1, .int v1), (2, .int v2), (4, .int v4), (5, .int v5)] [] (xU u)) (rec47 : Int32 → Int32 → Int32 → Int32 → Int32 → Int32 → xN → Option (Int32 × xN)) (h47 : ∀ (v1 : Int32) (v2 : Int32) (v4 : Int32) (v5 : Int32) (v6 : Int32) (v7 : Int32) (u : xN), xGm md_X4_borders rsM (rec47 v1 v2 v4 v5 v6 v7 u) 47 [(0, .ref 39), (1, .int v1), (2, .int v2), (4, .int v4), (5, .int v5), (6, .int v6), (7, .int v7)] [] (xU u)) (v1 : Int32) (v2 : Int32) (v4 : Int32) (v5 : Int32) (v6 : Int32) (v7 : Int32) (u : xN) : xGm md_X4_borders rsM (f_X4_borders_L47b N rec34 rec47 v1 v2 v4 v5 v6 v7 u) 47 [(0, .ref 39), (1, .int v1), (2, .int v2), (4, .int v4), (5, .int v5), (6, .int v6), (7, .int v7)] [] (xU u) := by
  unfold f_X4_borders_L47b
  refine xm_blk (bs := [inb v1 6, nzi (3 : Int32)]) (pc' := 57) (lv' := [(0, .ref 39), (1, .int v1), (2, .int v2), (4, .int v4), (5, .int v5), (6, .int v6), (7, .int v7)]) (st' := [.int ((u.1 45 (Int32.toNatClampNeg v1)) / (3 : Int32)), .int v7]) (u' := (xU u)) [(.iload 7, (0, 0, 0), 0, 0), (.aload_n 0, (0, 0, 0), 0, 0), (.getfield 25, (4, 7, 827), 0, 0), (.iload_n 1, (0, 0, 0), 0, 0), (.iaload, (0, 0, 0), 0, 0), (.iconst 3, (0, 0, 0), 3, 0), (.idiv, (0, 0, 0), 0, 0)] (by decide +kernel) rfl ?_
  refine xm_icmp_ge (pc := 57) (off := 71) (tgt := 128) (by decide +kernel) (by decide) ?_ ?_
  · refine xm_blk0 (pc' := 132) (lv' := [(0, .ref 39), (1, .int v1), (2, .int v2), (4, .int v4), (5, .int v5), (6, .int v6), (7, .int v7)]) (st' := [.int v6, .int v4]) (u' := (xU u)) [(.iload 4, (0, 0, 0), 0, 0), (.iload 6, (0, 0, 0), 0, 0)] (by decide +kernel) rfl ?_
    refine xm_if_eq (pc := 132) (off := 10) (tgt := 142) (by decide +kernel) (by decide) ?_ ?_
    · refine xm_blk0 (pc' := 143) (lv' := [(0, .ref 39), (1, .int v1), (2, .int v2), (4, .int v4), (5, .int v5), (6, .int v6), (7, .int v7)]) (st' := [.int (0 : Int32), .int v4]) (u' := (xU u)) [(.iconst 0, (0, 0, 0), 0, 0)] (by decide +kernel) rfl ?_
      refine xm_wk [0, 1, 2, 4] (lv' := [(0, .ref 39), (1, .int v1), (2, .int v2), (5, .int v5)]) rfl ?_
      exact go_X4_borders_L143 N rec34 h34 v1 v2 v5 (0 : Int32) v4 u
    · refine xm_blk0 (pc' := 139) (lv' := [(0, .ref 39), (1, .int v1), (2, .int v2), (4, .int v4), (5, .int v5), (6, .int v6), (7, .int v7)]) (st' := [.int ((1 : Int32) <<< (v5 &&& 31)), .int v4]) (u' := (xU u)) [(.iconst 1, (0, 0, 0), 1, 0), (.iload 5, (0, 0, 0), 0, 0), (.ishl, (0, 0, 0), 0, 0)] (by decide +kernel) rfl ?_
      refine xm_goto (pc := 139) (off := 4) (tgt := 143) (by decide +kernel) (by decide) ?_
      refine xm_wk [0, 1, 2, 4] (lv' := [(0, .ref 39), (1, .int v1), (2, .int v2), (5, .int v5)]) rfl ?_
      exact go_X4_borders_L143 N rec34 h34 v1 v2 v5 ((1 : Int32) <<< (v5 &&& 31)) v4 u
  · refine xm_blk0 (pc' := 62) (lv' := [(0, .ref 39), (1, .int v1), (2, .int v2), (4, .int v4), (5, .int v5), (6, .int v6), (7, .int v7)]) (st' := [.int v6]) (u' := (xU u)) [(.iload 6, (0, 0, 0), 0, 0)] (by decide +kernel) rfl ?_
    refine xm_if_eq (pc := 62) (off := 57) (tgt := 119) (by decide +kernel) (by decide) ?_ ?_
    · refine xm_wk [0, 1, 2, 3, 4, 6] (lv' := [(0, .ref 39), (1, .int v1), (2, .int v2), (4, .int v4), (5, .int v5), (7, .int v7)]) rfl ?_
      exact go_X4_borders_L119 N rec34 h34 rec47 h47 v1 v2 v4 v5 v7 u
    · refine xm_blk0 (pc' := 70) (lv' := [(0, .ref 39), (1, .int v1), (2, .int v2), (4, .int v4), (5, .int v5), (6, .int v6), (7, .int v7)]) (st' := [.int (0 : Int32), .int v7, .int v1, .ref 39]) (u' := (xU u)) [(.aload_n 0, (0, 0, 0), 0, 0), (.iload_n 1, (0, 0, 0), 0, 0), (.iload 7, (0, 0, 0), 0, 0), (.iconst 0, (0, 0, 0), 0, 0)] (by decide +kernel) rfl ?_
      refine xm_Vi (pc := 70) (mz := md_X4_rule) (idx := 261) (p1 := 1233) (a := 39) (as := [.int v1, .int v7, .int (0 : Int32)]) (st := []) (ev_X4_rule v1 v7 (0 : Int32) u) mw_X4_rule (by decide +kernel) (by decide +kernel) (by decide) rfl rfl (by decide) rfl (Nat.le_of_ble_eq_true rfl) (fun r70 => ?_)
      refine xm_blk0 (pc' := 74) (lv' := [(0, .ref 39), (1, .int v1), (2, .int v2), (4, .int v4), (5, .int v5), (6, .int v6), (7, .int v7)]) (st' := [.int v2, .int r70]) (u' := (xU u)) [(.iload_n 2, (0, 0, 0), 0, 0)] (by decide +kernel) rfl ?_
      refine xm_icmp_ne (pc := 74) (off := 41) (tgt := 115) (by decide +kernel) (by decide) ?_ ?_
      · refine xm_wk [0, 1, 2, 3, 4, 6] (lv' := [(0, .ref 39), (1, .int v1), (2, .int v2), (4, .int v4), (5, .int v5), (7, .int v7)]) rfl ?_
        exact go_X4_borders_L115 N rec34 h34 rec47 h47 v1 v2 v4 v5 v7 u
      · refine xm_blk0 (pc' := 82) (lv' := [(0, .ref 39), (1, .int v1), (2, .int v2), (4, .int v4), (5, .int v5), (6, .int v6), (7, .int v7)]) (st' := [.int (1 : Int32), .int v7, .int v1, .ref 39]) (u' := (xU u)) [(.aload_n 0, (0, 0, 0), 0, 0), (.iload_n 1, (0, 0, 0), 0, 0), (.iload 7, (0, 0, 0), 0, 0), (.iconst 1, (0, 0, 0), 1, 0)] (by decide +kernel) rfl ?_
        refine xm_Vi (pc := 82) (mz := md_X4_rule) (idx := 261) (p1 := 1233) (a := 39) (as := [.int v1, .int v7, .int (1 : Int32)]) (st := []) (ev_X4_rule v1 v7 (1 : Int32) u) mw_X4_rule (by decide +kernel) (by decide +kernel) (by decide) rfl rfl (by decide) rfl (Nat.le_of_ble_eq_true rfl) (fun r82 => ?_)
        refine xm_blk0 (pc' := 87) (lv' := [(0, .ref 39), (1, .int v1), (2, .int v2), (4, .int v4), (5, .int v5), (6, .int v6), (7, .int v7)]) (st' := [.int v5, .int r82]) (u' := (xU u)) [(.iload 5, (0, 0, 0), 0, 0)] (by decide +kernel) rfl ?_
        refine xm_icmp_lt (pc := 87) (off := 7) (tgt := 94) (by decide +kernel) (by decide) ?_ ?_
        · refine xm_blk0 (pc' := 95) (lv' := [(0, .ref 39), (1, .int v1), (2, .int v2), (4, .int v4), (5, .int v5), (6, .int v6), (7, .int v7)]) (st' := [.int (0 : Int32)]) (u' := (xU u)) [(.iconst 0, (0, 0, 0), 0, 0)] (by decide +kernel) rfl ?_
          refine xm_wk [0, 1, 2, 3, 4, 6] (lv' := [(0, .ref 39), (1, .int v1), (2, .int v2), (4, .int v4), (5, .int v5), (7, .int v7)]) rfl ?_
          exact go_X4_borders_L95 N rec34 h34 rec47 h47 v1 v2 v4 v5 v7 (0 : Int32) u
        · refine xm_blk0 (pc' := 91) (lv' := [(0, .ref 39), (1, .int v1), (2, .int v2), (4, .int v4), (5, .int v5), (6, .int v6), (7, .int v7)]) (st' := [.int (1 : Int32)]) (u' := (xU u)) [(.iconst 1, (0, 0, 0), 1, 0)] (by decide +kernel) rfl ?_
          refine xm_goto (pc := 91) (off := 4) (tgt := 95) (by decide +kernel) (by decide) ?_
          refine xm_wk [0, 1, 2, 3, 4, 6] (lv' := [(0, .ref 39), (1, .int v1), (2, .int v2), (4, .int v4), (5, .int v5), (7, .int v7)]) rfl ?_
          exact go_X4_borders_L95 N rec34 h34 rec47 h47 v1 v2 v4 v5 v7 (1 : Int32) u
def f_X4_borders_L47 (N : Nat) (rec34 : Int32 → Int32 → Int32 → Int32 → xN → Option (Int32 × xN)) : Nat → Int32 → Int32 → Int32 → Int32 → Int32 → Int32 → xN → Option (Int32 × xN)
  | 0 => fun _ _ _ _ _ _ _ => none
  | n + 1 => fun v1 v2 v4 v5 v6 v7 u => f_X4_borders_L47b N rec34 (f_X4_borders_L47 N rec34 n) v1 v2 v4 v5 v6 v7 u
theorem go_X4_borders_L47 (N : Nat) (rec34 : Int32 → Int32 → Int32 → Int32 → xN → Option (Int32 × xN)) (h34 : ∀ (v1 : Int32) (v2 : Int32) (v4 : Int32) (v5 : Int32) (u : xN), xGm md_X4_borders rsM (rec34 v1 v2 v4 v5 u) 34 [(0, .ref 39), (1, .int v1), (2, .int v2), (4, .int v4), (5, .int v5)] [] (xU u)) : ∀ (n : Nat) (v1 : Int32) (v2 : Int32) (v4 : Int32) (v5 : Int32) (v6 : Int32) (v7 : Int32) (u : xN), xGm md_X4_borders rsM (f_X4_borders_L47 N rec34 n v1 v2 v4 v5 v6 v7 u) 47 [(0, .ref 39), (1, .int v1), (2, .int v2), (4, .int v4), (5, .int v5), (6, .int v6), (7, .int v7)] [] (xU u) := by
  intro n
  induction n with
  | zero => intro v1 v2 v4 v5 v6 v7 u; exact xm_none
  | succ n ih => intro v1 v2 v4 v5 v6 v7 u; exact go_X4_borders_L47b N rec34 h34 _ ih v1 v2 v4 v5 v6 v7 u
def f_X4_borders_L34b (N : Nat) (rec34 : Int32 → Int32 → Int32 → Int32 → xN → Option (Int32 × xN)) (v1 : Int32) (v2 : Int32) (v4 : Int32) (v5 : Int32) (u : xN) : Option (Int32 × xN) := if (6 : Int32) ≤ v5 then some (v4, u) else f_X4_borders_L47 N rec34 N v1 v2 v4 v5 (1 : Int32) (0 : Int32) u
set_option maxRecDepth 20000 in
theorem go_X4_borders_L34b (N : Nat) (rec34 : Int32 → Int32 → Int32 → Int32 → xN → Option (Int32 × xN)) (h34 : ∀ (v1 : Int32) (v2 : Int32) (v4 : Int32) (v5 : Int32) (u : xN), xGm md_X4_borders rsM (rec34 v1 v2 v4 v5 u) 34 [(0, .ref 39), (1, .int v1), (2, .int v2), (4, .int v4), (5, .int v5)] [] (xU u)) (v1 : Int32) (v2 : Int32) (v4 : Int32) (v5 : Int32) (u : xN) : xGm md_X4_borders rsM (f_X4_borders_L34b N rec34 v1 v2 v4 v5 u) 34 [(0, .ref 39), (1, .int v1), (2, .int v2), (4, .int v4), (5, .int v5)] [] (xU u) := by
  unfold f_X4_borders_L34b
  refine xm_blk0 (pc' := 38) (lv' := [(0, .ref 39), (1, .int v1), (2, .int v2), (4, .int v4), (5, .int v5)]) (st' := [.int (6 : Int32), .int v5]) (u' := (xU u)) [(.iload 5, (0, 0, 0), 0, 0), (.bipush 6, (0, 0, 0), 6, 0)] (by decide +kernel) rfl ?_
  refine xm_icmp_ge (pc := 38) (off := 114) (tgt := 152) (by decide +kernel) (by decide) ?_ ?_
  · refine xm_blk0 (pc' := 154) (lv' := [(0, .ref 39), (1, .int v1), (2, .int v2), (4, .int v4), (5, .int v5)]) (st' := [.int v4]) (u' := (xU u)) [(.iload 4, (0, 0, 0), 0, 0)] (by decide +kernel) rfl ?_
    exact xm_iret (pc := 154) (by decide +kernel) rfl rfl
  · refine xm_blk0 (pc' := 47) (lv' := [(0, .ref 39), (1, .int v1), (2, .int v2), (4, .int v4), (5, .int v5), (6, .int (1 : Int32)), (7, .int (0 : Int32))]) (st' := []) (u' := (xU u)) [(.iconst 1, (0, 0, 0), 1, 0), (.istore 6, (0, 0, 0), 0, 0), (.iconst 0, (0, 0, 0), 0, 0), (.istore 7, (0, 0, 0), 0, 0)] (by decide +kernel) rfl ?_
    exact go_X4_borders_L47 N rec34 h34 N v1 v2 v4 v5 (1 : Int32) (0 : Int32) u
def f_X4_borders_L34 (N : Nat) : Nat → Int32 → Int32 → Int32 → Int32 → xN → Option (Int32 × xN)
  | 0 => fun _ _ _ _ _ => none
  | n + 1 => fun v1 v2 v4 v5 u => f_X4_borders_L34b N (f_X4_borders_L34 N n) v1 v2 v4 v5 u
theorem go_X4_borders_L34 (N : Nat) : ∀ (n : Nat) (v1 : Int32) (v2 : Int32) (v4 : Int32) (v5 : Int32) (u : xN), xGm md_X4_borders rsM (f_X4_borders_L34 N n v1 v2 v4 v5 u) 34 [(0, .ref 39), (1, .int v1), (2, .int v2), (4, .int v4), (5, .int v5)] [] (xU u) := by
  intro n
  induction n with
  | zero => intro v1 v2 v4 v5 u; exact xm_none
  | succ n ih => intro v1 v2 v4 v5 u; exact go_X4_borders_L34b N _ ih v1 v2 v4 v5 u
def f_X4_borders (N : Nat) (a1 : Int32) (a2 : Int32) (u : xN) : Option (Int32 × xN) := Option.bind (f_X4_isRow a1) (fun r1 => if r1 = (0 : Int32) then f_X4_borders_L14 N u else Option.bind (f_X4_isTrait a2) (fun r8 => if r8 = (0 : Int32) then f_X4_borders_L14 N u else Option.bind (f_X4_noRulings N a1 u) (fun r18 => if r18.1 = (0 : Int32) then f_X4_borders_L34 N N a1 a2 (0 : Int32) (1 : Int32) r18.2 else some (r18.1, r18.2))))
set_option maxRecDepth 20000 in
theorem go_X4_borders (N : Nat) (a1 : Int32) (a2 : Int32) (u : xN) : xGm md_X4_borders rsM (f_X4_borders N a1 a2 u) 0 [(0, .ref 39), (1, .int a1), (2, .int a2)] [] (xU u) := by
  unfold f_X4_borders
  refine xm_blk0 (pc' := 1) (lv' := [(0, .ref 39), (1, .int a1), (2, .int a2)]) (st' := [.int a1]) (u' := (xU u)) [(.iload_n 1, (0, 0, 0), 0, 0)] (by decide +kernel) rfl ?_
  refine xm_Si (pc := 1) (mz := md_X4_isRow) (idx := 78) (p1 := 901) (as := [.int a1]) (st := []) (ev_X4_isRow a1 u) mw_X4_isRow (by decide +kernel) (by decide +kernel) (by decide) rfl (Nat.le_of_ble_eq_true rfl) (fun r1 => ?_)
  refine xm_if_eq (pc := 4) (off := 10) (tgt := 14) (by decide +kernel) (by decide) ?_ ?_
  · refine xm_wk [] (lv' := []) rfl ?_
    exact go_X4_borders_L14 N u
  · refine xm_blk0 (pc' := 8) (lv' := [(0, .ref 39), (1, .int a1), (2, .int a2)]) (st' := [.int a2]) (u' := (xU u)) [(.iload_n 2, (0, 0, 0), 0, 0)] (by decide +kernel) rfl ?_
    refine xm_Si (pc := 8) (mz := md_X4_isTrait) (idx := 209) (p1 := 1079) (as := [.int a2]) (st := []) (ev_X4_isTrait a2 u) mw_X4_isTrait (by decide +kernel) (by decide +kernel) (by decide) rfl (Nat.le_of_ble_eq_true rfl) (fun r8 => ?_)
    refine xm_if_ne (pc := 11) (off := 5) (tgt := 16) (by decide +kernel) (by decide) ?_ ?_
    · refine xm_blk0 (pc' := 18) (lv' := [(0, .ref 39), (1, .int a1), (2, .int a2)]) (st' := [.int a1, .ref 39]) (u' := (xU u)) [(.aload_n 0, (0, 0, 0), 0, 0), (.iload_n 1, (0, 0, 0), 0, 0)] (by decide +kernel) rfl ?_
      refine xm_Vm (pc := 18) (mz := md_X4_noRulings) (idx := 264) (p1 := 1229) (a := 39) (as := [.int a1]) (st := []) (ev_X4_noRulings N a1 u) mw_X4_noRulings (by decide +kernel) (by decide +kernel) (by decide) rfl rfl (by decide) rfl (Nat.le_of_ble_eq_true rfl) (fun r18 => ?_)
      refine xm_blk0 (pc' := 23) (lv' := [(0, .ref 39), (1, .int a1), (2, .int a2), (3, .int r18.1)]) (st' := [.int r18.1]) (u' := (xU r18.2)) [(.istore_n 3, (0, 0, 0), 0, 0), (.iload_n 3, (0, 0, 0), 0, 0)] (by decide +kernel) rfl ?_
      refine xm_if_eq (pc := 23) (off := 5) (tgt := 28) (by decide +kernel) (by decide) ?_ ?_
      · refine xm_blk0 (pc' := 34) (lv' := [(0, .ref 39), (1, .int a1), (2, .int a2), (3, .int r18.1), (4, .int (0 : Int32)), (5, .int (1 : Int32))]) (st' := []) (u' := (xU r18.2)) [(.iconst 0, (0, 0, 0), 0, 0), (.istore 4, (0, 0, 0), 0, 0), (.iconst 1, (0, 0, 0), 1, 0), (.istore 5, (0, 0, 0), 0, 0)] (by decide +kernel) rfl ?_
        refine xm_wk [0, 1, 2, 4, 5] (lv' := [(0, .ref 39), (1, .int a1), (2, .int a2), (4, .int (0 : Int32)), (5, .int (1 : Int32))]) rfl ?_
        exact go_X4_borders_L34 N N a1 a2 (0 : Int32) (1 : Int32) r18.2
      · refine xm_blk0 (pc' := 27) (lv' := [(0, .ref 39), (1, .int a1), (2, .int a2), (3, .int r18.1)]) (st' := [.int r18.1]) (u' := (xU r18.2)) [(.iload_n 3, (0, 0, 0), 0, 0)] (by decide +kernel) rfl ?_
        exact xm_iret (pc := 27) (by decide +kernel) rfl rfl
    · refine xm_wk [] (lv' := []) rfl ?_
      exact go_X4_borders_L14 N u
theorem ev_X4_borders (N : Nat) (a1 : Int32) (a2 : Int32) (u : xN) : ∀ r, f_X4_borders N a1 a2 u = some r → xEm md_X4_borders yX4_borders [.ref 39, .int a1, .int a2] (xU u) (some (.int r.1), xU r.2) := xm_met (res := rsM) (as := [.ref 39, .int a1, .int a2]) (go_X4_borders N a1 a2 u) (by decide) rfl (Nat.le_of_ble_eq_true rfl)
