theorem mw_X3_digest : xMv yX3_digest cX3_digest 5 (some .long) 0 := xMv_of (p1 := 798) (p2 := 796) (p3 := 92) (p4 := 797) (by decide +kernel)
/-! NeitherBare.digest()J (0,) -/
abbrev md_X3_digest : xMd := (cX3_digest, RX3, 5, some .long, 7)
def f_X3_digest_L107b (N : Nat) (u : xN) (rec93 : Int64 → Int32 → Option Int64) (rec107 : Int64 → Int32 → Int32 → Option Int64) (v1 : Int64) (v3 : Int32) (v4 : Int32) : Option Int64 := if (4 : Int32) < v4 then rec93 v1 (v3 + (1 : Int32)) else Option.bind (f_X3_clauseNumber N v3 v4 u) (fun r118 => Option.bind (f_X3_mixed v1 r118) (fun r121 => rec107 r121 v3 (v4 + (1 : Int32))))
set_option maxRecDepth 20000 in
theorem go_X3_digest_L107b (N : Nat) (u : xN) (rec93 : Int64 → Int32 → Option Int64) (h93 : ∀ (v1 : Int64) (v3 : Int32), xGm md_X3_digest (rsL (xU u)) (rec93 v1 v3) 93 [(0, .ref 0), (1, .long v1), (3, .int v3)] [] (xU u)) (rec107 : Int64 → Int32 → Int32 → Option Int64) (h107 : ∀ (v1 : Int64) (v3 : Int32) (v4 : Int32), xGm md_X3_digest (rsL (xU u)) (rec107 v1 v3 v4) 107 [(0, .ref 0), (1, .long v1), (3, .int v3), (4, .int v4)] [] (xU u)) (v1 : Int64) (v3 : Int32) (v4 : Int32) : xGm md_X3_digest (rsL (xU u)) (f_X3_digest_L107b N u rec93 rec107 v1 v3 v4) 107 [(0, .ref 0), (1, .long v1), (3, .int v3), (4, .int v4)] [] (xU u) := by
  unfold f_X3_digest_L107b
  refine xm_blk0 (pc' := 110) (lv' := [(0, .ref 0), (1, .long v1), (3, .int v3), (4, .int v4)]) (st' := [.int (4 : Int32), .int v4]) (u' := (xU u)) [(.iload 4, (0, 0, 0), 0, 0), (.iconst 4, (0, 0, 0), 4, 0)] (by decide +kernel) rfl ?_
  refine xm_icmp_gt (pc := 110) (off := 21) (tgt := 131) (by decide +kernel) (by decide) ?_ ?_
  · refine xm_blk0 (pc' := 134) (lv' := [(0, .ref 0), (1, .long v1), (3, .int (v3 + (1 : Int32))), (4, .int v4)]) (st' := []) (u' := (xU u)) [(.iinc 3 1, (0, 0, 0), 1, 0)] (by decide +kernel) rfl ?_
    refine xm_goto (pc := 134) (off := -41) (tgt := 93) (by decide +kernel) (by decide) ?_
    refine xm_wk [0, 1, 2] (lv' := [(0, .ref 0), (1, .long v1), (3, .int (v3 + (1 : Int32)))]) rfl ?_
    exact h93 v1 (v3 + (1 : Int32))
  · refine xm_blk0 (pc' := 118) (lv' := [(0, .ref 0), (1, .long v1), (3, .int v3), (4, .int v4)]) (st' := [.int v4, .int v3, .ref 0, .long v1]) (u' := (xU u)) [(.lload_n 1, (0, 0, 0), 0, 0), (.aload_n 0, (0, 0, 0), 0, 0), (.iload_n 3, (0, 0, 0), 0, 0), (.iload 4, (0, 0, 0), 0, 0)] (by decide +kernel) rfl ?_
    refine xm_Vi (pc := 118) (mz := md_X3_clauseNumber) (idx := 128) (p1 := 415) (a := 0) (as := [.int v3, .int v4]) (st := [.long v1]) (ev_X3_clauseNumber N v3 v4 u) mw_X3_clauseNumber (by decide +kernel) (by decide +kernel) (by decide) rfl rfl (by decide) rfl (Nat.le_of_ble_eq_true rfl) (fun r118 => ?_)
    refine xm_Sl (pc := 121) (mz := md_X3_mixed) (idx := 316) (p1 := 800) (as := [.long v1, .int r118]) (st := []) (ev_X3_mixed v1 r118 u) mw_X3_mixed (by decide +kernel) (by decide +kernel) (by decide) rfl (Nat.le_of_ble_eq_true rfl) (fun r121 => ?_)
    refine xm_blk0 (pc' := 128) (lv' := [(0, .ref 0), (1, .long r121), (3, .int v3), (4, .int (v4 + (1 : Int32)))]) (st' := []) (u' := (xU u)) [(.lstore_n 1, (0, 0, 0), 0, 0), (.iinc 4 1, (0, 0, 0), 1, 0)] (by decide +kernel) rfl ?_
    refine xm_goto (pc := 128) (off := -21) (tgt := 107) (by decide +kernel) (by decide) ?_
    exact h107 r121 v3 (v4 + (1 : Int32))
def f_X3_digest_L107 (N : Nat) (u : xN) (rec93 : Int64 → Int32 → Option Int64) : Nat → Int64 → Int32 → Int32 → Option Int64
  | 0 => fun _ _ _ => none
  | n + 1 => fun v1 v3 v4 => f_X3_digest_L107b N u rec93 (f_X3_digest_L107 N u rec93 n) v1 v3 v4
theorem go_X3_digest_L107 (N : Nat) (u : xN) (rec93 : Int64 → Int32 → Option Int64) (h93 : ∀ (v1 : Int64) (v3 : Int32), xGm md_X3_digest (rsL (xU u)) (rec93 v1 v3) 93 [(0, .ref 0), (1, .long v1), (3, .int v3)] [] (xU u)) : ∀ (n : Nat) (v1 : Int64) (v3 : Int32) (v4 : Int32), xGm md_X3_digest (rsL (xU u)) (f_X3_digest_L107 N u rec93 n v1 v3 v4) 107 [(0, .ref 0), (1, .long v1), (3, .int v3), (4, .int v4)] [] (xU u) := by
  intro n
  induction n with
  | zero => intro v1 v3 v4; exact xm_none
  | succ n ih => intro v1 v3 v4; exact go_X3_digest_L107b N u rec93 h93 _ ih v1 v3 v4
def f_X3_digest_L170 (N : Nat) (u : xN) (rec139 : Int64 → Int32 → Option Int64) (v3 : Int32) (t0 : Int32) (t1 : Int64) : Option Int64 := Option.bind (f_X3_mixed t1 t0) (fun r170 => rec139 r170 (v3 + (1 : Int32)))
set_option maxRecDepth 20000 in
theorem go_X3_digest_L170 (N : Nat) (u : xN) (rec139 : Int64 → Int32 → Option Int64) (h139 : ∀ (v1 : Int64) (v3 : Int32), xGm md_X3_digest (rsL (xU u)) (rec139 v1 v3) 139 [(0, .ref 0), (1, .long v1), (3, .int v3)] [] (xU u)) (v3 : Int32) (t0 : Int32) (t1 : Int64) : xGm md_X3_digest (rsL (xU u)) (f_X3_digest_L170 N u rec139 v3 t0 t1) 170 [(0, .ref 0), (3, .int v3)] [.int t0, .long t1] (xU u) := by
  unfold f_X3_digest_L170
  refine xm_Sl (pc := 170) (mz := md_X3_mixed) (idx := 316) (p1 := 800) (as := [.long t1, .int t0]) (st := []) (ev_X3_mixed t1 t0 u) mw_X3_mixed (by decide +kernel) (by decide +kernel) (by decide) rfl (Nat.le_of_ble_eq_true rfl) (fun r170 => ?_)
  refine xm_blk0 (pc' := 177) (lv' := [(0, .ref 0), (1, .long r170), (3, .int (v3 + (1 : Int32)))]) (st' := []) (u' := (xU u)) [(.lstore_n 1, (0, 0, 0), 0, 0), (.iinc 3 1, (0, 0, 0), 1, 0)] (by decide +kernel) rfl ?_
  refine xm_goto (pc := 177) (off := -38) (tgt := 139) (by decide +kernel) (by decide) ?_
  exact h139 r170 (v3 + (1 : Int32))
def f_X3_digest_L139b (N : Nat) (u : xN) (rec139 : Int64 → Int32 → Option Int64) (v1 : Int64) (v3 : Int32) : Option Int64 := if (3 : Int32) ≤ v3 then Option.bind (f_X1_mixInto_1 N v1 u) (fun r189 => Option.bind (f_X1_mixInto_4 N r189 u) (fun r192 => some r192)) else if v3 = (0 : Int32) then (if (u.1 24 0) = (0 : Int32) then f_X3_digest_L170 N u rec139 v3 (-1 : Int32) v1 else if v3 = (0 : Int32) then (f_X3_digest_L170 N u rec139 v3 (u.1 24 2) v1) else if v3 = (1 : Int32) then (f_X3_digest_L170 N u rec139 v3 (u.1 28 2) v1) else if v3 = (2 : Int32) then (f_X3_digest_L170 N u rec139 v3 (u.1 32 2) v1) else none) else if v3 = (1 : Int32) then (if (u.1 28 0) = (0 : Int32) then f_X3_digest_L170 N u rec139 v3 (-1 : Int32) v1 else if v3 = (0 : Int32) then (f_X3_digest_L170 N u rec139 v3 (u.1 24 2) v1) else if v3 = (1 : Int32) then (f_X3_digest_L170 N u rec139 v3 (u.1 28 2) v1) else if v3 = (2 : Int32) then (f_X3_digest_L170 N u rec139 v3 (u.1 32 2) v1) else none) else if v3 = (2 : Int32) then (if (u.1 32 0) = (0 : Int32) then f_X3_digest_L170 N u rec139 v3 (-1 : Int32) v1 else if v3 = (0 : Int32) then (f_X3_digest_L170 N u rec139 v3 (u.1 24 2) v1) else if v3 = (1 : Int32) then (f_X3_digest_L170 N u rec139 v3 (u.1 28 2) v1) else if v3 = (2 : Int32) then (f_X3_digest_L170 N u rec139 v3 (u.1 32 2) v1) else none) else none
set_option maxRecDepth 20000 in
theorem go_X3_digest_L139b (N : Nat) (u : xN) (rec139 : Int64 → Int32 → Option Int64) (h139 : ∀ (v1 : Int64) (v3 : Int32), xGm md_X3_digest (rsL (xU u)) (rec139 v1 v3) 139 [(0, .ref 0), (1, .long v1), (3, .int v3)] [] (xU u)) (v1 : Int64) (v3 : Int32) : xGm md_X3_digest (rsL (xU u)) (f_X3_digest_L139b N u rec139 v1 v3) 139 [(0, .ref 0), (1, .long v1), (3, .int v3)] [] (xU u) := by
  unfold f_X3_digest_L139b
  refine xm_blk0 (pc' := 141) (lv' := [(0, .ref 0), (1, .long v1), (3, .int v3)]) (st' := [.int (3 : Int32), .int v3]) (u' := (xU u)) [(.iload_n 3, (0, 0, 0), 0, 0), (.iconst 3, (0, 0, 0), 3, 0)] (by decide +kernel) rfl ?_
  refine xm_icmp_ge (pc := 141) (off := 39) (tgt := 180) (by decide +kernel) (by decide) ?_ ?_
  · refine xm_blk0 (pc' := 189) (lv' := [(0, .ref 0), (1, .long v1), (3, .int v3)]) (st' := [.long v1, .ref 1, .ref 4]) (u' := (xU u)) [(.aload_n 0, (0, 0, 0), 0, 0), (.getfield 18, (3, 1, 207), 0, 0), (.aload_n 0, (0, 0, 0), 0, 0), (.getfield 14, (3, 0, 206), 0, 0), (.lload_n 1, (0, 0, 0), 0, 0)] (by decide +kernel) rfl ?_
    refine xm_Vl (pc := 189) (mz := md_X1_mixInto_1) (idx := 320) (p1 := 804) (a := 1) (as := [.long v1]) (st := [.ref 4]) (ev_X1_mixInto_1 N v1 u) mw_X1_mixInto (by decide +kernel) (by decide +kernel) (by decide) rfl rfl (by decide) rfl (Nat.le_of_ble_eq_true rfl) (fun r189 => ?_)
    refine xm_Vl (pc := 192) (mz := md_X1_mixInto_4) (idx := 320) (p1 := 804) (a := 4) (as := [.long r189]) (st := []) (ev_X1_mixInto_4 N r189 u) mw_X1_mixInto (by decide +kernel) (by decide +kernel) (by decide) rfl rfl (by decide) rfl (Nat.le_of_ble_eq_true rfl) (fun r192 => ?_)
    exact xm_lret (pc := 195) (by decide +kernel) rfl rfl
  · refine xm_blk0 (pc' := 150) (lv' := [(0, .ref 0), (1, .long v1), (3, .int v3)]) (st' := [.int v3, .ref 23, .long v1]) (u' := (xU u)) [(.lload_n 1, (0, 0, 0), 0, 0), (.aload_n 0, (0, 0, 0), 0, 0), (.getfield 38, (3, 5, 211), 0, 0), (.iload_n 3, (0, 0, 0), 0, 0)] (by decide +kernel) rfl ?_
    refine xm_aald (pc := 150) (by decide +kernel) ?_ ?_ ?_
    · refine xm_blk0 (pc' := 154) (lv' := [(0, .ref 0), (1, .long v1), (3, .int v3)]) (st' := [.int (u.1 24 0), .long v1]) (u' := (xU u)) [(.getfield 116, (2, 0, 179), 0, 0)] (by decide +kernel) rfl ?_
      refine xm_if_eq (pc := 154) (off := 15) (tgt := 169) (by decide +kernel) (by decide) ?_ ?_
      · refine xm_blk0 (pc' := 170) (lv' := [(0, .ref 0), (1, .long v1), (3, .int v3)]) (st' := [.int (-1 : Int32), .long v1]) (u' := (xU u)) [(.iconst (-1), (0, 0, 0), -1, 0)] (by decide +kernel) rfl ?_
        refine xm_wk [0, 2] (lv' := [(0, .ref 0), (3, .int v3)]) rfl ?_
        exact go_X3_digest_L170 N u rec139 h139 v3 (-1 : Int32) v1
      · refine xm_blk0 (pc' := 162) (lv' := [(0, .ref 0), (1, .long v1), (3, .int v3)]) (st' := [.int v3, .ref 23, .long v1]) (u' := (xU u)) [(.aload_n 0, (0, 0, 0), 0, 0), (.getfield 38, (3, 5, 211), 0, 0), (.iload_n 3, (0, 0, 0), 0, 0)] (by decide +kernel) rfl ?_
        refine xm_aald (pc := 162) (by decide +kernel) ?_ ?_ ?_
        · refine xm_blk0 (pc' := 166) (lv' := [(0, .ref 0), (1, .long v1), (3, .int v3)]) (st' := [.int (u.1 24 2), .long v1]) (u' := (xU u)) [(.getfield 176, (2, 2, 183), 0, 0)] (by decide +kernel) rfl ?_
          refine xm_goto (pc := 166) (off := 4) (tgt := 170) (by decide +kernel) (by decide) ?_
          refine xm_wk [0, 2] (lv' := [(0, .ref 0), (3, .int v3)]) rfl ?_
          exact go_X3_digest_L170 N u rec139 h139 v3 (u.1 24 2) v1
        · refine xm_blk0 (pc' := 166) (lv' := [(0, .ref 0), (1, .long v1), (3, .int v3)]) (st' := [.int (u.1 28 2), .long v1]) (u' := (xU u)) [(.getfield 176, (2, 2, 183), 0, 0)] (by decide +kernel) rfl ?_
          refine xm_goto (pc := 166) (off := 4) (tgt := 170) (by decide +kernel) (by decide) ?_
          refine xm_wk [0, 2] (lv' := [(0, .ref 0), (3, .int v3)]) rfl ?_
          exact go_X3_digest_L170 N u rec139 h139 v3 (u.1 28 2) v1
        · refine xm_blk0 (pc' := 166) (lv' := [(0, .ref 0), (1, .long v1), (3, .int v3)]) (st' := [.int (u.1 32 2), .long v1]) (u' := (xU u)) [(.getfield 176, (2, 2, 183), 0, 0)] (by decide +kernel) rfl ?_
          refine xm_goto (pc := 166) (off := 4) (tgt := 170) (by decide +kernel) (by decide) ?_
          refine xm_wk [0, 2] (lv' := [(0, .ref 0), (3, .int v3)]) rfl ?_
          exact go_X3_digest_L170 N u rec139 h139 v3 (u.1 32 2) v1
    · refine xm_blk0 (pc' := 154) (lv' := [(0, .ref 0), (1, .long v1), (3, .int v3)]) (st' := [.int (u.1 28 0), .long v1]) (u' := (xU u)) [(.getfield 116, (2, 0, 179), 0, 0)] (by decide +kernel) rfl ?_
      refine xm_if_eq (pc := 154) (off := 15) (tgt := 169) (by decide +kernel) (by decide) ?_ ?_
      · refine xm_blk0 (pc' := 170) (lv' := [(0, .ref 0), (1, .long v1), (3, .int v3)]) (st' := [.int (-1 : Int32), .long v1]) (u' := (xU u)) [(.iconst (-1), (0, 0, 0), -1, 0)] (by decide +kernel) rfl ?_
        refine xm_wk [0, 2] (lv' := [(0, .ref 0), (3, .int v3)]) rfl ?_
        exact go_X3_digest_L170 N u rec139 h139 v3 (-1 : Int32) v1
      · refine xm_blk0 (pc' := 162) (lv' := [(0, .ref 0), (1, .long v1), (3, .int v3)]) (st' := [.int v3, .ref 23, .long v1]) (u' := (xU u)) [(.aload_n 0, (0, 0, 0), 0, 0), (.getfield 38, (3, 5, 211), 0, 0), (.iload_n 3, (0, 0, 0), 0, 0)] (by decide +kernel) rfl ?_
        refine xm_aald (pc := 162) (by decide +kernel) ?_ ?_ ?_
        · refine xm_blk0 (pc' := 166) (lv' := [(0, .ref 0), (1, .long v1), (3, .int v3)]) (st' := [.int (u.1 24 2), .long v1]) (u' := (xU u)) [(.getfield 176, (2, 2, 183), 0, 0)] (by decide +kernel) rfl ?_
          refine xm_goto (pc := 166) (off := 4) (tgt := 170) (by decide +kernel) (by decide) ?_
          refine xm_wk [0, 2] (lv' := [(0, .ref 0), (3, .int v3)]) rfl ?_
          exact go_X3_digest_L170 N u rec139 h139 v3 (u.1 24 2) v1
        · refine xm_blk0 (pc' := 166) (lv' := [(0, .ref 0), (1, .long v1), (3, .int v3)]) (st' := [.int (u.1 28 2), .long v1]) (u' := (xU u)) [(.getfield 176, (2, 2, 183), 0, 0)] (by decide +kernel) rfl ?_
          refine xm_goto (pc := 166) (off := 4) (tgt := 170) (by decide +kernel) (by decide) ?_
          refine xm_wk [0, 2] (lv' := [(0, .ref 0), (3, .int v3)]) rfl ?_
          exact go_X3_digest_L170 N u rec139 h139 v3 (u.1 28 2) v1
        · refine xm_blk0 (pc' := 166) (lv' := [(0, .ref 0), (1, .long v1), (3, .int v3)]) (st' := [.int (u.1 32 2), .long v1]) (u' := (xU u)) [(.getfield 176, (2, 2, 183), 0, 0)] (by decide +kernel) rfl ?_
          refine xm_goto (pc := 166) (off := 4) (tgt := 170) (by decide +kernel) (by decide) ?_
          refine xm_wk [0, 2] (lv' := [(0, .ref 0), (3, .int v3)]) rfl ?_
          exact go_X3_digest_L170 N u rec139 h139 v3 (u.1 32 2) v1
    · refine xm_blk0 (pc' := 154) (lv' := [(0, .ref 0), (1, .long v1), (3, .int v3)]) (st' := [.int (u.1 32 0), .long v1]) (u' := (xU u)) [(.getfield 116, (2, 0, 179), 0, 0)] (by decide +kernel) rfl ?_
      refine xm_if_eq (pc := 154) (off := 15) (tgt := 169) (by decide +kernel) (by decide) ?_ ?_
      · refine xm_blk0 (pc' := 170) (lv' := [(0, .ref 0), (1, .long v1), (3, .int v3)]) (st' := [.int (-1 : Int32), .long v1]) (u' := (xU u)) [(.iconst (-1), (0, 0, 0), -1, 0)] (by decide +kernel) rfl ?_
        refine xm_wk [0, 2] (lv' := [(0, .ref 0), (3, .int v3)]) rfl ?_
        exact go_X3_digest_L170 N u rec139 h139 v3 (-1 : Int32) v1
      · refine xm_blk0 (pc' := 162) (lv' := [(0, .ref 0), (1, .long v1), (3, .int v3)]) (st' := [.int v3, .ref 23, .long v1]) (u' := (xU u)) [(.aload_n 0, (0, 0, 0), 0, 0), (.getfield 38, (3, 5, 211), 0, 0), (.iload_n 3, (0, 0, 0), 0, 0)] (by decide +kernel) rfl ?_
        refine xm_aald (pc := 162) (by decide +kernel) ?_ ?_ ?_
        · refine xm_blk0 (pc' := 166) (lv' := [(0, .ref 0), (1, .long v1), (3, .int v3)]) (st' := [.int (u.1 24 2), .long v1]) (u' := (xU u)) [(.getfield 176, (2, 2, 183), 0, 0)] (by decide +kernel) rfl ?_
          refine xm_goto (pc := 166) (off := 4) (tgt := 170) (by decide +kernel) (by decide) ?_
          refine xm_wk [0, 2] (lv' := [(0, .ref 0), (3, .int v3)]) rfl ?_
          exact go_X3_digest_L170 N u rec139 h139 v3 (u.1 24 2) v1
        · refine xm_blk0 (pc' := 166) (lv' := [(0, .ref 0), (1, .long v1), (3, .int v3)]) (st' := [.int (u.1 28 2), .long v1]) (u' := (xU u)) [(.getfield 176, (2, 2, 183), 0, 0)] (by decide +kernel) rfl ?_
          refine xm_goto (pc := 166) (off := 4) (tgt := 170) (by decide +kernel) (by decide) ?_
          refine xm_wk [0, 2] (lv' := [(0, .ref 0), (3, .int v3)]) rfl ?_
          exact go_X3_digest_L170 N u rec139 h139 v3 (u.1 28 2) v1
        · refine xm_blk0 (pc' := 166) (lv' := [(0, .ref 0), (1, .long v1), (3, .int v3)]) (st' := [.int (u.1 32 2), .long v1]) (u' := (xU u)) [(.getfield 176, (2, 2, 183), 0, 0)] (by decide +kernel) rfl ?_
          refine xm_goto (pc := 166) (off := 4) (tgt := 170) (by decide +kernel) (by decide) ?_
          refine xm_wk [0, 2] (lv' := [(0, .ref 0), (3, .int v3)]) rfl ?_
          exact go_X3_digest_L170 N u rec139 h139 v3 (u.1 32 2) v1
def f_X3_digest_L139 (N : Nat) (u : xN) : Nat → Int64 → Int32 → Option Int64
  | 0 => fun _ _ => none
  | n + 1 => fun v1 v3 => f_X3_digest_L139b N u (f_X3_digest_L139 N u n) v1 v3
theorem go_X3_digest_L139 (N : Nat) (u : xN) : ∀ (n : Nat) (v1 : Int64) (v3 : Int32), xGm md_X3_digest (rsL (xU u)) (f_X3_digest_L139 N u n v1 v3) 139 [(0, .ref 0), (1, .long v1), (3, .int v3)] [] (xU u) := by
  intro n
  induction n with
  | zero => intro v1 v3; exact xm_none
  | succ n ih => intro v1 v3; exact go_X3_digest_L139b N u _ ih v1 v3
def f_X3_digest_L93b (N : Nat) (u : xN) (rec93 : Int64 → Int32 → Option Int64) (v1 : Int64) (v3 : Int32) : Option Int64 := if (u.1 7 1) ≤ v3 then f_X3_digest_L139 N u N v1 (0 : Int32) else f_X3_digest_L107 N u rec93 N v1 v3 (0 : Int32)
set_option maxRecDepth 20000 in
theorem go_X3_digest_L93b (N : Nat) (u : xN) (rec93 : Int64 → Int32 → Option Int64) (h93 : ∀ (v1 : Int64) (v3 : Int32), xGm md_X3_digest (rsL (xU u)) (rec93 v1 v3) 93 [(0, .ref 0), (1, .long v1), (3, .int v3)] [] (xU u)) (v1 : Int64) (v3 : Int32) : xGm md_X3_digest (rsL (xU u)) (f_X3_digest_L93b N u rec93 v1 v3) 93 [(0, .ref 0), (1, .long v1), (3, .int v3)] [] (xU u) := by
  unfold f_X3_digest_L93b
  refine xm_blk0 (pc' := 101) (lv' := [(0, .ref 0), (1, .long v1), (3, .int v3)]) (st' := [.int (u.1 7 1), .int v3]) (u' := (xU u)) [(.iload_n 3, (0, 0, 0), 0, 0), (.aload_n 0, (0, 0, 0), 0, 0), (.getfield 24, (3, 2, 208), 0, 0), (.getfield 113, (0, 1, 145), 0, 0)] (by decide +kernel) rfl ?_
  refine xm_icmp_ge (pc := 101) (off := 36) (tgt := 137) (by decide +kernel) (by decide) ?_ ?_
  · refine xm_blk0 (pc' := 139) (lv' := [(0, .ref 0), (1, .long v1), (3, .int (0 : Int32))]) (st' := []) (u' := (xU u)) [(.iconst 0, (0, 0, 0), 0, 0), (.istore_n 3, (0, 0, 0), 0, 0)] (by decide +kernel) rfl ?_
    exact go_X3_digest_L139 N u N v1 (0 : Int32)
  · refine xm_blk0 (pc' := 107) (lv' := [(0, .ref 0), (1, .long v1), (3, .int v3), (4, .int (0 : Int32))]) (st' := []) (u' := (xU u)) [(.iconst 0, (0, 0, 0), 0, 0), (.istore 4, (0, 0, 0), 0, 0)] (by decide +kernel) rfl ?_
    exact go_X3_digest_L107 N u rec93 h93 N v1 v3 (0 : Int32)
def f_X3_digest_L93 (N : Nat) (u : xN) : Nat → Int64 → Int32 → Option Int64
  | 0 => fun _ _ => none
  | n + 1 => fun v1 v3 => f_X3_digest_L93b N u (f_X3_digest_L93 N u n) v1 v3
theorem go_X3_digest_L93 (N : Nat) (u : xN) : ∀ (n : Nat) (v1 : Int64) (v3 : Int32), xGm md_X3_digest (rsL (xU u)) (f_X3_digest_L93 N u n v1 v3) 93 [(0, .ref 0), (1, .long v1), (3, .int v3)] [] (xU u) := by
  intro n
  induction n with
  | zero => intro v1 v3; exact xm_none
  | succ n ih => intro v1 v3; exact go_X3_digest_L93b N u _ ih v1 v3
def f_X3_digest_L58b (N : Nat) (u : xN) (rec58 : Int64 → Int32 → Option Int64) (v1 : Int64) (v3 : Int32) : Option Int64 := if ((u.1 7 0) * (5 : Int32)) ≤ v3 then f_X3_digest_L93 N u N v1 (0 : Int32) else gdl [inb v3 30] (Option.bind (f_X3_mixed v1 (u.1 8 (Int32.toNatClampNeg v3))) (fun r81 => rec58 r81 (v3 + (1 : Int32))))
set_option maxRecDepth 20000 in
theorem go_X3_digest_L58b (N : Nat) (u : xN) (rec58 : Int64 → Int32 → Option Int64) (h58 : ∀ (v1 : Int64) (v3 : Int32), xGm md_X3_digest (rsL (xU u)) (rec58 v1 v3) 58 [(0, .ref 0), (1, .long v1), (3, .int v3)] [] (xU u)) (v1 : Int64) (v3 : Int32) : xGm md_X3_digest (rsL (xU u)) (f_X3_digest_L58b N u rec58 v1 v3) 58 [(0, .ref 0), (1, .long v1), (3, .int v3)] [] (xU u) := by
  unfold f_X3_digest_L58b
  refine xm_blk0 (pc' := 68) (lv' := [(0, .ref 0), (1, .long v1), (3, .int v3)]) (st' := [.int ((u.1 7 0) * (5 : Int32)), .int v3]) (u' := (xU u)) [(.iload_n 3, (0, 0, 0), 0, 0), (.aload_n 0, (0, 0, 0), 0, 0), (.getfield 24, (3, 2, 208), 0, 0), (.getfield 119, (0, 0, 143), 0, 0), (.iconst 5, (0, 0, 0), 5, 0), (.imul, (0, 0, 0), 0, 0)] (by decide +kernel) rfl ?_
  refine xm_icmp_ge (pc := 68) (off := 23) (tgt := 91) (by decide +kernel) (by decide) ?_ ?_
  · refine xm_blk0 (pc' := 93) (lv' := [(0, .ref 0), (1, .long v1), (3, .int (0 : Int32))]) (st' := []) (u' := (xU u)) [(.iconst 0, (0, 0, 0), 0, 0), (.istore_n 3, (0, 0, 0), 0, 0)] (by decide +kernel) rfl ?_
    exact go_X3_digest_L93 N u N v1 (0 : Int32)
  · refine xm_blk (bs := [inb v3 30]) (pc' := 81) (lv' := [(0, .ref 0), (1, .long v1), (3, .int v3)]) (st' := [.int (u.1 8 (Int32.toNatClampNeg v3)), .long v1]) (u' := (xU u)) [(.lload_n 1, (0, 0, 0), 0, 0), (.aload_n 0, (0, 0, 0), 0, 0), (.getfield 24, (3, 2, 208), 0, 0), (.getfield 122, (0, 3, 148), 0, 0), (.iload_n 3, (0, 0, 0), 0, 0), (.iaload, (0, 0, 0), 0, 0)] (by decide +kernel) rfl ?_
    refine xm_Sl (pc := 81) (mz := md_X3_mixed) (idx := 316) (p1 := 800) (as := [.long v1, .int (u.1 8 (Int32.toNatClampNeg v3))]) (st := []) (ev_X3_mixed v1 (u.1 8 (Int32.toNatClampNeg v3)) u) mw_X3_mixed (by decide +kernel) (by decide +kernel) (by decide) rfl (Nat.le_of_ble_eq_true rfl) (fun r81 => ?_)
    refine xm_blk0 (pc' := 88) (lv' := [(0, .ref 0), (1, .long r81), (3, .int (v3 + (1 : Int32)))]) (st' := []) (u' := (xU u)) [(.lstore_n 1, (0, 0, 0), 0, 0), (.iinc 3 1, (0, 0, 0), 1, 0)] (by decide +kernel) rfl ?_
    refine xm_goto (pc := 88) (off := -30) (tgt := 58) (by decide +kernel) (by decide) ?_
    exact h58 r81 (v3 + (1 : Int32))
def f_X3_digest_L58 (N : Nat) (u : xN) : Nat → Int64 → Int32 → Option Int64
  | 0 => fun _ _ => none
  | n + 1 => fun v1 v3 => f_X3_digest_L58b N u (f_X3_digest_L58 N u n) v1 v3
theorem go_X3_digest_L58 (N : Nat) (u : xN) : ∀ (n : Nat) (v1 : Int64) (v3 : Int32), xGm md_X3_digest (rsL (xU u)) (f_X3_digest_L58 N u n v1 v3) 58 [(0, .ref 0), (1, .long v1), (3, .int v3)] [] (xU u) := by
  intro n
  induction n with
  | zero => intro v1 v3; exact xm_none
  | succ n ih => intro v1 v3; exact go_X3_digest_L58b N u _ ih v1 v3
def f_X3_digest_L30b (N : Nat) (u : xN) (rec30 : Int64 → Int32 → Option Int64) (v1 : Int64) (v3 : Int32) : Option Int64 := if (8 : Int32) ≤ v3 then f_X3_digest_L58 N u N v1 (0 : Int32) else gdl [inb v3 8] (Option.bind (f_X3_mixed v1 (u.1 20 (Int32.toNatClampNeg v3))) (fun r46 => rec30 r46 (v3 + (1 : Int32))))
set_option maxRecDepth 20000 in
theorem go_X3_digest_L30b (N : Nat) (u : xN) (rec30 : Int64 → Int32 → Option Int64) (h30 : ∀ (v1 : Int64) (v3 : Int32), xGm md_X3_digest (rsL (xU u)) (rec30 v1 v3) 30 [(0, .ref 0), (1, .long v1), (3, .int v3)] [] (xU u)) (v1 : Int64) (v3 : Int32) : xGm md_X3_digest (rsL (xU u)) (f_X3_digest_L30b N u rec30 v1 v3) 30 [(0, .ref 0), (1, .long v1), (3, .int v3)] [] (xU u) := by
  unfold f_X3_digest_L30b
  refine xm_blk0 (pc' := 33) (lv' := [(0, .ref 0), (1, .long v1), (3, .int v3)]) (st' := [.int (8 : Int32), .int v3]) (u' := (xU u)) [(.iload_n 3, (0, 0, 0), 0, 0), (.bipush 8, (0, 0, 0), 8, 0)] (by decide +kernel) rfl ?_
  refine xm_icmp_ge (pc := 33) (off := 23) (tgt := 56) (by decide +kernel) (by decide) ?_ ?_
  · refine xm_blk0 (pc' := 58) (lv' := [(0, .ref 0), (1, .long v1), (3, .int (0 : Int32))]) (st' := []) (u' := (xU u)) [(.iconst 0, (0, 0, 0), 0, 0), (.istore_n 3, (0, 0, 0), 0, 0)] (by decide +kernel) rfl ?_
    exact go_X3_digest_L58 N u N v1 (0 : Int32)
  · refine xm_blk (bs := [inb v3 8]) (pc' := 46) (lv' := [(0, .ref 0), (1, .long v1), (3, .int v3)]) (st' := [.int (u.1 20 (Int32.toNatClampNeg v3)), .long v1]) (u' := (xU u)) [(.lload_n 1, (0, 0, 0), 0, 0), (.aload_n 0, (0, 0, 0), 0, 0), (.getfield 34, (3, 4, 210), 0, 0), (.getfield 170, (2, 3, 185), 0, 0), (.iload_n 3, (0, 0, 0), 0, 0), (.iaload, (0, 0, 0), 0, 0)] (by decide +kernel) rfl ?_
    refine xm_Sl (pc := 46) (mz := md_X3_mixed) (idx := 316) (p1 := 800) (as := [.long v1, .int (u.1 20 (Int32.toNatClampNeg v3))]) (st := []) (ev_X3_mixed v1 (u.1 20 (Int32.toNatClampNeg v3)) u) mw_X3_mixed (by decide +kernel) (by decide +kernel) (by decide) rfl (Nat.le_of_ble_eq_true rfl) (fun r46 => ?_)
    refine xm_blk0 (pc' := 53) (lv' := [(0, .ref 0), (1, .long r46), (3, .int (v3 + (1 : Int32)))]) (st' := []) (u' := (xU u)) [(.lstore_n 1, (0, 0, 0), 0, 0), (.iinc 3 1, (0, 0, 0), 1, 0)] (by decide +kernel) rfl ?_
    refine xm_goto (pc := 53) (off := -23) (tgt := 30) (by decide +kernel) (by decide) ?_
    exact h30 r46 (v3 + (1 : Int32))
def f_X3_digest_L30 (N : Nat) (u : xN) : Nat → Int64 → Int32 → Option Int64
  | 0 => fun _ _ => none
  | n + 1 => fun v1 v3 => f_X3_digest_L30b N u (f_X3_digest_L30 N u n) v1 v3
theorem go_X3_digest_L30 (N : Nat) (u : xN) : ∀ (n : Nat) (v1 : Int64) (v3 : Int32), xGm md_X3_digest (rsL (xU u)) (f_X3_digest_L30 N u n v1 v3) 30 [(0, .ref 0), (1, .long v1), (3, .int v3)] [] (xU u) := by
  intro n
  induction n with
  | zero => intro v1 v3; exact xm_none
  | succ n ih => intro v1 v3; exact go_X3_digest_L30b N u _ ih v1 v3
def f_X3_digest_L6b (N : Nat) (u : xN) (rec6 : Int64 → Int32 → Option Int64) (v1 : Int64) (v3 : Int32) : Option Int64 := if (9 : Int32) ≤ v3 then f_X3_digest_L30 N u N v1 (0 : Int32) else Option.bind (f_X3_countNumber N v3 u) (fun r15 => Option.bind (f_X3_mixed v1 r15) (fun r18 => rec6 r18 (v3 + (1 : Int32))))
set_option maxRecDepth 20000 in
theorem go_X3_digest_L6b (N : Nat) (u : xN) (rec6 : Int64 → Int32 → Option Int64) (h6 : ∀ (v1 : Int64) (v3 : Int32), xGm md_X3_digest (rsL (xU u)) (rec6 v1 v3) 6 [(0, .ref 0), (1, .long v1), (3, .int v3)] [] (xU u)) (v1 : Int64) (v3 : Int32) : xGm md_X3_digest (rsL (xU u)) (f_X3_digest_L6b N u rec6 v1 v3) 6 [(0, .ref 0), (1, .long v1), (3, .int v3)] [] (xU u) := by
  unfold f_X3_digest_L6b
  refine xm_blk0 (pc' := 9) (lv' := [(0, .ref 0), (1, .long v1), (3, .int v3)]) (st' := [.int (9 : Int32), .int v3]) (u' := (xU u)) [(.iload_n 3, (0, 0, 0), 0, 0), (.bipush 9, (0, 0, 0), 9, 0)] (by decide +kernel) rfl ?_
  refine xm_icmp_ge (pc := 9) (off := 19) (tgt := 28) (by decide +kernel) (by decide) ?_ ?_
  · refine xm_blk0 (pc' := 30) (lv' := [(0, .ref 0), (1, .long v1), (3, .int (0 : Int32))]) (st' := []) (u' := (xU u)) [(.iconst 0, (0, 0, 0), 0, 0), (.istore_n 3, (0, 0, 0), 0, 0)] (by decide +kernel) rfl ?_
    exact go_X3_digest_L30 N u N v1 (0 : Int32)
  · refine xm_blk0 (pc' := 15) (lv' := [(0, .ref 0), (1, .long v1), (3, .int v3)]) (st' := [.int v3, .ref 0, .long v1]) (u' := (xU u)) [(.lload_n 1, (0, 0, 0), 0, 0), (.aload_n 0, (0, 0, 0), 0, 0), (.iload_n 3, (0, 0, 0), 0, 0)] (by decide +kernel) rfl ?_
    refine xm_Vi (pc := 15) (mz := md_X3_countNumber) (idx := 308) (p1 := 770) (a := 0) (as := [.int v3]) (st := [.long v1]) (ev_X3_countNumber N v3 u) mw_X3_countNumber (by decide +kernel) (by decide +kernel) (by decide) rfl rfl (by decide) rfl (Nat.le_of_ble_eq_true rfl) (fun r15 => ?_)
    refine xm_Sl (pc := 18) (mz := md_X3_mixed) (idx := 316) (p1 := 800) (as := [.long v1, .int r15]) (st := []) (ev_X3_mixed v1 r15 u) mw_X3_mixed (by decide +kernel) (by decide +kernel) (by decide) rfl (Nat.le_of_ble_eq_true rfl) (fun r18 => ?_)
    refine xm_blk0 (pc' := 25) (lv' := [(0, .ref 0), (1, .long r18), (3, .int (v3 + (1 : Int32)))]) (st' := []) (u' := (xU u)) [(.lstore_n 1, (0, 0, 0), 0, 0), (.iinc 3 1, (0, 0, 0), 1, 0)] (by decide +kernel) rfl ?_
    refine xm_goto (pc := 25) (off := -19) (tgt := 6) (by decide +kernel) (by decide) ?_
    exact h6 r18 (v3 + (1 : Int32))
def f_X3_digest_L6 (N : Nat) (u : xN) : Nat → Int64 → Int32 → Option Int64
  | 0 => fun _ _ => none
  | n + 1 => fun v1 v3 => f_X3_digest_L6b N u (f_X3_digest_L6 N u n) v1 v3
theorem go_X3_digest_L6 (N : Nat) (u : xN) : ∀ (n : Nat) (v1 : Int64) (v3 : Int32), xGm md_X3_digest (rsL (xU u)) (f_X3_digest_L6 N u n v1 v3) 6 [(0, .ref 0), (1, .long v1), (3, .int v3)] [] (xU u) := by
  intro n
  induction n with
  | zero => intro v1 v3; exact xm_none
  | succ n ih => intro v1 v3; exact go_X3_digest_L6b N u _ ih v1 v3
def f_X3_digest (N : Nat) (u : xN) : Option Int64 := f_X3_digest_L6 N u N (17 : Int64) (0 : Int32)
set_option maxRecDepth 20000 in
theorem go_X3_digest (N : Nat) (u : xN) : xGm md_X3_digest (rsL (xU u)) (f_X3_digest N u) 0 [(0, .ref 0)] [] (xU u) := by
  unfold f_X3_digest
  refine xm_blk0 (pc' := 6) (lv' := [(0, .ref 0), (1, .long (17 : Int64)), (3, .int (0 : Int32))]) (st' := []) (u' := (xU u)) [(.ldc2_w 314, (0, 0, 799), 0, 17), (.lstore_n 1, (0, 0, 0), 0, 0), (.iconst 0, (0, 0, 0), 0, 0), (.istore_n 3, (0, 0, 0), 0, 0)] (by decide +kernel) rfl ?_
  exact go_X3_digest_L6 N u N (17 : Int64) (0 : Int32)
theorem ev_X3_digest (N : Nat) (u : xN) : ∀ r, f_X3_digest N u = some r → xEm md_X3_digest yX3_digest [.ref 0] (xU u) (some (.long r), (xU u)) := xm_met (res := (rsL (xU u))) (as := [.ref 0]) (go_X3_digest N u) (by decide) rfl (Nat.le_of_ble_eq_true rfl)
