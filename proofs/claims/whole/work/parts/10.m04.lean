theorem mw_X4_nearest : xMv yX4_nearest cX4_nearest 5 (some .int) 0 := xMv_of (p1 := 1176) (p2 := 1174) (p3 := 97) (p4 := 1175) (by decide +kernel)
/-! NeitherBareModel.nearest()I (39,) -/
abbrev md_X4_nearest : xMd := (cX4_nearest, RX4, 5, some .int, 7)
def f_X4_nearest_L65 (N : Nat) (rec16 : Int32 → Int32 → Int32 → xN → Option (Int32 × xN)) (v1 : Int32) (v3 : Int32) (t0 : Int32) (u : xN) : Option (Int32 × xN) := rec16 v1 t0 (v3 + (1 : Int32)) u
set_option maxRecDepth 20000 in
theorem go_X4_nearest_L65 (N : Nat) (rec16 : Int32 → Int32 → Int32 → xN → Option (Int32 × xN)) (h16 : ∀ (v1 : Int32) (v2 : Int32) (v3 : Int32) (u : xN), xGm md_X4_nearest rsM (rec16 v1 v2 v3 u) 16 [(0, .ref 39), (1, .int v1), (2, .int v2), (3, .int v3)] [] (xU u)) (v1 : Int32) (v3 : Int32) (t0 : Int32) (u : xN) : xGm md_X4_nearest rsM (f_X4_nearest_L65 N rec16 v1 v3 t0 u) 65 [(0, .ref 39), (1, .int v1), (3, .int v3)] [.int t0] (xU u) := by
  unfold f_X4_nearest_L65
  refine xm_blk0 (pc' := 69) (lv' := [(0, .ref 39), (1, .int v1), (2, .int t0), (3, .int (v3 + (1 : Int32)))]) (st' := []) (u' := (xU u)) [(.istore_n 2, (0, 0, 0), 0, 0), (.iinc 3 1, (0, 0, 0), 1, 0)] (by decide +kernel) rfl ?_
  refine xm_goto (pc := 69) (off := -53) (tgt := 16) (by decide +kernel) (by decide) ?_
  exact h16 v1 t0 (v3 + (1 : Int32)) u
def f_X4_nearest_L52 (N : Nat) (rec16 : Int32 → Int32 → Int32 → xN → Option (Int32 × xN)) (v2 : Int32) (v3 : Int32) (v4 : Int32) (t0 : Int32) (u : xN) : Option (Int32 × xN) := if v4 ≤ v2 then f_X4_nearest_L65 N rec16 t0 v3 v2 u else f_X4_nearest_L65 N rec16 t0 v3 v4 u
set_option maxRecDepth 20000 in
theorem go_X4_nearest_L52 (N : Nat) (rec16 : Int32 → Int32 → Int32 → xN → Option (Int32 × xN)) (h16 : ∀ (v1 : Int32) (v2 : Int32) (v3 : Int32) (u : xN), xGm md_X4_nearest rsM (rec16 v1 v2 v3 u) 16 [(0, .ref 39), (1, .int v1), (2, .int v2), (3, .int v3)] [] (xU u)) (v2 : Int32) (v3 : Int32) (v4 : Int32) (t0 : Int32) (u : xN) : xGm md_X4_nearest rsM (f_X4_nearest_L52 N rec16 v2 v3 v4 t0 u) 52 [(0, .ref 39), (2, .int v2), (3, .int v3), (4, .int v4)] [.int t0] (xU u) := by
  unfold f_X4_nearest_L52
  refine xm_blk0 (pc' := 56) (lv' := [(0, .ref 39), (1, .int t0), (2, .int v2), (3, .int v3), (4, .int v4)]) (st' := [.int v2, .int v4]) (u' := (xU u)) [(.istore_n 1, (0, 0, 0), 0, 0), (.iload 4, (0, 0, 0), 0, 0), (.iload_n 2, (0, 0, 0), 0, 0)] (by decide +kernel) rfl ?_
  refine xm_icmp_le (pc := 56) (off := 8) (tgt := 64) (by decide +kernel) (by decide) ?_ ?_
  · refine xm_blk0 (pc' := 65) (lv' := [(0, .ref 39), (1, .int t0), (2, .int v2), (3, .int v3), (4, .int v4)]) (st' := [.int v2]) (u' := (xU u)) [(.iload_n 2, (0, 0, 0), 0, 0)] (by decide +kernel) rfl ?_
    refine xm_wk [0, 1, 3] (lv' := [(0, .ref 39), (1, .int t0), (3, .int v3)]) rfl ?_
    exact go_X4_nearest_L65 N rec16 h16 t0 v3 v2 u
  · refine xm_blk0 (pc' := 61) (lv' := [(0, .ref 39), (1, .int t0), (2, .int v2), (3, .int v3), (4, .int v4)]) (st' := [.int v4]) (u' := (xU u)) [(.iload 4, (0, 0, 0), 0, 0)] (by decide +kernel) rfl ?_
    refine xm_goto (pc := 61) (off := 4) (tgt := 65) (by decide +kernel) (by decide) ?_
    refine xm_wk [0, 1, 3] (lv' := [(0, .ref 39), (1, .int t0), (3, .int v3)]) rfl ?_
    exact go_X4_nearest_L65 N rec16 h16 t0 v3 v4 u
def f_X4_nearest_L16b (N : Nat) (rec16 : Int32 → Int32 → Int32 → xN → Option (Int32 × xN)) (v1 : Int32) (v2 : Int32) (v3 : Int32) (u : xN) : Option (Int32 × xN) := Option.bind (f_X4_ways u) (fun r18 => if r18 ≤ v3 then some (v1, mI u 39 11 v2) else Option.bind (f_X4_heldBy N v3 u) (fun r26 => gdl [inb (1 : Int32) 1480] (Option.bind (f_X4_bits N (r26 &&& (u.1 40 (Int32.toNatClampNeg (1 : Int32))))) (fun r36 => if r36 ≤ v2 then f_X4_nearest_L52 N rec16 v2 v3 r36 v1 u else f_X4_nearest_L52 N rec16 v2 v3 r36 v3 u))))
set_option maxRecDepth 20000 in
theorem go_X4_nearest_L16b (N : Nat) (rec16 : Int32 → Int32 → Int32 → xN → Option (Int32 × xN)) (h16 : ∀ (v1 : Int32) (v2 : Int32) (v3 : Int32) (u : xN), xGm md_X4_nearest rsM (rec16 v1 v2 v3 u) 16 [(0, .ref 39), (1, .int v1), (2, .int v2), (3, .int v3)] [] (xU u)) (v1 : Int32) (v2 : Int32) (v3 : Int32) (u : xN) : xGm md_X4_nearest rsM (f_X4_nearest_L16b N rec16 v1 v2 v3 u) 16 [(0, .ref 39), (1, .int v1), (2, .int v2), (3, .int v3)] [] (xU u) := by
  unfold f_X4_nearest_L16b
  refine xm_blk0 (pc' := 18) (lv' := [(0, .ref 39), (1, .int v1), (2, .int v2), (3, .int v3)]) (st' := [.ref 39, .int v3]) (u' := (xU u)) [(.iload_n 3, (0, 0, 0), 0, 0), (.aload_n 0, (0, 0, 0), 0, 0)] (by decide +kernel) rfl ?_
  refine xm_Vi (pc := 18) (mz := md_X4_ways) (idx := 150) (p1 := 1020) (a := 39) (as := []) (st := [.int v3]) (ev_X4_ways u) mw_X4_ways (by decide +kernel) (by decide +kernel) (by decide) rfl rfl (by decide) rfl (Nat.le_of_ble_eq_true rfl) (fun r18 => ?_)
  refine xm_icmp_ge (pc := 21) (off := 51) (tgt := 72) (by decide +kernel) (by decide) ?_ ?_
  · refine xm_blk0 (pc' := 78) (lv' := [(0, .ref 39), (1, .int v1), (2, .int v2), (3, .int v3)]) (st' := [.int v1]) (u' := (xU (mI u 39 11 v2))) [(.aload_n 0, (0, 0, 0), 0, 0), (.iload_n 2, (0, 0, 0), 0, 0), (.putfield 67, (4, 11, 831), 0, 0), (.iload_n 1, (0, 0, 0), 0, 0)] (by decide +kernel) rfl ?_
    exact xm_iret (pc := 78) (by decide +kernel) rfl rfl
  · refine xm_blk0 (pc' := 26) (lv' := [(0, .ref 39), (1, .int v1), (2, .int v2), (3, .int v3)]) (st' := [.int v3, .ref 39]) (u' := (xU u)) [(.aload_n 0, (0, 0, 0), 0, 0), (.iload_n 3, (0, 0, 0), 0, 0)] (by decide +kernel) rfl ?_
    refine xm_Vi (pc := 26) (mz := md_X4_heldBy) (idx := 185) (p1 := 1145) (a := 39) (as := [.int v3]) (st := []) (ev_X4_heldBy N v3 u) mw_X4_heldBy (by decide +kernel) (by decide +kernel) (by decide) rfl rfl (by decide) rfl (Nat.le_of_ble_eq_true rfl) (fun r26 => ?_)
    refine xm_blk (bs := [inb (1 : Int32) 1480]) (pc' := 36) (lv' := [(0, .ref 39), (1, .int v1), (2, .int v2), (3, .int v3)]) (st' := [.int (r26 &&& (u.1 40 (Int32.toNatClampNeg (1 : Int32))))]) (u' := (xU u)) [(.aload_n 0, (0, 0, 0), 0, 0), (.getfield 7, (4, 0, 820), 0, 0), (.iconst 1, (0, 0, 0), 1, 0), (.iaload, (0, 0, 0), 0, 0), (.iand, (0, 0, 0), 0, 0)] (by decide +kernel) rfl ?_
    refine xm_Si (pc := 36) (mz := md_X4_bits) (idx := 215) (p1 := 1090) (as := [.int (r26 &&& (u.1 40 (Int32.toNatClampNeg (1 : Int32))))]) (st := []) (ev_X4_bits N (r26 &&& (u.1 40 (Int32.toNatClampNeg (1 : Int32)))) u) mw_X4_bits (by decide +kernel) (by decide +kernel) (by decide) rfl (Nat.le_of_ble_eq_true rfl) (fun r36 => ?_)
    refine xm_blk0 (pc' := 44) (lv' := [(0, .ref 39), (1, .int v1), (2, .int v2), (3, .int v3), (4, .int r36)]) (st' := [.int v2, .int r36]) (u' := (xU u)) [(.istore 4, (0, 0, 0), 0, 0), (.iload 4, (0, 0, 0), 0, 0), (.iload_n 2, (0, 0, 0), 0, 0)] (by decide +kernel) rfl ?_
    refine xm_icmp_le (pc := 44) (off := 7) (tgt := 51) (by decide +kernel) (by decide) ?_ ?_
    · refine xm_blk0 (pc' := 52) (lv' := [(0, .ref 39), (1, .int v1), (2, .int v2), (3, .int v3), (4, .int r36)]) (st' := [.int v1]) (u' := (xU u)) [(.iload_n 1, (0, 0, 0), 0, 0)] (by decide +kernel) rfl ?_
      refine xm_wk [0, 2, 3, 4] (lv' := [(0, .ref 39), (2, .int v2), (3, .int v3), (4, .int r36)]) rfl ?_
      exact go_X4_nearest_L52 N rec16 h16 v2 v3 r36 v1 u
    · refine xm_blk0 (pc' := 48) (lv' := [(0, .ref 39), (1, .int v1), (2, .int v2), (3, .int v3), (4, .int r36)]) (st' := [.int v3]) (u' := (xU u)) [(.iload_n 3, (0, 0, 0), 0, 0)] (by decide +kernel) rfl ?_
      refine xm_goto (pc := 48) (off := 4) (tgt := 52) (by decide +kernel) (by decide) ?_
      refine xm_wk [0, 2, 3, 4] (lv' := [(0, .ref 39), (2, .int v2), (3, .int v3), (4, .int r36)]) rfl ?_
      exact go_X4_nearest_L52 N rec16 h16 v2 v3 r36 v3 u
def f_X4_nearest_L16 (N : Nat) : Nat → Int32 → Int32 → Int32 → xN → Option (Int32 × xN)
  | 0 => fun _ _ _ _ => none
  | n + 1 => fun v1 v2 v3 u => f_X4_nearest_L16b N (f_X4_nearest_L16 N n) v1 v2 v3 u
theorem go_X4_nearest_L16 (N : Nat) : ∀ (n : Nat) (v1 : Int32) (v2 : Int32) (v3 : Int32) (u : xN), xGm md_X4_nearest rsM (f_X4_nearest_L16 N n v1 v2 v3 u) 16 [(0, .ref 39), (1, .int v1), (2, .int v2), (3, .int v3)] [] (xU u) := by
  intro n
  induction n with
  | zero => intro v1 v2 v3 u; exact xm_none
  | succ n ih => intro v1 v2 v3 u; exact go_X4_nearest_L16b N _ ih v1 v2 v3 u
def f_X4_nearest (N : Nat) (u : xN) : Option (Int32 × xN) := if (u.1 39 1) = (0 : Int32) then some ((-4 : Int32), u) else f_X4_nearest_L16 N N (0 : Int32) (-1 : Int32) (0 : Int32) u
set_option maxRecDepth 20000 in
theorem go_X4_nearest (N : Nat) (u : xN) : xGm md_X4_nearest rsM (f_X4_nearest N u) 0 [(0, .ref 39)] [] (xU u) := by
  unfold f_X4_nearest
  refine xm_blk0 (pc' := 4) (lv' := [(0, .ref 39)]) (st' := [.int (u.1 39 1)]) (u' := (xU u)) [(.aload_n 0, (0, 0, 0), 0, 0), (.getfield 147, (4, 1, 821), 0, 0)] (by decide +kernel) rfl ?_
  refine xm_if_ne (pc := 4) (off := 6) (tgt := 10) (by decide +kernel) (by decide) ?_ ?_
  · refine xm_blk0 (pc' := 16) (lv' := [(0, .ref 39), (1, .int (0 : Int32)), (2, .int (-1 : Int32)), (3, .int (0 : Int32))]) (st' := []) (u' := (xU u)) [(.iconst 0, (0, 0, 0), 0, 0), (.istore_n 1, (0, 0, 0), 0, 0), (.iconst (-1), (0, 0, 0), -1, 0), (.istore_n 2, (0, 0, 0), 0, 0), (.iconst 0, (0, 0, 0), 0, 0), (.istore_n 3, (0, 0, 0), 0, 0)] (by decide +kernel) rfl ?_
    exact go_X4_nearest_L16 N N (0 : Int32) (-1 : Int32) (0 : Int32) u
  · refine xm_blk0 (pc' := 9) (lv' := [(0, .ref 39)]) (st' := [.int (-4 : Int32)]) (u' := (xU u)) [(.bipush (-4), (0, 0, 0), -4, 0)] (by decide +kernel) rfl ?_
    exact xm_iret (pc := 9) (by decide +kernel) rfl rfl
theorem ev_X4_nearest (N : Nat) (u : xN) : ∀ r, f_X4_nearest N u = some r → xEm md_X4_nearest yX4_nearest [.ref 39] (xU u) (some (.int r.1), xU r.2) := xm_met (res := rsM) (as := [.ref 39]) (go_X4_nearest N u) (by decide) rfl (Nat.le_of_ble_eq_true rfl)
theorem mw_X4_tight : xMv yX4_tight cX4_tight 4 (some .int) 1 := xMv_of (p1 := 1180) (p2 := 1178) (p3 := 97) (p4 := 1179) (by decide +kernel)
/-! NeitherBareModel.tight(I)I (39, None) -/
abbrev md_X4_tight : xMd := (cX4_tight, RX4, 4, some .int, 8)
def f_X4_tight_L57 (N : Nat) (u : xN) (rec18 : Int32 → Int32 → Int32 → Option Int32) (v1 : Int32) (v3 : Int32) (t0 : Int32) : Option Int32 := rec18 v1 t0 (v3 + (1 : Int32))
set_option maxRecDepth 20000 in
theorem go_X4_tight_L57 (N : Nat) (u : xN) (rec18 : Int32 → Int32 → Int32 → Option Int32) (h18 : ∀ (v1 : Int32) (v2 : Int32) (v3 : Int32), xGm md_X4_tight (rsI (xU u)) (rec18 v1 v2 v3) 18 [(0, .ref 39), (1, .int v1), (2, .int v2), (3, .int v3)] [] (xU u)) (v1 : Int32) (v3 : Int32) (t0 : Int32) : xGm md_X4_tight (rsI (xU u)) (f_X4_tight_L57 N u rec18 v1 v3 t0) 57 [(0, .ref 39), (1, .int v1), (3, .int v3)] [.int t0] (xU u) := by
  unfold f_X4_tight_L57
  refine xm_blk0 (pc' := 61) (lv' := [(0, .ref 39), (1, .int v1), (2, .int t0), (3, .int (v3 + (1 : Int32)))]) (st' := []) (u' := (xU u)) [(.istore_n 2, (0, 0, 0), 0, 0), (.iinc 3 1, (0, 0, 0), 1, 0)] (by decide +kernel) rfl ?_
  refine xm_goto (pc := 61) (off := -43) (tgt := 18) (by decide +kernel) (by decide) ?_
  exact h18 v1 t0 (v3 + (1 : Int32))
def f_X4_tight_L52 (N : Nat) (u : xN) (rec18 : Int32 → Int32 → Int32 → Option Int32) (v1 : Int32) (v3 : Int32) : Option Int32 := f_X4_tight_L57 N u rec18 v1 v3 (1 : Int32)
set_option maxRecDepth 20000 in
theorem go_X4_tight_L52 (N : Nat) (u : xN) (rec18 : Int32 → Int32 → Int32 → Option Int32) (h18 : ∀ (v1 : Int32) (v2 : Int32) (v3 : Int32), xGm md_X4_tight (rsI (xU u)) (rec18 v1 v2 v3) 18 [(0, .ref 39), (1, .int v1), (2, .int v2), (3, .int v3)] [] (xU u)) (v1 : Int32) (v3 : Int32) : xGm md_X4_tight (rsI (xU u)) (f_X4_tight_L52 N u rec18 v1 v3) 52 [(0, .ref 39), (1, .int v1), (3, .int v3)] [] (xU u) := by
  unfold f_X4_tight_L52
  refine xm_blk0 (pc' := 53) (lv' := [(0, .ref 39), (1, .int v1), (3, .int v3)]) (st' := [.int (1 : Int32)]) (u' := (xU u)) [(.iconst 1, (0, 0, 0), 1, 0)] (by decide +kernel) rfl ?_
  refine xm_goto (pc := 53) (off := 4) (tgt := 57) (by decide +kernel) (by decide) ?_
  exact go_X4_tight_L57 N u rec18 h18 v1 v3 (1 : Int32)
def f_X4_tight_L73 (N : Nat) (u : xN) (t0 : Int32) : Option Int32 := some t0
set_option maxRecDepth 20000 in
theorem go_X4_tight_L73 (N : Nat) (u : xN) (t0 : Int32) : xGm md_X4_tight (rsI (xU u)) (f_X4_tight_L73 N u t0) 73 [] [.int t0] (xU u) := by
  unfold f_X4_tight_L73
  exact xm_iret (pc := 73) (by decide +kernel) rfl rfl
def f_X4_tight_L64 (N : Nat) (u : xN) (v2 : Int32) : Option Int32 := if v2 = (0 : Int32) then f_X4_tight_L73 N u (0 : Int32) else f_X4_tight_L73 N u (1 : Int32)
set_option maxRecDepth 20000 in
theorem go_X4_tight_L64 (N : Nat) (u : xN) (v2 : Int32) : xGm md_X4_tight (rsI (xU u)) (f_X4_tight_L64 N u v2) 64 [(2, .int v2)] [] (xU u) := by
  unfold f_X4_tight_L64
  refine xm_blk0 (pc' := 65) (lv' := [(2, .int v2)]) (st' := [.int v2]) (u' := (xU u)) [(.iload_n 2, (0, 0, 0), 0, 0)] (by decide +kernel) rfl ?_
  refine xm_if_eq (pc := 65) (off := 7) (tgt := 72) (by decide +kernel) (by decide) ?_ ?_
  · refine xm_blk0 (pc' := 73) (lv' := [(2, .int v2)]) (st' := [.int (0 : Int32)]) (u' := (xU u)) [(.iconst 0, (0, 0, 0), 0, 0)] (by decide +kernel) rfl ?_
    refine xm_wk [] (lv' := []) rfl ?_
    exact go_X4_tight_L73 N u (0 : Int32)
  · refine xm_blk0 (pc' := 69) (lv' := [(2, .int v2)]) (st' := [.int (1 : Int32)]) (u' := (xU u)) [(.iconst 1, (0, 0, 0), 1, 0)] (by decide +kernel) rfl ?_
    refine xm_goto (pc := 69) (off := 4) (tgt := 73) (by decide +kernel) (by decide) ?_
    refine xm_wk [] (lv' := []) rfl ?_
    exact go_X4_tight_L73 N u (1 : Int32)
def f_X4_tight_L18b (N : Nat) (u : xN) (rec18 : Int32 → Int32 → Int32 → Option Int32) (v1 : Int32) (v2 : Int32) (v3 : Int32) : Option Int32 := if (u.1 39 1) ≤ v3 then f_X4_tight_L64 N u v2 else if v2 = (0 : Int32) then f_X4_tight_L64 N u v2 else Option.bind (f_X4_has v1 v3) (fun r32 => if r32 = (0 : Int32) then f_X4_tight_L52 N u rec18 v1 v3 else Option.bind (f_X4_isGood N (v1 &&& (((1 : Int32) <<< (v3 &&& 31)) ^^^ (-1 : Int32))) u) (fun r46 => if r46 = (0 : Int32) then f_X4_tight_L52 N u rec18 v1 v3 else f_X4_tight_L57 N u rec18 v1 v3 (0 : Int32)))
set_option maxRecDepth 20000 in
theorem go_X4_tight_L18b (N : Nat) (u : xN) (rec18 : Int32 → Int32 → Int32 → Option Int32) (h18 : ∀ (v1 : Int32) (v2 : Int32) (v3 : Int32), xGm md_X4_tight (rsI (xU u)) (rec18 v1 v2 v3) 18 [(0, .ref 39), (1, .int v1), (2, .int v2), (3, .int v3)] [] (xU u)) (v1 : Int32) (v2 : Int32) (v3 : Int32) : xGm md_X4_tight (rsI (xU u)) (f_X4_tight_L18b N u rec18 v1 v2 v3) 18 [(0, .ref 39), (1, .int v1), (2, .int v2), (3, .int v3)] [] (xU u) := by
  unfold f_X4_tight_L18b
  refine xm_blk0 (pc' := 23) (lv' := [(0, .ref 39), (1, .int v1), (2, .int v2), (3, .int v3)]) (st' := [.int (u.1 39 1), .int v3]) (u' := (xU u)) [(.iload_n 3, (0, 0, 0), 0, 0), (.aload_n 0, (0, 0, 0), 0, 0), (.getfield 147, (4, 1, 821), 0, 0)] (by decide +kernel) rfl ?_
  refine xm_icmp_ge (pc := 23) (off := 41) (tgt := 64) (by decide +kernel) (by decide) ?_ ?_
  · refine xm_wk [2] (lv' := [(2, .int v2)]) rfl ?_
    exact go_X4_tight_L64 N u v2
  · refine xm_blk0 (pc' := 27) (lv' := [(0, .ref 39), (1, .int v1), (2, .int v2), (3, .int v3)]) (st' := [.int v2]) (u' := (xU u)) [(.iload_n 2, (0, 0, 0), 0, 0)] (by decide +kernel) rfl ?_
    refine xm_if_eq (pc := 27) (off := 37) (tgt := 64) (by decide +kernel) (by decide) ?_ ?_
    · refine xm_wk [2] (lv' := [(2, .int v2)]) rfl ?_
      exact go_X4_tight_L64 N u v2
    · refine xm_blk0 (pc' := 32) (lv' := [(0, .ref 39), (1, .int v1), (2, .int v2), (3, .int v3)]) (st' := [.int v3, .int v1]) (u' := (xU u)) [(.iload_n 1, (0, 0, 0), 0, 0), (.iload_n 3, (0, 0, 0), 0, 0)] (by decide +kernel) rfl ?_
      refine xm_Si (pc := 32) (mz := md_X4_has) (idx := 153) (p1 := 1032) (as := [.int v1, .int v3]) (st := []) (ev_X4_has v1 v3 u) mw_X4_has (by decide +kernel) (by decide +kernel) (by decide) rfl (Nat.le_of_ble_eq_true rfl) (fun r32 => ?_)
      refine xm_if_eq (pc := 35) (off := 17) (tgt := 52) (by decide +kernel) (by decide) ?_ ?_
      · refine xm_wk [0, 1, 3] (lv' := [(0, .ref 39), (1, .int v1), (3, .int v3)]) rfl ?_
        exact go_X4_tight_L52 N u rec18 h18 v1 v3
      · refine xm_blk0 (pc' := 46) (lv' := [(0, .ref 39), (1, .int v1), (2, .int v2), (3, .int v3)]) (st' := [.int (v1 &&& (((1 : Int32) <<< (v3 &&& 31)) ^^^ (-1 : Int32))), .ref 39]) (u' := (xU u)) [(.aload_n 0, (0, 0, 0), 0, 0), (.iload_n 1, (0, 0, 0), 0, 0), (.iconst 1, (0, 0, 0), 1, 0), (.iload_n 3, (0, 0, 0), 0, 0), (.ishl, (0, 0, 0), 0, 0), (.iconst (-1), (0, 0, 0), -1, 0), (.ixor, (0, 0, 0), 0, 0), (.iand, (0, 0, 0), 0, 0)] (by decide +kernel) rfl ?_
        refine xm_Vi (pc := 46) (mz := md_X4_isGood) (idx := 235) (p1 := 1141) (a := 39) (as := [.int (v1 &&& (((1 : Int32) <<< (v3 &&& 31)) ^^^ (-1 : Int32)))]) (st := []) (ev_X4_isGood N (v1 &&& (((1 : Int32) <<< (v3 &&& 31)) ^^^ (-1 : Int32))) u) mw_X4_isGood (by decide +kernel) (by decide +kernel) (by decide) rfl rfl (by decide) rfl (Nat.le_of_ble_eq_true rfl) (fun r46 => ?_)
        refine xm_if_ne (pc := 49) (off := 7) (tgt := 56) (by decide +kernel) (by decide) ?_ ?_
        · refine xm_blk0 (pc' := 57) (lv' := [(0, .ref 39), (1, .int v1), (2, .int v2), (3, .int v3)]) (st' := [.int (0 : Int32)]) (u' := (xU u)) [(.iconst 0, (0, 0, 0), 0, 0)] (by decide +kernel) rfl ?_
          refine xm_wk [0, 1, 3] (lv' := [(0, .ref 39), (1, .int v1), (3, .int v3)]) rfl ?_
          exact go_X4_tight_L57 N u rec18 h18 v1 v3 (0 : Int32)
        · refine xm_wk [0, 1, 3] (lv' := [(0, .ref 39), (1, .int v1), (3, .int v3)]) rfl ?_
          exact go_X4_tight_L52 N u rec18 h18 v1 v3
def f_X4_tight_L18 (N : Nat) (u : xN) : Nat → Int32 → Int32 → Int32 → Option Int32
  | 0 => fun _ _ _ => none
  | n + 1 => fun v1 v2 v3 => f_X4_tight_L18b N u (f_X4_tight_L18 N u n) v1 v2 v3
theorem go_X4_tight_L18 (N : Nat) (u : xN) : ∀ (n : Nat) (v1 : Int32) (v2 : Int32) (v3 : Int32), xGm md_X4_tight (rsI (xU u)) (f_X4_tight_L18 N u n v1 v2 v3) 18 [(0, .ref 39), (1, .int v1), (2, .int v2), (3, .int v3)] [] (xU u) := by
  intro n
  induction n with
  | zero => intro v1 v2 v3; exact xm_none
  | succ n ih => intro v1 v2 v3; exact go_X4_tight_L18b N u _ ih v1 v2 v3
def f_X4_tight (N : Nat) (a1 : Int32) (u : xN) : Option Int32 := Option.bind (f_X4_isWay a1 u) (fun r2 => if r2 = (0 : Int32) then some (-1 : Int32) else Option.bind (f_X4_isGood N a1 u) (fun r12 => f_X4_tight_L18 N u N a1 r12 (0 : Int32)))
set_option maxRecDepth 20000 in
theorem go_X4_tight (N : Nat) (a1 : Int32) (u : xN) : xGm md_X4_tight (rsI (xU u)) (f_X4_tight N a1 u) 0 [(0, .ref 39), (1, .int a1)] [] (xU u) := by
  unfold f_X4_tight
  refine xm_blk0 (pc' := 2) (lv' := [(0, .ref 39), (1, .int a1)]) (st' := [.int a1, .ref 39]) (u' := (xU u)) [(.aload_n 0, (0, 0, 0), 0, 0), (.iload_n 1, (0, 0, 0), 0, 0)] (by decide +kernel) rfl ?_
  refine xm_Vi (pc := 2) (mz := md_X4_isWay) (idx := 229) (p1 := 1125) (a := 39) (as := [.int a1]) (st := []) (ev_X4_isWay a1 u) mw_X4_isWay (by decide +kernel) (by decide +kernel) (by decide) rfl rfl (by decide) rfl (Nat.le_of_ble_eq_true rfl) (fun r2 => ?_)
  refine xm_if_ne (pc := 5) (off := 5) (tgt := 10) (by decide +kernel) (by decide) ?_ ?_
  · refine xm_blk0 (pc' := 12) (lv' := [(0, .ref 39), (1, .int a1)]) (st' := [.int a1, .ref 39]) (u' := (xU u)) [(.aload_n 0, (0, 0, 0), 0, 0), (.iload_n 1, (0, 0, 0), 0, 0)] (by decide +kernel) rfl ?_
    refine xm_Vi (pc := 12) (mz := md_X4_isGood) (idx := 235) (p1 := 1141) (a := 39) (as := [.int a1]) (st := []) (ev_X4_isGood N a1 u) mw_X4_isGood (by decide +kernel) (by decide +kernel) (by decide) rfl rfl (by decide) rfl (Nat.le_of_ble_eq_true rfl) (fun r12 => ?_)
    refine xm_blk0 (pc' := 18) (lv' := [(0, .ref 39), (1, .int a1), (2, .int r12), (3, .int (0 : Int32))]) (st' := []) (u' := (xU u)) [(.istore_n 2, (0, 0, 0), 0, 0), (.iconst 0, (0, 0, 0), 0, 0), (.istore_n 3, (0, 0, 0), 0, 0)] (by decide +kernel) rfl ?_
    exact go_X4_tight_L18 N u N a1 r12 (0 : Int32)
  · refine xm_blk0 (pc' := 9) (lv' := [(0, .ref 39), (1, .int a1)]) (st' := [.int (-1 : Int32)]) (u' := (xU u)) [(.iconst (-1), (0, 0, 0), -1, 0)] (by decide +kernel) rfl ?_
    exact xm_iret (pc := 9) (by decide +kernel) rfl rfl
theorem ev_X4_tight (N : Nat) (a1 : Int32) (u : xN) : ∀ r, f_X4_tight N a1 u = some r → xEm md_X4_tight yX4_tight [.ref 39, .int a1] (xU u) (some (.int r), (xU u)) := xm_met (res := (rsI (xU u))) (as := [.ref 39, .int a1]) (go_X4_tight N a1 u) (by decide) rfl (Nat.le_of_ble_eq_true rfl)
theorem mw_X4_clashes : xMv yX4_clashes cX4_clashes 3 (some .boolean) 1 := xMv_of (p1 := 1188) (p2 := 1187) (p3 := 97) (p4 := 76) (by decide +kernel)
/-! NeitherBareModel.clashes(I)Z (39, None) -/
abbrev md_X4_clashes : xMd := (cX4_clashes, RX4, 3, some .boolean, 7)
def f_X4_clashes_L2b (N : Nat) (u : xN) (rec2 : Int32 → Int32 → Option Int32) (v1 : Int32) (v2 : Int32) : Option Int32 := Option.bind (f_X4_ways u) (fun r4 => if r4 ≤ v2 then some (1 : Int32) else Option.bind (f_X4_heldBy N v2 u) (fun r13 => if (v1 &&& (r13 ^^^ (-1 : Int32))) = (0 : Int32) then some (0 : Int32) else rec2 v1 (v2 + (1 : Int32))))
set_option maxRecDepth 20000 in
theorem go_X4_clashes_L2b (N : Nat) (u : xN) (rec2 : Int32 → Int32 → Option Int32) (h2 : ∀ (v1 : Int32) (v2 : Int32), xGm md_X4_clashes (rsI (xU u)) (rec2 v1 v2) 2 [(0, .ref 39), (1, .int v1), (2, .int v2)] [] (xU u)) (v1 : Int32) (v2 : Int32) : xGm md_X4_clashes (rsI (xU u)) (f_X4_clashes_L2b N u rec2 v1 v2) 2 [(0, .ref 39), (1, .int v1), (2, .int v2)] [] (xU u) := by
  unfold f_X4_clashes_L2b
  refine xm_blk0 (pc' := 4) (lv' := [(0, .ref 39), (1, .int v1), (2, .int v2)]) (st' := [.ref 39, .int v2]) (u' := (xU u)) [(.iload_n 2, (0, 0, 0), 0, 0), (.aload_n 0, (0, 0, 0), 0, 0)] (by decide +kernel) rfl ?_
  refine xm_Vi (pc := 4) (mz := md_X4_ways) (idx := 150) (p1 := 1020) (a := 39) (as := []) (st := [.int v2]) (ev_X4_ways u) mw_X4_ways (by decide +kernel) (by decide +kernel) (by decide) rfl rfl (by decide) rfl (Nat.le_of_ble_eq_true rfl) (fun r4 => ?_)
  refine xm_icmp_ge (pc := 7) (off := 23) (tgt := 30) (by decide +kernel) (by decide) ?_ ?_
  · refine xm_blk0 (pc' := 31) (lv' := [(0, .ref 39), (1, .int v1), (2, .int v2)]) (st' := [.int (1 : Int32)]) (u' := (xU u)) [(.iconst 1, (0, 0, 0), 1, 0)] (by decide +kernel) rfl ?_
    exact xm_zret0 (pc := 31) (by decide +kernel) rfl (by decide) rfl
  · refine xm_blk0 (pc' := 13) (lv' := [(0, .ref 39), (1, .int v1), (2, .int v2)]) (st' := [.int v2, .ref 39, .int v1]) (u' := (xU u)) [(.iload_n 1, (0, 0, 0), 0, 0), (.aload_n 0, (0, 0, 0), 0, 0), (.iload_n 2, (0, 0, 0), 0, 0)] (by decide +kernel) rfl ?_
    refine xm_Vi (pc := 13) (mz := md_X4_heldBy) (idx := 185) (p1 := 1145) (a := 39) (as := [.int v2]) (st := [.int v1]) (ev_X4_heldBy N v2 u) mw_X4_heldBy (by decide +kernel) (by decide +kernel) (by decide) rfl rfl (by decide) rfl (Nat.le_of_ble_eq_true rfl) (fun r13 => ?_)
    refine xm_blk0 (pc' := 19) (lv' := [(0, .ref 39), (1, .int v1), (2, .int v2)]) (st' := [.int (v1 &&& (r13 ^^^ (-1 : Int32)))]) (u' := (xU u)) [(.iconst (-1), (0, 0, 0), -1, 0), (.ixor, (0, 0, 0), 0, 0), (.iand, (0, 0, 0), 0, 0)] (by decide +kernel) rfl ?_
    refine xm_if_ne (pc := 19) (off := 5) (tgt := 24) (by decide +kernel) (by decide) ?_ ?_
    · refine xm_blk0 (pc' := 27) (lv' := [(0, .ref 39), (1, .int v1), (2, .int (v2 + (1 : Int32)))]) (st' := []) (u' := (xU u)) [(.iinc 2 1, (0, 0, 0), 1, 0)] (by decide +kernel) rfl ?_
      refine xm_goto (pc := 27) (off := -25) (tgt := 2) (by decide +kernel) (by decide) ?_
      exact h2 v1 (v2 + (1 : Int32))
    · refine xm_blk0 (pc' := 23) (lv' := [(0, .ref 39), (1, .int v1), (2, .int v2)]) (st' := [.int (0 : Int32)]) (u' := (xU u)) [(.iconst 0, (0, 0, 0), 0, 0)] (by decide +kernel) rfl ?_
      exact xm_zret0 (pc := 23) (by decide +kernel) rfl (by decide) rfl
def f_X4_clashes_L2 (N : Nat) (u : xN) : Nat → Int32 → Int32 → Option Int32
  | 0 => fun _ _ => none
  | n + 1 => fun v1 v2 => f_X4_clashes_L2b N u (f_X4_clashes_L2 N u n) v1 v2
theorem go_X4_clashes_L2 (N : Nat) (u : xN) : ∀ (n : Nat) (v1 : Int32) (v2 : Int32), xGm md_X4_clashes (rsI (xU u)) (f_X4_clashes_L2 N u n v1 v2) 2 [(0, .ref 39), (1, .int v1), (2, .int v2)] [] (xU u) := by
  intro n
  induction n with
  | zero => intro v1 v2; exact xm_none
  | succ n ih => intro v1 v2; exact go_X4_clashes_L2b N u _ ih v1 v2
def f_X4_clashes (N : Nat) (a1 : Int32) (u : xN) : Option Int32 := f_X4_clashes_L2 N u N a1 (0 : Int32)
set_option maxRecDepth 20000 in
theorem go_X4_clashes (N : Nat) (a1 : Int32) (u : xN) : xGm md_X4_clashes (rsI (xU u)) (f_X4_clashes N a1 u) 0 [(0, .ref 39), (1, .int a1)] [] (xU u) := by
  unfold f_X4_clashes
  refine xm_blk0 (pc' := 2) (lv' := [(0, .ref 39), (1, .int a1), (2, .int (0 : Int32))]) (st' := []) (u' := (xU u)) [(.iconst 0, (0, 0, 0), 0, 0), (.istore_n 2, (0, 0, 0), 0, 0)] (by decide +kernel) rfl ?_
  exact go_X4_clashes_L2 N u N a1 (0 : Int32)
theorem ev_X4_clashes (N : Nat) (a1 : Int32) (u : xN) : ∀ r, f_X4_clashes N a1 u = some r → xEm md_X4_clashes yX4_clashes [.ref 39, .int a1] (xU u) (some (.int r), (xU u)) := xm_met (res := (rsI (xU u))) (as := [.ref 39, .int a1]) (go_X4_clashes N a1 u) (by decide) rfl (Nat.le_of_ble_eq_true rfl)
theorem mw_X4_clash : xMv yX4_clash cX4_clash 2 (some .int) 1 := xMv_of (p1 := 1184) (p2 := 1182) (p3 := 97) (p4 := 1183) (by decide +kernel)
/-! NeitherBareModel.clash(I)I (39, None) -/
abbrev md_X4_clash : xMd := (cX4_clash, RX4, 2, some .int, 8)
def f_X4_clash_L45 (N : Nat) (u : xN) (t0 : Int32) : Option Int32 := some t0
set_option maxRecDepth 20000 in
theorem go_X4_clash_L45 (N : Nat) (u : xN) (t0 : Int32) : xGm md_X4_clash (rsI (xU u)) (f_X4_clash_L45 N u t0) 45 [] [.int t0] (xU u) := by
  unfold f_X4_clash_L45
  exact xm_iret (pc := 45) (by decide +kernel) rfl rfl
def f_X4_clash (N : Nat) (a1 : Int32) (u : xN) : Option Int32 := Option.bind (f_X4_in (Int32.toInt64 a1) (0 : Int64) (Int32.toInt64 (((1 : Int32) <<< ((u.1 39 3) &&& 31)) - (1 : Int32)))) (fun r12 => if r12 = (0 : Int32) then some (-1 : Int32) else if (u.1 39 1) = (0 : Int32) then f_X4_clash_L45 N u (-4 : Int32) else Option.bind (f_X4_clashes N a1 u) (fun r34 => if r34 = (0 : Int32) then f_X4_clash_L45 N u (0 : Int32) else f_X4_clash_L45 N u (1 : Int32)))
set_option maxRecDepth 20000 in
theorem go_X4_clash (N : Nat) (a1 : Int32) (u : xN) : xGm md_X4_clash (rsI (xU u)) (f_X4_clash N a1 u) 0 [(0, .ref 39), (1, .int a1)] [] (xU u) := by
  unfold f_X4_clash
  refine xm_blk0 (pc' := 12) (lv' := [(0, .ref 39), (1, .int a1)]) (st' := [.long (Int32.toInt64 (((1 : Int32) <<< ((u.1 39 3) &&& 31)) - (1 : Int32))), .long (0 : Int64), .long (Int32.toInt64 a1)]) (u' := (xU u)) [(.iload_n 1, (0, 0, 0), 0, 0), (.i2l, (0, 0, 0), 0, 0), (.lconst 0, (0, 0, 0), 0, 0), (.iconst 1, (0, 0, 0), 1, 0), (.aload_n 0, (0, 0, 0), 0, 0), (.getfield 60, (4, 3, 823), 0, 0), (.ishl, (0, 0, 0), 0, 0), (.iconst 1, (0, 0, 0), 1, 0), (.isub, (0, 0, 0), 0, 0), (.i2l, (0, 0, 0), 0, 0)] (by decide +kernel) rfl ?_
  refine xm_Si (pc := 12) (mz := md_X4_in) (idx := 72) (p1 := 905) (as := [.long (Int32.toInt64 a1), .long (0 : Int64), .long (Int32.toInt64 (((1 : Int32) <<< ((u.1 39 3) &&& 31)) - (1 : Int32)))]) (st := []) (ev_X4_in (Int32.toInt64 a1) (0 : Int64) (Int32.toInt64 (((1 : Int32) <<< ((u.1 39 3) &&& 31)) - (1 : Int32))) u) mw_X4_in (by decide +kernel) (by decide +kernel) (by decide) rfl (Nat.le_of_ble_eq_true rfl) (fun r12 => ?_)
  refine xm_if_ne (pc := 15) (off := 5) (tgt := 20) (by decide +kernel) (by decide) ?_ ?_
  · refine xm_blk0 (pc' := 24) (lv' := [(0, .ref 39), (1, .int a1)]) (st' := [.int (u.1 39 1)]) (u' := (xU u)) [(.aload_n 0, (0, 0, 0), 0, 0), (.getfield 147, (4, 1, 821), 0, 0)] (by decide +kernel) rfl ?_
    refine xm_if_ne (pc := 24) (off := 8) (tgt := 32) (by decide +kernel) (by decide) ?_ ?_
    · refine xm_blk0 (pc' := 34) (lv' := [(0, .ref 39), (1, .int a1)]) (st' := [.int a1, .ref 39]) (u' := (xU u)) [(.aload_n 0, (0, 0, 0), 0, 0), (.iload_n 1, (0, 0, 0), 0, 0)] (by decide +kernel) rfl ?_
      refine xm_Vi (pc := 34) (mz := md_X4_clashes) (idx := 245) (p1 := 1185) (a := 39) (as := [.int a1]) (st := []) (ev_X4_clashes N a1 u) mw_X4_clashes (by decide +kernel) (by decide +kernel) (by decide) rfl rfl (by decide) rfl (Nat.le_of_ble_eq_true rfl) (fun r34 => ?_)
      refine xm_if_eq (pc := 37) (off := 7) (tgt := 44) (by decide +kernel) (by decide) ?_ ?_
      · refine xm_blk0 (pc' := 45) (lv' := [(0, .ref 39), (1, .int a1)]) (st' := [.int (0 : Int32)]) (u' := (xU u)) [(.iconst 0, (0, 0, 0), 0, 0)] (by decide +kernel) rfl ?_
        refine xm_wk [] (lv' := []) rfl ?_
        exact go_X4_clash_L45 N u (0 : Int32)
      · refine xm_blk0 (pc' := 41) (lv' := [(0, .ref 39), (1, .int a1)]) (st' := [.int (1 : Int32)]) (u' := (xU u)) [(.iconst 1, (0, 0, 0), 1, 0)] (by decide +kernel) rfl ?_
        refine xm_goto (pc := 41) (off := 4) (tgt := 45) (by decide +kernel) (by decide) ?_
        refine xm_wk [] (lv' := []) rfl ?_
        exact go_X4_clash_L45 N u (1 : Int32)
    · refine xm_blk0 (pc' := 29) (lv' := [(0, .ref 39), (1, .int a1)]) (st' := [.int (-4 : Int32)]) (u' := (xU u)) [(.bipush (-4), (0, 0, 0), -4, 0)] (by decide +kernel) rfl ?_
      refine xm_goto (pc := 29) (off := 16) (tgt := 45) (by decide +kernel) (by decide) ?_
      refine xm_wk [] (lv' := []) rfl ?_
      exact go_X4_clash_L45 N u (-4 : Int32)
  · refine xm_blk0 (pc' := 19) (lv' := [(0, .ref 39), (1, .int a1)]) (st' := [.int (-1 : Int32)]) (u' := (xU u)) [(.iconst (-1), (0, 0, 0), -1, 0)] (by decide +kernel) rfl ?_
    exact xm_iret (pc := 19) (by decide +kernel) rfl rfl
theorem ev_X4_clash (N : Nat) (a1 : Int32) (u : xN) : ∀ r, f_X4_clash N a1 u = some r → xEm md_X4_clash yX4_clash [.ref 39, .int a1] (xU u) (some (.int r), (xU u)) := xm_met (res := (rsI (xU u))) (as := [.ref 39, .int a1]) (go_X4_clash N a1 u) (by decide) rfl (Nat.le_of_ble_eq_true rfl)
theorem mw_X4_two : xMv yX4_two cX4_two 5 (some .int) 0 := xMv_of (p1 := 1192) (p2 := 1190) (p3 := 97) (p4 := 1191) (by decide +kernel)
/-! NeitherBareModel.two()I (39,) -/
abbrev md_X4_two : xMd := (cX4_two, RX4, 5, some .int, 8)
def f_X4_two_L76 (N : Nat) (rec17 : Int32 → Int32 → Int32 → xN → Option (Int32 × xN)) (v2 : Int32) (v3 : Int32) (t0 : Int32) (t1 : Int32) (u : xN) : Option (Int32 × xN) := rec17 (t1 + t0) v2 (v3 + (1 : Int32)) u
set_option maxRecDepth 20000 in
theorem go_X4_two_L76 (N : Nat) (rec17 : Int32 → Int32 → Int32 → xN → Option (Int32 × xN)) (h17 : ∀ (v1 : Int32) (v2 : Int32) (v3 : Int32) (u : xN), xGm md_X4_two rsM (rec17 v1 v2 v3 u) 17 [(0, .ref 39), (1, .int v1), (2, .int v2), (3, .int v3)] [] (xU u)) (v2 : Int32) (v3 : Int32) (t0 : Int32) (t1 : Int32) (u : xN) : xGm md_X4_two rsM (f_X4_two_L76 N rec17 v2 v3 t0 t1 u) 76 [(0, .ref 39), (2, .int v2), (3, .int v3)] [.int t0, .int t1] (xU u) := by
  unfold f_X4_two_L76
  refine xm_blk0 (pc' := 81) (lv' := [(0, .ref 39), (1, .int (t1 + t0)), (2, .int v2), (3, .int (v3 + (1 : Int32)))]) (st' := []) (u' := (xU u)) [(.iadd, (0, 0, 0), 0, 0), (.istore_n 1, (0, 0, 0), 0, 0), (.iinc 3 1, (0, 0, 0), 1, 0)] (by decide +kernel) rfl ?_
  refine xm_goto (pc := 81) (off := -64) (tgt := 17) (by decide +kernel) (by decide) ?_
  exact h17 (t1 + t0) v2 (v3 + (1 : Int32)) u
def f_X4_two_L64 (N : Nat) (rec17 : Int32 → Int32 → Int32 → xN → Option (Int32 × xN)) (v1 : Int32) (v3 : Int32) (v4 : Int32) (t0 : Int32) (u : xN) : Option (Int32 × xN) := if v4 = (0 : Int32) then f_X4_two_L76 N rec17 t0 v3 (0 : Int32) v1 u else f_X4_two_L76 N rec17 t0 v3 (1 : Int32) v1 u
set_option maxRecDepth 20000 in
theorem go_X4_two_L64 (N : Nat) (rec17 : Int32 → Int32 → Int32 → xN → Option (Int32 × xN)) (h17 : ∀ (v1 : Int32) (v2 : Int32) (v3 : Int32) (u : xN), xGm md_X4_two rsM (rec17 v1 v2 v3 u) 17 [(0, .ref 39), (1, .int v1), (2, .int v2), (3, .int v3)] [] (xU u)) (v1 : Int32) (v3 : Int32) (v4 : Int32) (t0 : Int32) (u : xN) : xGm md_X4_two rsM (f_X4_two_L64 N rec17 v1 v3 v4 t0 u) 64 [(0, .ref 39), (1, .int v1), (3, .int v3), (4, .int v4)] [.int t0] (xU u) := by
  unfold f_X4_two_L64
  refine xm_blk0 (pc' := 68) (lv' := [(0, .ref 39), (1, .int v1), (2, .int t0), (3, .int v3), (4, .int v4)]) (st' := [.int v4, .int v1]) (u' := (xU u)) [(.istore_n 2, (0, 0, 0), 0, 0), (.iload_n 1, (0, 0, 0), 0, 0), (.iload 4, (0, 0, 0), 0, 0)] (by decide +kernel) rfl ?_
  refine xm_if_eq (pc := 68) (off := 7) (tgt := 75) (by decide +kernel) (by decide) ?_ ?_
  · refine xm_blk0 (pc' := 76) (lv' := [(0, .ref 39), (1, .int v1), (2, .int t0), (3, .int v3), (4, .int v4)]) (st' := [.int (0 : Int32), .int v1]) (u' := (xU u)) [(.iconst 0, (0, 0, 0), 0, 0)] (by decide +kernel) rfl ?_
    refine xm_wk [0, 2, 3] (lv' := [(0, .ref 39), (2, .int t0), (3, .int v3)]) rfl ?_
    exact go_X4_two_L76 N rec17 h17 t0 v3 (0 : Int32) v1 u
  · refine xm_blk0 (pc' := 72) (lv' := [(0, .ref 39), (1, .int v1), (2, .int t0), (3, .int v3), (4, .int v4)]) (st' := [.int (1 : Int32), .int v1]) (u' := (xU u)) [(.iconst 1, (0, 0, 0), 1, 0)] (by decide +kernel) rfl ?_
    refine xm_goto (pc := 72) (off := 4) (tgt := 76) (by decide +kernel) (by decide) ?_
    refine xm_wk [0, 2, 3] (lv' := [(0, .ref 39), (2, .int t0), (3, .int v3)]) rfl ?_
    exact go_X4_two_L76 N rec17 h17 t0 v3 (1 : Int32) v1 u
def f_X4_two_L63 (N : Nat) (rec17 : Int32 → Int32 → Int32 → xN → Option (Int32 × xN)) (v1 : Int32) (v2 : Int32) (v3 : Int32) (v4 : Int32) (u : xN) : Option (Int32 × xN) := f_X4_two_L64 N rec17 v1 v3 v4 v2 u
set_option maxRecDepth 20000 in
theorem go_X4_two_L63 (N : Nat) (rec17 : Int32 → Int32 → Int32 → xN → Option (Int32 × xN)) (h17 : ∀ (v1 : Int32) (v2 : Int32) (v3 : Int32) (u : xN), xGm md_X4_two rsM (rec17 v1 v2 v3 u) 17 [(0, .ref 39), (1, .int v1), (2, .int v2), (3, .int v3)] [] (xU u)) (v1 : Int32) (v2 : Int32) (v3 : Int32) (v4 : Int32) (u : xN) : xGm md_X4_two rsM (f_X4_two_L63 N rec17 v1 v2 v3 v4 u) 63 [(0, .ref 39), (1, .int v1), (2, .int v2), (3, .int v3), (4, .int v4)] [] (xU u) := by
  unfold f_X4_two_L63
  refine xm_blk0 (pc' := 64) (lv' := [(0, .ref 39), (1, .int v1), (2, .int v2), (3, .int v3), (4, .int v4)]) (st' := [.int v2]) (u' := (xU u)) [(.iload_n 2, (0, 0, 0), 0, 0)] (by decide +kernel) rfl ?_
  refine xm_wk [0, 1, 3, 4] (lv' := [(0, .ref 39), (1, .int v1), (3, .int v3), (4, .int v4)]) rfl ?_
  exact go_X4_two_L64 N rec17 h17 v1 v3 v4 v2 u
def f_X4_two_L48 (N : Nat) (rec17 : Int32 → Int32 → Int32 → xN → Option (Int32 × xN)) (v1 : Int32) (v2 : Int32) (v3 : Int32) (t0 : Int32) (u : xN) : Option (Int32 × xN) := if t0 = (0 : Int32) then f_X4_two_L63 N rec17 v1 v2 v3 t0 u else if v1 = (0 : Int32) then f_X4_two_L64 N rec17 v1 v3 t0 v3 u else f_X4_two_L63 N rec17 v1 v2 v3 t0 u
set_option maxRecDepth 20000 in
theorem go_X4_two_L48 (N : Nat) (rec17 : Int32 → Int32 → Int32 → xN → Option (Int32 × xN)) (h17 : ∀ (v1 : Int32) (v2 : Int32) (v3 : Int32) (u : xN), xGm md_X4_two rsM (rec17 v1 v2 v3 u) 17 [(0, .ref 39), (1, .int v1), (2, .int v2), (3, .int v3)] [] (xU u)) (v1 : Int32) (v2 : Int32) (v3 : Int32) (t0 : Int32) (u : xN) : xGm md_X4_two rsM (f_X4_two_L48 N rec17 v1 v2 v3 t0 u) 48 [(0, .ref 39), (1, .int v1), (2, .int v2), (3, .int v3)] [.int t0] (xU u) := by
  unfold f_X4_two_L48
  refine xm_blk0 (pc' := 52) (lv' := [(0, .ref 39), (1, .int v1), (2, .int v2), (3, .int v3), (4, .int t0)]) (st' := [.int t0]) (u' := (xU u)) [(.istore 4, (0, 0, 0), 0, 0), (.iload 4, (0, 0, 0), 0, 0)] (by decide +kernel) rfl ?_
  refine xm_if_eq (pc := 52) (off := 11) (tgt := 63) (by decide +kernel) (by decide) ?_ ?_
  · exact go_X4_two_L63 N rec17 h17 v1 v2 v3 t0 u
  · refine xm_blk0 (pc' := 56) (lv' := [(0, .ref 39), (1, .int v1), (2, .int v2), (3, .int v3), (4, .int t0)]) (st' := [.int v1]) (u' := (xU u)) [(.iload_n 1, (0, 0, 0), 0, 0)] (by decide +kernel) rfl ?_
    refine xm_if_ne (pc := 56) (off := 7) (tgt := 63) (by decide +kernel) (by decide) ?_ ?_
    · exact go_X4_two_L63 N rec17 h17 v1 v2 v3 t0 u
    · refine xm_blk0 (pc' := 60) (lv' := [(0, .ref 39), (1, .int v1), (2, .int v2), (3, .int v3), (4, .int t0)]) (st' := [.int v3]) (u' := (xU u)) [(.iload_n 3, (0, 0, 0), 0, 0)] (by decide +kernel) rfl ?_
      refine xm_goto (pc := 60) (off := 4) (tgt := 64) (by decide +kernel) (by decide) ?_
      refine xm_wk [0, 1, 3, 4] (lv' := [(0, .ref 39), (1, .int v1), (3, .int v3), (4, .int t0)]) rfl ?_
      exact go_X4_two_L64 N rec17 h17 v1 v3 t0 v3 u
def f_X4_two_L47 (N : Nat) (rec17 : Int32 → Int32 → Int32 → xN → Option (Int32 × xN)) (v1 : Int32) (v2 : Int32) (v3 : Int32) (u : xN) : Option (Int32 × xN) := f_X4_two_L48 N rec17 v1 v2 v3 (0 : Int32) u
set_option maxRecDepth 20000 in
theorem go_X4_two_L47 (N : Nat) (rec17 : Int32 → Int32 → Int32 → xN → Option (Int32 × xN)) (h17 : ∀ (v1 : Int32) (v2 : Int32) (v3 : Int32) (u : xN), xGm md_X4_two rsM (rec17 v1 v2 v3 u) 17 [(0, .ref 39), (1, .int v1), (2, .int v2), (3, .int v3)] [] (xU u)) (v1 : Int32) (v2 : Int32) (v3 : Int32) (u : xN) : xGm md_X4_two rsM (f_X4_two_L47 N rec17 v1 v2 v3 u) 47 [(0, .ref 39), (1, .int v1), (2, .int v2), (3, .int v3)] [] (xU u) := by
  unfold f_X4_two_L47
  refine xm_blk0 (pc' := 48) (lv' := [(0, .ref 39), (1, .int v1), (2, .int v2), (3, .int v3)]) (st' := [.int (0 : Int32)]) (u' := (xU u)) [(.iconst 0, (0, 0, 0), 0, 0)] (by decide +kernel) rfl ?_
  exact go_X4_two_L48 N rec17 h17 v1 v2 v3 (0 : Int32) u
def f_X4_two_L17b (N : Nat) (rec17 : Int32 → Int32 → Int32 → xN → Option (Int32 × xN)) (v1 : Int32) (v2 : Int32) (v3 : Int32) (u : xN) : Option (Int32 × xN) := if ((1 : Int32) <<< ((u.1 39 3) &&& 31)) ≤ v3 then some (v2, mI u 39 11 v1) else Option.bind (f_X4_bits N v3) (fun r28 => if (3 : Int32) ≤ r28 then f_X4_two_L47 N rec17 v1 v2 v3 u else Option.bind (f_X4_clashes N v3 u) (fun r37 => if r37 = (0 : Int32) then f_X4_two_L47 N rec17 v1 v2 v3 u else f_X4_two_L48 N rec17 v1 v2 v3 (1 : Int32) u))
set_option maxRecDepth 20000 in
theorem go_X4_two_L17b (N : Nat) (rec17 : Int32 → Int32 → Int32 → xN → Option (Int32 × xN)) (h17 : ∀ (v1 : Int32) (v2 : Int32) (v3 : Int32) (u : xN), xGm md_X4_two rsM (rec17 v1 v2 v3 u) 17 [(0, .ref 39), (1, .int v1), (2, .int v2), (3, .int v3)] [] (xU u)) (v1 : Int32) (v2 : Int32) (v3 : Int32) (u : xN) : xGm md_X4_two rsM (f_X4_two_L17b N rec17 v1 v2 v3 u) 17 [(0, .ref 39), (1, .int v1), (2, .int v2), (3, .int v3)] [] (xU u) := by
  unfold f_X4_two_L17b
  refine xm_blk0 (pc' := 24) (lv' := [(0, .ref 39), (1, .int v1), (2, .int v2), (3, .int v3)]) (st' := [.int ((1 : Int32) <<< ((u.1 39 3) &&& 31)), .int v3]) (u' := (xU u)) [(.iload_n 3, (0, 0, 0), 0, 0), (.iconst 1, (0, 0, 0), 1, 0), (.aload_n 0, (0, 0, 0), 0, 0), (.getfield 60, (4, 3, 823), 0, 0), (.ishl, (0, 0, 0), 0, 0)] (by decide +kernel) rfl ?_
  refine xm_icmp_ge (pc := 24) (off := 60) (tgt := 84) (by decide +kernel) (by decide) ?_ ?_
  · refine xm_blk0 (pc' := 90) (lv' := [(0, .ref 39), (1, .int v1), (2, .int v2), (3, .int v3)]) (st' := [.int v2]) (u' := (xU (mI u 39 11 v1))) [(.aload_n 0, (0, 0, 0), 0, 0), (.iload_n 1, (0, 0, 0), 0, 0), (.putfield 67, (4, 11, 831), 0, 0), (.iload_n 2, (0, 0, 0), 0, 0)] (by decide +kernel) rfl ?_
    exact xm_iret (pc := 90) (by decide +kernel) rfl rfl
  · refine xm_blk0 (pc' := 28) (lv' := [(0, .ref 39), (1, .int v1), (2, .int v2), (3, .int v3)]) (st' := [.int v3]) (u' := (xU u)) [(.iload_n 3, (0, 0, 0), 0, 0)] (by decide +kernel) rfl ?_
    refine xm_Si (pc := 28) (mz := md_X4_bits) (idx := 215) (p1 := 1090) (as := [.int v3]) (st := []) (ev_X4_bits N v3 u) mw_X4_bits (by decide +kernel) (by decide +kernel) (by decide) rfl (Nat.le_of_ble_eq_true rfl) (fun r28 => ?_)
    refine xm_blk0 (pc' := 32) (lv' := [(0, .ref 39), (1, .int v1), (2, .int v2), (3, .int v3)]) (st' := [.int (3 : Int32), .int r28]) (u' := (xU u)) [(.iconst 3, (0, 0, 0), 3, 0)] (by decide +kernel) rfl ?_
    refine xm_icmp_ge (pc := 32) (off := 15) (tgt := 47) (by decide +kernel) (by decide) ?_ ?_
    · exact go_X4_two_L47 N rec17 h17 v1 v2 v3 u
    · refine xm_blk0 (pc' := 37) (lv' := [(0, .ref 39), (1, .int v1), (2, .int v2), (3, .int v3)]) (st' := [.int v3, .ref 39]) (u' := (xU u)) [(.aload_n 0, (0, 0, 0), 0, 0), (.iload_n 3, (0, 0, 0), 0, 0)] (by decide +kernel) rfl ?_
      refine xm_Vi (pc := 37) (mz := md_X4_clashes) (idx := 245) (p1 := 1185) (a := 39) (as := [.int v3]) (st := []) (ev_X4_clashes N v3 u) mw_X4_clashes (by decide +kernel) (by decide +kernel) (by decide) rfl rfl (by decide) rfl (Nat.le_of_ble_eq_true rfl) (fun r37 => ?_)
      refine xm_if_eq (pc := 40) (off := 7) (tgt := 47) (by decide +kernel) (by decide) ?_ ?_
      · exact go_X4_two_L47 N rec17 h17 v1 v2 v3 u
      · refine xm_blk0 (pc' := 44) (lv' := [(0, .ref 39), (1, .int v1), (2, .int v2), (3, .int v3)]) (st' := [.int (1 : Int32)]) (u' := (xU u)) [(.iconst 1, (0, 0, 0), 1, 0)] (by decide +kernel) rfl ?_
        refine xm_goto (pc := 44) (off := 4) (tgt := 48) (by decide +kernel) (by decide) ?_
        exact go_X4_two_L48 N rec17 h17 v1 v2 v3 (1 : Int32) u
def f_X4_two_L17 (N : Nat) : Nat → Int32 → Int32 → Int32 → xN → Option (Int32 × xN)
  | 0 => fun _ _ _ _ => none
  | n + 1 => fun v1 v2 v3 u => f_X4_two_L17b N (f_X4_two_L17 N n) v1 v2 v3 u
theorem go_X4_two_L17 (N : Nat) : ∀ (n : Nat) (v1 : Int32) (v2 : Int32) (v3 : Int32) (u : xN), xGm md_X4_two rsM (f_X4_two_L17 N n v1 v2 v3 u) 17 [(0, .ref 39), (1, .int v1), (2, .int v2), (3, .int v3)] [] (xU u) := by
  intro n
  induction n with
  | zero => intro v1 v2 v3 u; exact xm_none
  | succ n ih => intro v1 v2 v3 u; exact go_X4_two_L17b N _ ih v1 v2 v3 u
def f_X4_two (N : Nat) (u : xN) : Option (Int32 × xN) := if (u.1 39 1) = (0 : Int32) then some ((-4 : Int32), u) else f_X4_two_L17 N N (0 : Int32) (-9 : Int32) (1 : Int32) u
set_option maxRecDepth 20000 in
theorem go_X4_two (N : Nat) (u : xN) : xGm md_X4_two rsM (f_X4_two N u) 0 [(0, .ref 39)] [] (xU u) := by
  unfold f_X4_two
  refine xm_blk0 (pc' := 4) (lv' := [(0, .ref 39)]) (st' := [.int (u.1 39 1)]) (u' := (xU u)) [(.aload_n 0, (0, 0, 0), 0, 0), (.getfield 147, (4, 1, 821), 0, 0)] (by decide +kernel) rfl ?_
  refine xm_if_ne (pc := 4) (off := 6) (tgt := 10) (by decide +kernel) (by decide) ?_ ?_
  · refine xm_blk0 (pc' := 17) (lv' := [(0, .ref 39), (1, .int (0 : Int32)), (2, .int (-9 : Int32)), (3, .int (1 : Int32))]) (st' := []) (u' := (xU u)) [(.iconst 0, (0, 0, 0), 0, 0), (.istore_n 1, (0, 0, 0), 0, 0), (.bipush (-9), (0, 0, 0), -9, 0), (.istore_n 2, (0, 0, 0), 0, 0), (.iconst 1, (0, 0, 0), 1, 0), (.istore_n 3, (0, 0, 0), 0, 0)] (by decide +kernel) rfl ?_
    exact go_X4_two_L17 N N (0 : Int32) (-9 : Int32) (1 : Int32) u
  · refine xm_blk0 (pc' := 9) (lv' := [(0, .ref 39)]) (st' := [.int (-4 : Int32)]) (u' := (xU u)) [(.bipush (-4), (0, 0, 0), -4, 0)] (by decide +kernel) rfl ?_
    exact xm_iret (pc := 9) (by decide +kernel) rfl rfl
theorem ev_X4_two (N : Nat) (u : xN) : ∀ r, f_X4_two N u = some r → xEm md_X4_two yX4_two [.ref 39] (xU u) (some (.int r.1), xU r.2) := xm_met (res := rsM) (as := [.ref 39]) (go_X4_two N u) (by decide) rfl (Nat.le_of_ble_eq_true rfl)
theorem mw_X4_least : xMv yX4_least cX4_least 4 (some .int) 0 := xMv_of (p1 := 1196) (p2 := 1194) (p3 := 97) (p4 := 1195) (by decide +kernel)
/-! NeitherBareModel.least()I (39,) -/
abbrev md_X4_least : xMd := (cX4_least, RX4, 4, some .int, 8)
def f_X4_least_L65 (N : Nat) (rec15 : Int32 → Int32 → xN → Option (Int32 × xN)) (v2 : Int32) (t0 : Int32) (u : xN) : Option (Int32 × xN) := rec15 t0 (v2 + (1 : Int32)) u
set_option maxRecDepth 20000 in
theorem go_X4_least_L65 (N : Nat) (rec15 : Int32 → Int32 → xN → Option (Int32 × xN)) (h15 : ∀ (v1 : Int32) (v2 : Int32) (u : xN), xGm md_X4_least rsM (rec15 v1 v2 u) 15 [(0, .ref 39), (1, .int v1), (2, .int v2)] [] (xU u)) (v2 : Int32) (t0 : Int32) (u : xN) : xGm md_X4_least rsM (f_X4_least_L65 N rec15 v2 t0 u) 65 [(0, .ref 39), (2, .int v2)] [.int t0] (xU u) := by
  unfold f_X4_least_L65
  refine xm_blk0 (pc' := 69) (lv' := [(0, .ref 39), (1, .int t0), (2, .int (v2 + (1 : Int32)))]) (st' := []) (u' := (xU u)) [(.istore_n 1, (0, 0, 0), 0, 0), (.iinc 2 1, (0, 0, 0), 1, 0)] (by decide +kernel) rfl ?_
  refine xm_goto (pc := 69) (off := -54) (tgt := 15) (by decide +kernel) (by decide) ?_
  exact h15 t0 (v2 + (1 : Int32)) u
def f_X4_least_L64 (N : Nat) (rec15 : Int32 → Int32 → xN → Option (Int32 × xN)) (v1 : Int32) (v2 : Int32) (u : xN) : Option (Int32 × xN) := f_X4_least_L65 N rec15 v2 v1 u
set_option maxRecDepth 20000 in
theorem go_X4_least_L64 (N : Nat) (rec15 : Int32 → Int32 → xN → Option (Int32 × xN)) (h15 : ∀ (v1 : Int32) (v2 : Int32) (u : xN), xGm md_X4_least rsM (rec15 v1 v2 u) 15 [(0, .ref 39), (1, .int v1), (2, .int v2)] [] (xU u)) (v1 : Int32) (v2 : Int32) (u : xN) : xGm md_X4_least rsM (f_X4_least_L64 N rec15 v1 v2 u) 64 [(0, .ref 39), (1, .int v1), (2, .int v2)] [] (xU u) := by
  unfold f_X4_least_L64
  refine xm_blk0 (pc' := 65) (lv' := [(0, .ref 39), (1, .int v1), (2, .int v2)]) (st' := [.int v1]) (u' := (xU u)) [(.iload_n 1, (0, 0, 0), 0, 0)] (by decide +kernel) rfl ?_
  refine xm_wk [0, 2] (lv' := [(0, .ref 39), (2, .int v2)]) rfl ?_
  exact go_X4_least_L65 N rec15 h15 v2 v1 u
def f_X4_least_L47 (N : Nat) (rec15 : Int32 → Int32 → xN → Option (Int32 × xN)) (v1 : Int32) (v2 : Int32) (t0 : Int32) (u : xN) : Option (Int32 × xN) := if t0 = (0 : Int32) then f_X4_least_L64 N rec15 v1 v2 u else Option.bind (f_X4_clashes N v2 u) (fun r54 => if r54 = (0 : Int32) then f_X4_least_L64 N rec15 v1 v2 u else f_X4_least_L65 N rec15 v2 v2 u)
set_option maxRecDepth 20000 in
theorem go_X4_least_L47 (N : Nat) (rec15 : Int32 → Int32 → xN → Option (Int32 × xN)) (h15 : ∀ (v1 : Int32) (v2 : Int32) (u : xN), xGm md_X4_least rsM (rec15 v1 v2 u) 15 [(0, .ref 39), (1, .int v1), (2, .int v2)] [] (xU u)) (v1 : Int32) (v2 : Int32) (t0 : Int32) (u : xN) : xGm md_X4_least rsM (f_X4_least_L47 N rec15 v1 v2 t0 u) 47 [(0, .ref 39), (1, .int v1), (2, .int v2)] [.int t0] (xU u) := by
  unfold f_X4_least_L47
  refine xm_blk0 (pc' := 49) (lv' := [(0, .ref 39), (1, .int v1), (2, .int v2), (3, .int t0)]) (st' := [.int t0]) (u' := (xU u)) [(.istore_n 3, (0, 0, 0), 0, 0), (.iload_n 3, (0, 0, 0), 0, 0)] (by decide +kernel) rfl ?_
  refine xm_if_eq (pc := 49) (off := 15) (tgt := 64) (by decide +kernel) (by decide) ?_ ?_
  · refine xm_wk [0, 1, 2] (lv' := [(0, .ref 39), (1, .int v1), (2, .int v2)]) rfl ?_
    exact go_X4_least_L64 N rec15 h15 v1 v2 u
  · refine xm_blk0 (pc' := 54) (lv' := [(0, .ref 39), (1, .int v1), (2, .int v2), (3, .int t0)]) (st' := [.int v2, .ref 39]) (u' := (xU u)) [(.aload_n 0, (0, 0, 0), 0, 0), (.iload_n 2, (0, 0, 0), 0, 0)] (by decide +kernel) rfl ?_
    refine xm_Vi (pc := 54) (mz := md_X4_clashes) (idx := 245) (p1 := 1185) (a := 39) (as := [.int v2]) (st := []) (ev_X4_clashes N v2 u) mw_X4_clashes (by decide +kernel) (by decide +kernel) (by decide) rfl rfl (by decide) rfl (Nat.le_of_ble_eq_true rfl) (fun r54 => ?_)
    refine xm_if_eq (pc := 57) (off := 7) (tgt := 64) (by decide +kernel) (by decide) ?_ ?_
    · refine xm_wk [0, 1, 2] (lv' := [(0, .ref 39), (1, .int v1), (2, .int v2)]) rfl ?_
      exact go_X4_least_L64 N rec15 h15 v1 v2 u
    · refine xm_blk0 (pc' := 61) (lv' := [(0, .ref 39), (1, .int v1), (2, .int v2), (3, .int t0)]) (st' := [.int v2]) (u' := (xU u)) [(.iload_n 2, (0, 0, 0), 0, 0)] (by decide +kernel) rfl ?_
      refine xm_goto (pc := 61) (off := 4) (tgt := 65) (by decide +kernel) (by decide) ?_
      refine xm_wk [0, 2] (lv' := [(0, .ref 39), (2, .int v2)]) rfl ?_
      exact go_X4_least_L65 N rec15 h15 v2 v2 u
def f_X4_least_L42 (N : Nat) (rec15 : Int32 → Int32 → xN → Option (Int32 × xN)) (v1 : Int32) (v2 : Int32) (u : xN) : Option (Int32 × xN) := f_X4_least_L47 N rec15 v1 v2 (1 : Int32) u
set_option maxRecDepth 20000 in
theorem go_X4_least_L42 (N : Nat) (rec15 : Int32 → Int32 → xN → Option (Int32 × xN)) (h15 : ∀ (v1 : Int32) (v2 : Int32) (u : xN), xGm md_X4_least rsM (rec15 v1 v2 u) 15 [(0, .ref 39), (1, .int v1), (2, .int v2)] [] (xU u)) (v1 : Int32) (v2 : Int32) (u : xN) : xGm md_X4_least rsM (f_X4_least_L42 N rec15 v1 v2 u) 42 [(0, .ref 39), (1, .int v1), (2, .int v2)] [] (xU u) := by
  unfold f_X4_least_L42
  refine xm_blk0 (pc' := 43) (lv' := [(0, .ref 39), (1, .int v1), (2, .int v2)]) (st' := [.int (1 : Int32)]) (u' := (xU u)) [(.iconst 1, (0, 0, 0), 1, 0)] (by decide +kernel) rfl ?_
  refine xm_goto (pc := 43) (off := 4) (tgt := 47) (by decide +kernel) (by decide) ?_
  exact go_X4_least_L47 N rec15 h15 v1 v2 (1 : Int32) u
def f_X4_least_L105 (N : Nat) (t0 : Int32) (u : xN) : Option (Int32 × xN) := some (t0, u)
set_option maxRecDepth 20000 in
theorem go_X4_least_L105 (N : Nat) (t0 : Int32) (u : xN) : xGm md_X4_least rsM (f_X4_least_L105 N t0 u) 105 [] [.int t0] (xU u) := by
  unfold f_X4_least_L105
  exact xm_iret (pc := 105) (by decide +kernel) rfl rfl
def f_X4_least_L87 (N : Nat) (v1 : Int32) (t0 : Int32) (u : xN) : Option (Int32 × xN) := if v1 = (-9 : Int32) then f_X4_least_L105 N (-9 : Int32) (mI u 39 11 t0) else Option.bind (f_X4_bits N v1) (fun r102 => f_X4_least_L105 N r102 (mI u 39 11 t0))
set_option maxRecDepth 20000 in
theorem go_X4_least_L87 (N : Nat) (v1 : Int32) (t0 : Int32) (u : xN) : xGm md_X4_least rsM (f_X4_least_L87 N v1 t0 u) 87 [(1, .int v1)] [.int t0, .ref 39] (xU u) := by
  unfold f_X4_least_L87
  refine xm_blk0 (pc' := 93) (lv' := [(1, .int v1)]) (st' := [.int (-9 : Int32), .int v1]) (u' := (xU (mI u 39 11 t0))) [(.putfield 67, (4, 11, 831), 0, 0), (.iload_n 1, (0, 0, 0), 0, 0), (.bipush (-9), (0, 0, 0), -9, 0)] (by decide +kernel) rfl ?_
  refine xm_icmp_ne (pc := 93) (off := 8) (tgt := 101) (by decide +kernel) (by decide) ?_ ?_
  · refine xm_blk0 (pc' := 102) (lv' := [(1, .int v1)]) (st' := [.int v1]) (u' := (xU (mI u 39 11 t0))) [(.iload_n 1, (0, 0, 0), 0, 0)] (by decide +kernel) rfl ?_
    refine xm_Si (pc := 102) (mz := md_X4_bits) (idx := 215) (p1 := 1090) (as := [.int v1]) (st := []) (ev_X4_bits N v1 (mI u 39 11 t0)) mw_X4_bits (by decide +kernel) (by decide +kernel) (by decide) rfl (Nat.le_of_ble_eq_true rfl) (fun r102 => ?_)
    refine xm_wk [] (lv' := []) rfl ?_
    exact go_X4_least_L105 N r102 (mI u 39 11 t0)
  · refine xm_blk0 (pc' := 98) (lv' := [(1, .int v1)]) (st' := [.int (-9 : Int32)]) (u' := (xU (mI u 39 11 t0))) [(.bipush (-9), (0, 0, 0), -9, 0)] (by decide +kernel) rfl ?_
    refine xm_goto (pc := 98) (off := 7) (tgt := 105) (by decide +kernel) (by decide) ?_
    refine xm_wk [] (lv' := []) rfl ?_
    exact go_X4_least_L105 N (-9 : Int32) (mI u 39 11 t0)
def f_X4_least_L15b (N : Nat) (rec15 : Int32 → Int32 → xN → Option (Int32 × xN)) (v1 : Int32) (v2 : Int32) (u : xN) : Option (Int32 × xN) := if ((1 : Int32) <<< ((u.1 39 3) &&& 31)) ≤ v2 then (if v1 = (-9 : Int32) then f_X4_least_L87 N v1 (u.1 39 11) u else f_X4_least_L87 N v1 v1 u) else if v1 = (-9 : Int32) then f_X4_least_L42 N rec15 v1 v2 u else Option.bind (f_X4_bits N v2) (fun r32 => Option.bind (f_X4_bits N v1) (fun r36 => if r36 ≤ r32 then f_X4_least_L47 N rec15 v1 v2 (0 : Int32) u else f_X4_least_L42 N rec15 v1 v2 u))
set_option maxRecDepth 20000 in
theorem go_X4_least_L15b (N : Nat) (rec15 : Int32 → Int32 → xN → Option (Int32 × xN)) (h15 : ∀ (v1 : Int32) (v2 : Int32) (u : xN), xGm md_X4_least rsM (rec15 v1 v2 u) 15 [(0, .ref 39), (1, .int v1), (2, .int v2)] [] (xU u)) (v1 : Int32) (v2 : Int32) (u : xN) : xGm md_X4_least rsM (f_X4_least_L15b N rec15 v1 v2 u) 15 [(0, .ref 39), (1, .int v1), (2, .int v2)] [] (xU u) := by
  unfold f_X4_least_L15b
  refine xm_blk0 (pc' := 22) (lv' := [(0, .ref 39), (1, .int v1), (2, .int v2)]) (st' := [.int ((1 : Int32) <<< ((u.1 39 3) &&& 31)), .int v2]) (u' := (xU u)) [(.iload_n 2, (0, 0, 0), 0, 0), (.iconst 1, (0, 0, 0), 1, 0), (.aload_n 0, (0, 0, 0), 0, 0), (.getfield 60, (4, 3, 823), 0, 0), (.ishl, (0, 0, 0), 0, 0)] (by decide +kernel) rfl ?_
  refine xm_icmp_ge (pc := 22) (off := 50) (tgt := 72) (by decide +kernel) (by decide) ?_ ?_
  · refine xm_blk0 (pc' := 76) (lv' := [(0, .ref 39), (1, .int v1), (2, .int v2)]) (st' := [.int (-9 : Int32), .int v1, .ref 39]) (u' := (xU u)) [(.aload_n 0, (0, 0, 0), 0, 0), (.iload_n 1, (0, 0, 0), 0, 0), (.bipush (-9), (0, 0, 0), -9, 0)] (by decide +kernel) rfl ?_
    refine xm_icmp_ne (pc := 76) (off := 10) (tgt := 86) (by decide +kernel) (by decide) ?_ ?_
    · refine xm_blk0 (pc' := 87) (lv' := [(0, .ref 39), (1, .int v1), (2, .int v2)]) (st' := [.int v1, .ref 39]) (u' := (xU u)) [(.iload_n 1, (0, 0, 0), 0, 0)] (by decide +kernel) rfl ?_
      refine xm_wk [1] (lv' := [(1, .int v1)]) rfl ?_
      exact go_X4_least_L87 N v1 v1 u
    · refine xm_blk0 (pc' := 83) (lv' := [(0, .ref 39), (1, .int v1), (2, .int v2)]) (st' := [.int (u.1 39 11), .ref 39]) (u' := (xU u)) [(.aload_n 0, (0, 0, 0), 0, 0), (.getfield 67, (4, 11, 831), 0, 0)] (by decide +kernel) rfl ?_
      refine xm_goto (pc := 83) (off := 4) (tgt := 87) (by decide +kernel) (by decide) ?_
      refine xm_wk [1] (lv' := [(1, .int v1)]) rfl ?_
      exact go_X4_least_L87 N v1 (u.1 39 11) u
  · refine xm_blk0 (pc' := 28) (lv' := [(0, .ref 39), (1, .int v1), (2, .int v2)]) (st' := [.int (-9 : Int32), .int v1]) (u' := (xU u)) [(.iload_n 1, (0, 0, 0), 0, 0), (.bipush (-9), (0, 0, 0), -9, 0)] (by decide +kernel) rfl ?_
    refine xm_icmp_eq (pc := 28) (off := 14) (tgt := 42) (by decide +kernel) (by decide) ?_ ?_
    · exact go_X4_least_L42 N rec15 h15 v1 v2 u
    · refine xm_blk0 (pc' := 32) (lv' := [(0, .ref 39), (1, .int v1), (2, .int v2)]) (st' := [.int v2]) (u' := (xU u)) [(.iload_n 2, (0, 0, 0), 0, 0)] (by decide +kernel) rfl ?_
      refine xm_Si (pc := 32) (mz := md_X4_bits) (idx := 215) (p1 := 1090) (as := [.int v2]) (st := []) (ev_X4_bits N v2 u) mw_X4_bits (by decide +kernel) (by decide +kernel) (by decide) rfl (Nat.le_of_ble_eq_true rfl) (fun r32 => ?_)
      refine xm_blk0 (pc' := 36) (lv' := [(0, .ref 39), (1, .int v1), (2, .int v2)]) (st' := [.int v1, .int r32]) (u' := (xU u)) [(.iload_n 1, (0, 0, 0), 0, 0)] (by decide +kernel) rfl ?_
      refine xm_Si (pc := 36) (mz := md_X4_bits) (idx := 215) (p1 := 1090) (as := [.int v1]) (st := [.int r32]) (ev_X4_bits N v1 u) mw_X4_bits (by decide +kernel) (by decide +kernel) (by decide) rfl (Nat.le_of_ble_eq_true rfl) (fun r36 => ?_)
      refine xm_icmp_ge (pc := 39) (off := 7) (tgt := 46) (by decide +kernel) (by decide) ?_ ?_
      · refine xm_blk0 (pc' := 47) (lv' := [(0, .ref 39), (1, .int v1), (2, .int v2)]) (st' := [.int (0 : Int32)]) (u' := (xU u)) [(.iconst 0, (0, 0, 0), 0, 0)] (by decide +kernel) rfl ?_
        exact go_X4_least_L47 N rec15 h15 v1 v2 (0 : Int32) u
      · exact go_X4_least_L42 N rec15 h15 v1 v2 u
def f_X4_least_L15 (N : Nat) : Nat → Int32 → Int32 → xN → Option (Int32 × xN)
  | 0 => fun _ _ _ => none
  | n + 1 => fun v1 v2 u => f_X4_least_L15b N (f_X4_least_L15 N n) v1 v2 u
theorem go_X4_least_L15 (N : Nat) : ∀ (n : Nat) (v1 : Int32) (v2 : Int32) (u : xN), xGm md_X4_least rsM (f_X4_least_L15 N n v1 v2 u) 15 [(0, .ref 39), (1, .int v1), (2, .int v2)] [] (xU u) := by
  intro n
  induction n with
  | zero => intro v1 v2 u; exact xm_none
  | succ n ih => intro v1 v2 u; exact go_X4_least_L15b N _ ih v1 v2 u
def f_X4_least (N : Nat) (u : xN) : Option (Int32 × xN) := if (u.1 39 1) = (0 : Int32) then some ((-4 : Int32), u) else f_X4_least_L15 N N (-9 : Int32) (1 : Int32) u
set_option maxRecDepth 20000 in
theorem go_X4_least (N : Nat) (u : xN) : xGm md_X4_least rsM (f_X4_least N u) 0 [(0, .ref 39)] [] (xU u) := by
  unfold f_X4_least
  refine xm_blk0 (pc' := 4) (lv' := [(0, .ref 39)]) (st' := [.int (u.1 39 1)]) (u' := (xU u)) [(.aload_n 0, (0, 0, 0), 0, 0), (.getfield 147, (4, 1, 821), 0, 0)] (by decide +kernel) rfl ?_
  refine xm_if_ne (pc := 4) (off := 6) (tgt := 10) (by decide +kernel) (by decide) ?_ ?_
  · refine xm_blk0 (pc' := 15) (lv' := [(0, .ref 39), (1, .int (-9 : Int32)), (2, .int (1 : Int32))]) (st' := []) (u' := (xU u)) [(.bipush (-9), (0, 0, 0), -9, 0), (.istore_n 1, (0, 0, 0), 0, 0), (.iconst 1, (0, 0, 0), 1, 0), (.istore_n 2, (0, 0, 0), 0, 0)] (by decide +kernel) rfl ?_
    exact go_X4_least_L15 N N (-9 : Int32) (1 : Int32) u
  · refine xm_blk0 (pc' := 9) (lv' := [(0, .ref 39)]) (st' := [.int (-4 : Int32)]) (u' := (xU u)) [(.bipush (-4), (0, 0, 0), -4, 0)] (by decide +kernel) rfl ?_
    exact xm_iret (pc := 9) (by decide +kernel) rfl rfl
theorem ev_X4_least (N : Nat) (u : xN) : ∀ r, f_X4_least N u = some r → xEm md_X4_least yX4_least [.ref 39] (xU u) (some (.int r.1), xU r.2) := xm_met (res := rsM) (as := [.ref 39]) (go_X4_least N u) (by decide) rfl (Nat.le_of_ble_eq_true rfl)
theorem mw_X4_relent : xMv yX4_relent cX4_relent 4 (some .int) 0 := xMv_of (p1 := 1200) (p2 := 1198) (p3 := 97) (p4 := 1199) (by decide +kernel)
/-! NeitherBareModel.relent()I (39,) -/
abbrev md_X4_relent : xMd := (cX4_relent, RX4, 4, some .int, 8)
def f_X4_relent_L101 (N : Nat) (rec19 : Int32 → Int32 → xN → Option (Int32 × xN)) (v2 : Int32) (t0 : Int32) (u : xN) : Option (Int32 × xN) := rec19 t0 (v2 + (1 : Int32)) u
set_option maxRecDepth 20000 in
theorem go_X4_relent_L101 (N : Nat) (rec19 : Int32 → Int32 → xN → Option (Int32 × xN)) (h19 : ∀ (v1 : Int32) (v2 : Int32) (u : xN), xGm md_X4_relent rsM (rec19 v1 v2 u) 19 [(0, .ref 39), (1, .int v1), (2, .int v2)] [] (xU u)) (v2 : Int32) (t0 : Int32) (u : xN) : xGm md_X4_relent rsM (f_X4_relent_L101 N rec19 v2 t0 u) 101 [(0, .ref 39), (2, .int v2)] [.int t0] (xU u) := by
  unfold f_X4_relent_L101
  refine xm_blk0 (pc' := 105) (lv' := [(0, .ref 39), (1, .int t0), (2, .int (v2 + (1 : Int32)))]) (st' := []) (u' := (xU u)) [(.istore_n 1, (0, 0, 0), 0, 0), (.iinc 2 1, (0, 0, 0), 1, 0)] (by decide +kernel) rfl ?_
  refine xm_goto (pc := 105) (off := -86) (tgt := 19) (by decide +kernel) (by decide) ?_
  exact h19 t0 (v2 + (1 : Int32)) u
def f_X4_relent_L100 (N : Nat) (rec19 : Int32 → Int32 → xN → Option (Int32 × xN)) (v1 : Int32) (v2 : Int32) (u : xN) : Option (Int32 × xN) := f_X4_relent_L101 N rec19 v2 v1 u
set_option maxRecDepth 20000 in
theorem go_X4_relent_L100 (N : Nat) (rec19 : Int32 → Int32 → xN → Option (Int32 × xN)) (h19 : ∀ (v1 : Int32) (v2 : Int32) (u : xN), xGm md_X4_relent rsM (rec19 v1 v2 u) 19 [(0, .ref 39), (1, .int v1), (2, .int v2)] [] (xU u)) (v1 : Int32) (v2 : Int32) (u : xN) : xGm md_X4_relent rsM (f_X4_relent_L100 N rec19 v1 v2 u) 100 [(0, .ref 39), (1, .int v1), (2, .int v2)] [] (xU u) := by
  unfold f_X4_relent_L100
  refine xm_blk0 (pc' := 101) (lv' := [(0, .ref 39), (1, .int v1), (2, .int v2)]) (st' := [.int v1]) (u' := (xU u)) [(.iload_n 1, (0, 0, 0), 0, 0)] (by decide +kernel) rfl ?_
  refine xm_wk [0, 2] (lv' := [(0, .ref 39), (2, .int v2)]) rfl ?_
  exact go_X4_relent_L101 N rec19 h19 v2 v1 u
def f_X4_relent_L61 (N : Nat) (rec19 : Int32 → Int32 → xN → Option (Int32 × xN)) (v1 : Int32) (v2 : Int32) (t0 : Int32) (u : xN) : Option (Int32 × xN) := if t0 = (0 : Int32) then f_X4_relent_L100 N rec19 v1 v2 u else gdl [inb (1 : Int32) 1480] (if (v2 &&& ((u.1 40 (Int32.toNatClampNeg (1 : Int32))) ^^^ (-1 : Int32))) = (0 : Int32) then (gdl [inb (1 : Int32) 1480] (Option.bind (f_X4_clashes N ((u.1 40 (Int32.toNatClampNeg (1 : Int32))) &&& (v2 ^^^ (-1 : Int32))) u) (fun r90 => if r90 = (0 : Int32) then f_X4_relent_L101 N rec19 v2 v2 u else f_X4_relent_L100 N rec19 v1 v2 u))) else f_X4_relent_L100 N rec19 v1 v2 u)
set_option maxRecDepth 20000 in
theorem go_X4_relent_L61 (N : Nat) (rec19 : Int32 → Int32 → xN → Option (Int32 × xN)) (h19 : ∀ (v1 : Int32) (v2 : Int32) (u : xN), xGm md_X4_relent rsM (rec19 v1 v2 u) 19 [(0, .ref 39), (1, .int v1), (2, .int v2)] [] (xU u)) (v1 : Int32) (v2 : Int32) (t0 : Int32) (u : xN) : xGm md_X4_relent rsM (f_X4_relent_L61 N rec19 v1 v2 t0 u) 61 [(0, .ref 39), (1, .int v1), (2, .int v2)] [.int t0] (xU u) := by
  unfold f_X4_relent_L61
  refine xm_blk0 (pc' := 63) (lv' := [(0, .ref 39), (1, .int v1), (2, .int v2), (3, .int t0)]) (st' := [.int t0]) (u' := (xU u)) [(.istore_n 3, (0, 0, 0), 0, 0), (.iload_n 3, (0, 0, 0), 0, 0)] (by decide +kernel) rfl ?_
  refine xm_if_eq (pc := 63) (off := 37) (tgt := 100) (by decide +kernel) (by decide) ?_ ?_
  · refine xm_wk [0, 1, 2] (lv' := [(0, .ref 39), (1, .int v1), (2, .int v2)]) rfl ?_
    exact go_X4_relent_L100 N rec19 h19 v1 v2 u
  · refine xm_blk (bs := [inb (1 : Int32) 1480]) (pc' := 76) (lv' := [(0, .ref 39), (1, .int v1), (2, .int v2), (3, .int t0)]) (st' := [.int (v2 &&& ((u.1 40 (Int32.toNatClampNeg (1 : Int32))) ^^^ (-1 : Int32)))]) (u' := (xU u)) [(.iload_n 2, (0, 0, 0), 0, 0), (.aload_n 0, (0, 0, 0), 0, 0), (.getfield 7, (4, 0, 820), 0, 0), (.iconst 1, (0, 0, 0), 1, 0), (.iaload, (0, 0, 0), 0, 0), (.iconst (-1), (0, 0, 0), -1, 0), (.ixor, (0, 0, 0), 0, 0), (.iand, (0, 0, 0), 0, 0)] (by decide +kernel) rfl ?_
    refine xm_if_ne (pc := 76) (off := 24) (tgt := 100) (by decide +kernel) (by decide) ?_ ?_
    · refine xm_wk [0, 1, 2] (lv' := [(0, .ref 39), (1, .int v1), (2, .int v2)]) rfl ?_
      exact go_X4_relent_L100 N rec19 h19 v1 v2 u
    · refine xm_blk (bs := [inb (1 : Int32) 1480]) (pc' := 90) (lv' := [(0, .ref 39), (1, .int v1), (2, .int v2), (3, .int t0)]) (st' := [.int ((u.1 40 (Int32.toNatClampNeg (1 : Int32))) &&& (v2 ^^^ (-1 : Int32))), .ref 39]) (u' := (xU u)) [(.aload_n 0, (0, 0, 0), 0, 0), (.aload_n 0, (0, 0, 0), 0, 0), (.getfield 7, (4, 0, 820), 0, 0), (.iconst 1, (0, 0, 0), 1, 0), (.iaload, (0, 0, 0), 0, 0), (.iload_n 2, (0, 0, 0), 0, 0), (.iconst (-1), (0, 0, 0), -1, 0), (.ixor, (0, 0, 0), 0, 0), (.iand, (0, 0, 0), 0, 0)] (by decide +kernel) rfl ?_
      refine xm_Vi (pc := 90) (mz := md_X4_clashes) (idx := 245) (p1 := 1185) (a := 39) (as := [.int ((u.1 40 (Int32.toNatClampNeg (1 : Int32))) &&& (v2 ^^^ (-1 : Int32)))]) (st := []) (ev_X4_clashes N ((u.1 40 (Int32.toNatClampNeg (1 : Int32))) &&& (v2 ^^^ (-1 : Int32))) u) mw_X4_clashes (by decide +kernel) (by decide +kernel) (by decide) rfl rfl (by decide) rfl (Nat.le_of_ble_eq_true rfl) (fun r90 => ?_)
      refine xm_if_ne (pc := 93) (off := 7) (tgt := 100) (by decide +kernel) (by decide) ?_ ?_
      · refine xm_wk [0, 1, 2] (lv' := [(0, .ref 39), (1, .int v1), (2, .int v2)]) rfl ?_
        exact go_X4_relent_L100 N rec19 h19 v1 v2 u
      · refine xm_blk0 (pc' := 97) (lv' := [(0, .ref 39), (1, .int v1), (2, .int v2), (3, .int t0)]) (st' := [.int v2]) (u' := (xU u)) [(.iload_n 2, (0, 0, 0), 0, 0)] (by decide +kernel) rfl ?_
        refine xm_goto (pc := 97) (off := 4) (tgt := 101) (by decide +kernel) (by decide) ?_
        refine xm_wk [0, 2] (lv' := [(0, .ref 39), (2, .int v2)]) rfl ?_
        exact go_X4_relent_L101 N rec19 h19 v2 v2 u
def f_X4_relent_L56 (N : Nat) (rec19 : Int32 → Int32 → xN → Option (Int32 × xN)) (v1 : Int32) (v2 : Int32) (u : xN) : Option (Int32 × xN) := f_X4_relent_L61 N rec19 v1 v2 (1 : Int32) u
set_option maxRecDepth 20000 in
theorem go_X4_relent_L56 (N : Nat) (rec19 : Int32 → Int32 → xN → Option (Int32 × xN)) (h19 : ∀ (v1 : Int32) (v2 : Int32) (u : xN), xGm md_X4_relent rsM (rec19 v1 v2 u) 19 [(0, .ref 39), (1, .int v1), (2, .int v2)] [] (xU u)) (v1 : Int32) (v2 : Int32) (u : xN) : xGm md_X4_relent rsM (f_X4_relent_L56 N rec19 v1 v2 u) 56 [(0, .ref 39), (1, .int v1), (2, .int v2)] [] (xU u) := by
  unfold f_X4_relent_L56
  refine xm_blk0 (pc' := 57) (lv' := [(0, .ref 39), (1, .int v1), (2, .int v2)]) (st' := [.int (1 : Int32)]) (u' := (xU u)) [(.iconst 1, (0, 0, 0), 1, 0)] (by decide +kernel) rfl ?_
  refine xm_goto (pc := 57) (off := 4) (tgt := 61) (by decide +kernel) (by decide) ?_
  exact go_X4_relent_L61 N rec19 h19 v1 v2 (1 : Int32) u
def f_X4_relent_L60 (N : Nat) (rec19 : Int32 → Int32 → xN → Option (Int32 × xN)) (v1 : Int32) (v2 : Int32) (u : xN) : Option (Int32 × xN) := f_X4_relent_L61 N rec19 v1 v2 (0 : Int32) u
set_option maxRecDepth 20000 in
theorem go_X4_relent_L60 (N : Nat) (rec19 : Int32 → Int32 → xN → Option (Int32 × xN)) (h19 : ∀ (v1 : Int32) (v2 : Int32) (u : xN), xGm md_X4_relent rsM (rec19 v1 v2 u) 19 [(0, .ref 39), (1, .int v1), (2, .int v2)] [] (xU u)) (v1 : Int32) (v2 : Int32) (u : xN) : xGm md_X4_relent rsM (f_X4_relent_L60 N rec19 v1 v2 u) 60 [(0, .ref 39), (1, .int v1), (2, .int v2)] [] (xU u) := by
  unfold f_X4_relent_L60
  refine xm_blk0 (pc' := 61) (lv' := [(0, .ref 39), (1, .int v1), (2, .int v2)]) (st' := [.int (0 : Int32)]) (u' := (xU u)) [(.iconst 0, (0, 0, 0), 0, 0)] (by decide +kernel) rfl ?_
  exact go_X4_relent_L61 N rec19 h19 v1 v2 (0 : Int32) u
def f_X4_relent_L19b (N : Nat) (rec19 : Int32 → Int32 → xN → Option (Int32 × xN)) (v1 : Int32) (v2 : Int32) (u : xN) : Option (Int32 × xN) := if ((1 : Int32) <<< ((u.1 39 3) &&& 31)) ≤ v2 then Option.bind (f_X4_bits N v1) (fun r114 => some (r114, mI u 39 11 v1)) else Option.bind (f_X4_bits N v2) (fun r30 => Option.bind (f_X4_bits N v1) (fun r34 => if r30 < r34 then f_X4_relent_L56 N rec19 v1 v2 u else Option.bind (f_X4_bits N v2) (fun r41 => Option.bind (f_X4_bits N v1) (fun r45 => if r41 = r45 then (if v1 ≤ v2 then f_X4_relent_L60 N rec19 v1 v2 u else f_X4_relent_L56 N rec19 v1 v2 u) else f_X4_relent_L60 N rec19 v1 v2 u))))
set_option maxRecDepth 20000 in
theorem go_X4_relent_L19b (N : Nat) (rec19 : Int32 → Int32 → xN → Option (Int32 × xN)) (h19 : ∀ (v1 : Int32) (v2 : Int32) (u : xN), xGm md_X4_relent rsM (rec19 v1 v2 u) 19 [(0, .ref 39), (1, .int v1), (2, .int v2)] [] (xU u)) (v1 : Int32) (v2 : Int32) (u : xN) : xGm md_X4_relent rsM (f_X4_relent_L19b N rec19 v1 v2 u) 19 [(0, .ref 39), (1, .int v1), (2, .int v2)] [] (xU u) := by
  unfold f_X4_relent_L19b
  refine xm_blk0 (pc' := 26) (lv' := [(0, .ref 39), (1, .int v1), (2, .int v2)]) (st' := [.int ((1 : Int32) <<< ((u.1 39 3) &&& 31)), .int v2]) (u' := (xU u)) [(.iload_n 2, (0, 0, 0), 0, 0), (.iconst 1, (0, 0, 0), 1, 0), (.aload_n 0, (0, 0, 0), 0, 0), (.getfield 60, (4, 3, 823), 0, 0), (.ishl, (0, 0, 0), 0, 0)] (by decide +kernel) rfl ?_
  refine xm_icmp_ge (pc := 26) (off := 82) (tgt := 108) (by decide +kernel) (by decide) ?_ ?_
  · refine xm_blk0 (pc' := 114) (lv' := [(0, .ref 39), (1, .int v1), (2, .int v2)]) (st' := [.int v1]) (u' := (xU (mI u 39 11 v1))) [(.aload_n 0, (0, 0, 0), 0, 0), (.iload_n 1, (0, 0, 0), 0, 0), (.putfield 67, (4, 11, 831), 0, 0), (.iload_n 1, (0, 0, 0), 0, 0)] (by decide +kernel) rfl ?_
    refine xm_Si (pc := 114) (mz := md_X4_bits) (idx := 215) (p1 := 1090) (as := [.int v1]) (st := []) (ev_X4_bits N v1 (mI u 39 11 v1)) mw_X4_bits (by decide +kernel) (by decide +kernel) (by decide) rfl (Nat.le_of_ble_eq_true rfl) (fun r114 => ?_)
    exact xm_iret (pc := 117) (by decide +kernel) rfl rfl
  · refine xm_blk0 (pc' := 30) (lv' := [(0, .ref 39), (1, .int v1), (2, .int v2)]) (st' := [.int v2]) (u' := (xU u)) [(.iload_n 2, (0, 0, 0), 0, 0)] (by decide +kernel) rfl ?_
    refine xm_Si (pc := 30) (mz := md_X4_bits) (idx := 215) (p1 := 1090) (as := [.int v2]) (st := []) (ev_X4_bits N v2 u) mw_X4_bits (by decide +kernel) (by decide +kernel) (by decide) rfl (Nat.le_of_ble_eq_true rfl) (fun r30 => ?_)
    refine xm_blk0 (pc' := 34) (lv' := [(0, .ref 39), (1, .int v1), (2, .int v2)]) (st' := [.int v1, .int r30]) (u' := (xU u)) [(.iload_n 1, (0, 0, 0), 0, 0)] (by decide +kernel) rfl ?_
    refine xm_Si (pc := 34) (mz := md_X4_bits) (idx := 215) (p1 := 1090) (as := [.int v1]) (st := [.int r30]) (ev_X4_bits N v1 u) mw_X4_bits (by decide +kernel) (by decide +kernel) (by decide) rfl (Nat.le_of_ble_eq_true rfl) (fun r34 => ?_)
    refine xm_icmp_lt (pc := 37) (off := 19) (tgt := 56) (by decide +kernel) (by decide) ?_ ?_
    · exact go_X4_relent_L56 N rec19 h19 v1 v2 u
    · refine xm_blk0 (pc' := 41) (lv' := [(0, .ref 39), (1, .int v1), (2, .int v2)]) (st' := [.int v2]) (u' := (xU u)) [(.iload_n 2, (0, 0, 0), 0, 0)] (by decide +kernel) rfl ?_
      refine xm_Si (pc := 41) (mz := md_X4_bits) (idx := 215) (p1 := 1090) (as := [.int v2]) (st := []) (ev_X4_bits N v2 u) mw_X4_bits (by decide +kernel) (by decide +kernel) (by decide) rfl (Nat.le_of_ble_eq_true rfl) (fun r41 => ?_)
      refine xm_blk0 (pc' := 45) (lv' := [(0, .ref 39), (1, .int v1), (2, .int v2)]) (st' := [.int v1, .int r41]) (u' := (xU u)) [(.iload_n 1, (0, 0, 0), 0, 0)] (by decide +kernel) rfl ?_
      refine xm_Si (pc := 45) (mz := md_X4_bits) (idx := 215) (p1 := 1090) (as := [.int v1]) (st := [.int r41]) (ev_X4_bits N v1 u) mw_X4_bits (by decide +kernel) (by decide +kernel) (by decide) rfl (Nat.le_of_ble_eq_true rfl) (fun r45 => ?_)
      refine xm_icmp_ne (pc := 48) (off := 12) (tgt := 60) (by decide +kernel) (by decide) ?_ ?_
      · exact go_X4_relent_L60 N rec19 h19 v1 v2 u
      · refine xm_blk0 (pc' := 53) (lv' := [(0, .ref 39), (1, .int v1), (2, .int v2)]) (st' := [.int v1, .int v2]) (u' := (xU u)) [(.iload_n 2, (0, 0, 0), 0, 0), (.iload_n 1, (0, 0, 0), 0, 0)] (by decide +kernel) rfl ?_
        refine xm_icmp_ge (pc := 53) (off := 7) (tgt := 60) (by decide +kernel) (by decide) ?_ ?_
        · exact go_X4_relent_L60 N rec19 h19 v1 v2 u
        · exact go_X4_relent_L56 N rec19 h19 v1 v2 u
def f_X4_relent_L19 (N : Nat) : Nat → Int32 → Int32 → xN → Option (Int32 × xN)
  | 0 => fun _ _ _ => none
  | n + 1 => fun v1 v2 u => f_X4_relent_L19b N (f_X4_relent_L19 N n) v1 v2 u
theorem go_X4_relent_L19 (N : Nat) : ∀ (n : Nat) (v1 : Int32) (v2 : Int32) (u : xN), xGm md_X4_relent rsM (f_X4_relent_L19 N n v1 v2 u) 19 [(0, .ref 39), (1, .int v1), (2, .int v2)] [] (xU u) := by
  intro n
  induction n with
  | zero => intro v1 v2 u; exact xm_none
  | succ n ih => intro v1 v2 u; exact go_X4_relent_L19b N _ ih v1 v2 u
def f_X4_relent (N : Nat) (u : xN) : Option (Int32 × xN) := if (u.1 39 1) = (0 : Int32) then some ((-4 : Int32), u) else gdl [inb (1 : Int32) 1480] (f_X4_relent_L19 N N (u.1 40 (Int32.toNatClampNeg (1 : Int32))) (0 : Int32) u)
set_option maxRecDepth 20000 in
theorem go_X4_relent (N : Nat) (u : xN) : xGm md_X4_relent rsM (f_X4_relent N u) 0 [(0, .ref 39)] [] (xU u) := by
  unfold f_X4_relent
  refine xm_blk0 (pc' := 4) (lv' := [(0, .ref 39)]) (st' := [.int (u.1 39 1)]) (u' := (xU u)) [(.aload_n 0, (0, 0, 0), 0, 0), (.getfield 147, (4, 1, 821), 0, 0)] (by decide +kernel) rfl ?_
  refine xm_if_ne (pc := 4) (off := 6) (tgt := 10) (by decide +kernel) (by decide) ?_ ?_
  · refine xm_blk (bs := [inb (1 : Int32) 1480]) (pc' := 19) (lv' := [(0, .ref 39), (1, .int (u.1 40 (Int32.toNatClampNeg (1 : Int32)))), (2, .int (0 : Int32))]) (st' := []) (u' := (xU u)) [(.aload_n 0, (0, 0, 0), 0, 0), (.getfield 7, (4, 0, 820), 0, 0), (.iconst 1, (0, 0, 0), 1, 0), (.iaload, (0, 0, 0), 0, 0), (.istore_n 1, (0, 0, 0), 0, 0), (.iconst 0, (0, 0, 0), 0, 0), (.istore_n 2, (0, 0, 0), 0, 0)] (by decide +kernel) rfl ?_
    exact go_X4_relent_L19 N N (u.1 40 (Int32.toNatClampNeg (1 : Int32))) (0 : Int32) u
  · refine xm_blk0 (pc' := 9) (lv' := [(0, .ref 39)]) (st' := [.int (-4 : Int32)]) (u' := (xU u)) [(.bipush (-4), (0, 0, 0), -4, 0)] (by decide +kernel) rfl ?_
    exact xm_iret (pc := 9) (by decide +kernel) rfl rfl
theorem ev_X4_relent (N : Nat) (u : xN) : ∀ r, f_X4_relent N u = some r → xEm md_X4_relent yX4_relent [.ref 39] (xU u) (some (.int r.1), xU r.2) := xm_met (res := rsM) (as := [.ref 39]) (go_X4_relent N u) (by decide) rfl (Nat.le_of_ble_eq_true rfl)
theorem mw_X4_answers : xMv yX4_answers cX4_answers 5 (some .boolean) 2 := xMv_of (p1 := 1220) (p2 := 1219) (p3 := 97) (p4 := 80) (by decide +kernel)
/-! NeitherBareModel.answers(II)Z (39, None, None) -/
abbrev md_X4_answers : xMd := (cX4_answers, RX4, 5, some .boolean, 2)
def f_X4_answers_L61 (N : Nat) (u : xN) (rec15 : Int32 → Int32 → Int32 → Int32 → Option Int32) (v1 : Int32) (v2 : Int32) (v4 : Int32) (t0 : Int32) : Option Int32 := rec15 v1 v2 t0 (v4 + (1 : Int32))
set_option maxRecDepth 20000 in
theorem go_X4_answers_L61 (N : Nat) (u : xN) (rec15 : Int32 → Int32 → Int32 → Int32 → Option Int32) (h15 : ∀ (v1 : Int32) (v2 : Int32) (v3 : Int32) (v4 : Int32), xGm md_X4_answers (rsI (xU u)) (rec15 v1 v2 v3 v4) 15 [(0, .ref 39), (1, .int v1), (2, .int v2), (3, .int v3), (4, .int v4)] [] (xU u)) (v1 : Int32) (v2 : Int32) (v4 : Int32) (t0 : Int32) : xGm md_X4_answers (rsI (xU u)) (f_X4_answers_L61 N u rec15 v1 v2 v4 t0) 61 [(0, .ref 39), (1, .int v1), (2, .int v2), (4, .int v4)] [.int t0] (xU u) := by
  unfold f_X4_answers_L61
  refine xm_blk0 (pc' := 65) (lv' := [(0, .ref 39), (1, .int v1), (2, .int v2), (3, .int t0), (4, .int (v4 + (1 : Int32)))]) (st' := []) (u' := (xU u)) [(.istore_n 3, (0, 0, 0), 0, 0), (.iinc 4 1, (0, 0, 0), 1, 0)] (by decide +kernel) rfl ?_
  refine xm_goto (pc := 65) (off := -50) (tgt := 15) (by decide +kernel) (by decide) ?_
  exact h15 v1 v2 t0 (v4 + (1 : Int32))
def f_X4_answers_L56 (N : Nat) (u : xN) (rec15 : Int32 → Int32 → Int32 → Int32 → Option Int32) (v1 : Int32) (v2 : Int32) (v4 : Int32) : Option Int32 := f_X4_answers_L61 N u rec15 v1 v2 v4 (1 : Int32)
set_option maxRecDepth 20000 in
theorem go_X4_answers_L56 (N : Nat) (u : xN) (rec15 : Int32 → Int32 → Int32 → Int32 → Option Int32) (h15 : ∀ (v1 : Int32) (v2 : Int32) (v3 : Int32) (v4 : Int32), xGm md_X4_answers (rsI (xU u)) (rec15 v1 v2 v3 v4) 15 [(0, .ref 39), (1, .int v1), (2, .int v2), (3, .int v3), (4, .int v4)] [] (xU u)) (v1 : Int32) (v2 : Int32) (v4 : Int32) : xGm md_X4_answers (rsI (xU u)) (f_X4_answers_L56 N u rec15 v1 v2 v4) 56 [(0, .ref 39), (1, .int v1), (2, .int v2), (4, .int v4)] [] (xU u) := by
  unfold f_X4_answers_L56
  refine xm_blk0 (pc' := 57) (lv' := [(0, .ref 39), (1, .int v1), (2, .int v2), (4, .int v4)]) (st' := [.int (1 : Int32)]) (u' := (xU u)) [(.iconst 1, (0, 0, 0), 1, 0)] (by decide +kernel) rfl ?_
  refine xm_goto (pc := 57) (off := 4) (tgt := 61) (by decide +kernel) (by decide) ?_
  exact go_X4_answers_L61 N u rec15 h15 v1 v2 v4 (1 : Int32)
def f_X4_answers_L60 (N : Nat) (u : xN) (rec15 : Int32 → Int32 → Int32 → Int32 → Option Int32) (v1 : Int32) (v2 : Int32) (v4 : Int32) : Option Int32 := f_X4_answers_L61 N u rec15 v1 v2 v4 (0 : Int32)
set_option maxRecDepth 20000 in
theorem go_X4_answers_L60 (N : Nat) (u : xN) (rec15 : Int32 → Int32 → Int32 → Int32 → Option Int32) (h15 : ∀ (v1 : Int32) (v2 : Int32) (v3 : Int32) (v4 : Int32), xGm md_X4_answers (rsI (xU u)) (rec15 v1 v2 v3 v4) 15 [(0, .ref 39), (1, .int v1), (2, .int v2), (3, .int v3), (4, .int v4)] [] (xU u)) (v1 : Int32) (v2 : Int32) (v4 : Int32) : xGm md_X4_answers (rsI (xU u)) (f_X4_answers_L60 N u rec15 v1 v2 v4) 60 [(0, .ref 39), (1, .int v1), (2, .int v2), (4, .int v4)] [] (xU u) := by
  unfold f_X4_answers_L60
  refine xm_blk0 (pc' := 61) (lv' := [(0, .ref 39), (1, .int v1), (2, .int v2), (4, .int v4)]) (st' := [.int (0 : Int32)]) (u' := (xU u)) [(.iconst 0, (0, 0, 0), 0, 0)] (by decide +kernel) rfl ?_
  exact go_X4_answers_L61 N u rec15 h15 v1 v2 v4 (0 : Int32)
def f_X4_answers_L15b (N : Nat) (u : xN) (rec15 : Int32 → Int32 → Int32 → Int32 → Option Int32) (v1 : Int32) (v2 : Int32) (v3 : Int32) (v4 : Int32) : Option Int32 := if (u.1 39 1) ≤ v4 then (gdl [isb v3] (some v3)) else if v3 = (0 : Int32) then Option.bind (f_X4_has v2 v4) (fun r31 => if r31 = (0 : Int32) then (gdl [inb (((64 : Int32) * v1) + (v2 ||| ((1 : Int32) <<< (v4 &&& 31)))) 16384] (if (u.1 52 (Int32.toNatClampNeg (((64 : Int32) * v1) + (v2 ||| ((1 : Int32) <<< (v4 &&& 31)))))) = (0 : Int32) then f_X4_answers_L60 N u rec15 v1 v2 v4 else f_X4_answers_L56 N u rec15 v1 v2 v4)) else f_X4_answers_L60 N u rec15 v1 v2 v4) else f_X4_answers_L56 N u rec15 v1 v2 v4
set_option maxRecDepth 20000 in
theorem go_X4_answers_L15b (N : Nat) (u : xN) (rec15 : Int32 → Int32 → Int32 → Int32 → Option Int32) (h15 : ∀ (v1 : Int32) (v2 : Int32) (v3 : Int32) (v4 : Int32), xGm md_X4_answers (rsI (xU u)) (rec15 v1 v2 v3 v4) 15 [(0, .ref 39), (1, .int v1), (2, .int v2), (3, .int v3), (4, .int v4)] [] (xU u)) (v1 : Int32) (v2 : Int32) (v3 : Int32) (v4 : Int32) : xGm md_X4_answers (rsI (xU u)) (f_X4_answers_L15b N u rec15 v1 v2 v3 v4) 15 [(0, .ref 39), (1, .int v1), (2, .int v2), (3, .int v3), (4, .int v4)] [] (xU u) := by
  unfold f_X4_answers_L15b
  refine xm_blk0 (pc' := 21) (lv' := [(0, .ref 39), (1, .int v1), (2, .int v2), (3, .int v3), (4, .int v4)]) (st' := [.int (u.1 39 1), .int v4]) (u' := (xU u)) [(.iload 4, (0, 0, 0), 0, 0), (.aload_n 0, (0, 0, 0), 0, 0), (.getfield 147, (4, 1, 821), 0, 0)] (by decide +kernel) rfl ?_
  refine xm_icmp_ge (pc := 21) (off := 47) (tgt := 68) (by decide +kernel) (by decide) ?_ ?_
  · refine xm_blk0 (pc' := 69) (lv' := [(0, .ref 39), (1, .int v1), (2, .int v2), (3, .int v3), (4, .int v4)]) (st' := [.int v3]) (u' := (xU u)) [(.iload_n 3, (0, 0, 0), 0, 0)] (by decide +kernel) rfl ?_
    exact xm_zret (pc := 69) (by decide +kernel) rfl rfl
  · refine xm_blk0 (pc' := 25) (lv' := [(0, .ref 39), (1, .int v1), (2, .int v2), (3, .int v3), (4, .int v4)]) (st' := [.int v3]) (u' := (xU u)) [(.iload_n 3, (0, 0, 0), 0, 0)] (by decide +kernel) rfl ?_
    refine xm_if_ne (pc := 25) (off := 31) (tgt := 56) (by decide +kernel) (by decide) ?_ ?_
    · refine xm_wk [0, 1, 2, 4] (lv' := [(0, .ref 39), (1, .int v1), (2, .int v2), (4, .int v4)]) rfl ?_
      exact go_X4_answers_L56 N u rec15 h15 v1 v2 v4
    · refine xm_blk0 (pc' := 31) (lv' := [(0, .ref 39), (1, .int v1), (2, .int v2), (3, .int v3), (4, .int v4)]) (st' := [.int v4, .int v2]) (u' := (xU u)) [(.iload_n 2, (0, 0, 0), 0, 0), (.iload 4, (0, 0, 0), 0, 0)] (by decide +kernel) rfl ?_
      refine xm_Si (pc := 31) (mz := md_X4_has) (idx := 153) (p1 := 1032) (as := [.int v2, .int v4]) (st := []) (ev_X4_has v2 v4 u) mw_X4_has (by decide +kernel) (by decide +kernel) (by decide) rfl (Nat.le_of_ble_eq_true rfl) (fun r31 => ?_)
      refine xm_if_ne (pc := 34) (off := 26) (tgt := 60) (by decide +kernel) (by decide) ?_ ?_
      · refine xm_wk [0, 1, 2, 4] (lv' := [(0, .ref 39), (1, .int v1), (2, .int v2), (4, .int v4)]) rfl ?_
        exact go_X4_answers_L60 N u rec15 h15 v1 v2 v4
      · refine xm_blk (bs := [inb (((64 : Int32) * v1) + (v2 ||| ((1 : Int32) <<< (v4 &&& 31)))) 16384]) (pc' := 53) (lv' := [(0, .ref 39), (1, .int v1), (2, .int v2), (3, .int v3), (4, .int v4)]) (st' := [.int (u.1 52 (Int32.toNatClampNeg (((64 : Int32) * v1) + (v2 ||| ((1 : Int32) <<< (v4 &&& 31))))))]) (u' := (xU u)) [(.aload_n 0, (0, 0, 0), 0, 0), (.getfield 50, (4, 23, 843), 0, 0), (.bipush 64, (0, 0, 0), 64, 0), (.iload_n 1, (0, 0, 0), 0, 0), (.imul, (0, 0, 0), 0, 0), (.iload_n 2, (0, 0, 0), 0, 0), (.iconst 1, (0, 0, 0), 1, 0), (.iload 4, (0, 0, 0), 0, 0), (.ishl, (0, 0, 0), 0, 0), (.ior, (0, 0, 0), 0, 0), (.iadd, (0, 0, 0), 0, 0), (.baload, (0, 0, 0), 0, 0)] (by decide +kernel) rfl ?_
        refine xm_if_eq (pc := 53) (off := 7) (tgt := 60) (by decide +kernel) (by decide) ?_ ?_
        · refine xm_wk [0, 1, 2, 4] (lv' := [(0, .ref 39), (1, .int v1), (2, .int v2), (4, .int v4)]) rfl ?_
          exact go_X4_answers_L60 N u rec15 h15 v1 v2 v4
        · refine xm_wk [0, 1, 2, 4] (lv' := [(0, .ref 39), (1, .int v1), (2, .int v2), (4, .int v4)]) rfl ?_
          exact go_X4_answers_L56 N u rec15 h15 v1 v2 v4
def f_X4_answers_L15 (N : Nat) (u : xN) : Nat → Int32 → Int32 → Int32 → Int32 → Option Int32
  | 0 => fun _ _ _ _ => none
  | n + 1 => fun v1 v2 v3 v4 => f_X4_answers_L15b N u (f_X4_answers_L15 N u n) v1 v2 v3 v4
theorem go_X4_answers_L15 (N : Nat) (u : xN) : ∀ (n : Nat) (v1 : Int32) (v2 : Int32) (v3 : Int32) (v4 : Int32), xGm md_X4_answers (rsI (xU u)) (f_X4_answers_L15 N u n v1 v2 v3 v4) 15 [(0, .ref 39), (1, .int v1), (2, .int v2), (3, .int v3), (4, .int v4)] [] (xU u) := by
  intro n
  induction n with
  | zero => intro v1 v2 v3 v4; exact xm_none
  | succ n ih => intro v1 v2 v3 v4; exact go_X4_answers_L15b N u _ ih v1 v2 v3 v4
def f_X4_answers (N : Nat) (a1 : Int32) (a2 : Int32) (u : xN) : Option Int32 := gdl [inb (((64 : Int32) * a1) + a2) 16384] (f_X4_answers_L15 N u N a1 a2 (u.1 52 (Int32.toNatClampNeg (((64 : Int32) * a1) + a2))) (0 : Int32))
set_option maxRecDepth 20000 in
theorem go_X4_answers (N : Nat) (a1 : Int32) (a2 : Int32) (u : xN) : xGm md_X4_answers (rsI (xU u)) (f_X4_answers N a1 a2 u) 0 [(0, .ref 39), (1, .int a1), (2, .int a2)] [] (xU u) := by
  unfold f_X4_answers
  refine xm_blk (bs := [inb (((64 : Int32) * a1) + a2) 16384]) (pc' := 15) (lv' := [(0, .ref 39), (1, .int a1), (2, .int a2), (3, .int (u.1 52 (Int32.toNatClampNeg (((64 : Int32) * a1) + a2)))), (4, .int (0 : Int32))]) (st' := []) (u' := (xU u)) [(.aload_n 0, (0, 0, 0), 0, 0), (.getfield 50, (4, 23, 843), 0, 0), (.bipush 64, (0, 0, 0), 64, 0), (.iload_n 1, (0, 0, 0), 0, 0), (.imul, (0, 0, 0), 0, 0), (.iload_n 2, (0, 0, 0), 0, 0), (.iadd, (0, 0, 0), 0, 0), (.baload, (0, 0, 0), 0, 0), (.istore_n 3, (0, 0, 0), 0, 0), (.iconst 0, (0, 0, 0), 0, 0), (.istore 4, (0, 0, 0), 0, 0)] (by decide +kernel) rfl ?_
  exact go_X4_answers_L15 N u N a1 a2 (u.1 52 (Int32.toNatClampNeg (((64 : Int32) * a1) + a2))) (0 : Int32)
theorem ev_X4_answers (N : Nat) (a1 : Int32) (a2 : Int32) (u : xN) : ∀ r, f_X4_answers N a1 a2 u = some r → xEm md_X4_answers yX4_answers [.ref 39, .int a1, .int a2] (xU u) (some (.int r), (xU u)) := xm_met (res := (rsI (xU u))) (as := [.ref 39, .int a1, .int a2]) (go_X4_answers N a1 a2 u) (by decide) rfl (Nat.le_of_ble_eq_true rfl)
theorem mw_X4_withstands : xMv yX4_withstands cX4_withstands 6 (some .boolean) 2 := xMv_of (p1 := 1216) (p2 := 1215) (p3 := 97) (p4 := 79) (by decide +kernel)
/-! NeitherBareModel.withstands(II)Z (39, None, None) -/
abbrev md_X4_withstands : xMd := (cX4_withstands, RX4, 6, some .boolean, 3)
def f_X4_withstands_L70 (N : Nat) (u : xN) (rec28 : Int32 → Int32 → Int32 → Int32 → Int32 → Option Int32) (v1 : Int32) (v2 : Int32) (v3 : Int32) (v5 : Int32) (t0 : Int32) : Option Int32 := rec28 v1 v2 v3 t0 (v5 + (1 : Int32))
set_option maxRecDepth 20000 in
theorem go_X4_withstands_L70 (N : Nat) (u : xN) (rec28 : Int32 → Int32 → Int32 → Int32 → Int32 → Option Int32) (h28 : ∀ (v1 : Int32) (v2 : Int32) (v3 : Int32) (v4 : Int32) (v5 : Int32), xGm md_X4_withstands (rsI (xU u)) (rec28 v1 v2 v3 v4 v5) 28 [(0, .ref 39), (1, .int v1), (2, .int v2), (3, .int v3), (4, .int v4), (5, .int v5)] [] (xU u)) (v1 : Int32) (v2 : Int32) (v3 : Int32) (v5 : Int32) (t0 : Int32) : xGm md_X4_withstands (rsI (xU u)) (f_X4_withstands_L70 N u rec28 v1 v2 v3 v5 t0) 70 [(0, .ref 39), (1, .int v1), (2, .int v2), (3, .int v3), (5, .int v5)] [.int t0] (xU u) := by
  unfold f_X4_withstands_L70
  refine xm_blk0 (pc' := 75) (lv' := [(0, .ref 39), (1, .int v1), (2, .int v2), (3, .int v3), (4, .int t0), (5, .int (v5 + (1 : Int32)))]) (st' := []) (u' := (xU u)) [(.istore 4, (0, 0, 0), 0, 0), (.iinc 5 1, (0, 0, 0), 1, 0)] (by decide +kernel) rfl ?_
  refine xm_goto (pc := 75) (off := -47) (tgt := 28) (by decide +kernel) (by decide) ?_
  exact h28 v1 v2 v3 t0 (v5 + (1 : Int32))
def f_X4_withstands_L65 (N : Nat) (u : xN) (rec28 : Int32 → Int32 → Int32 → Int32 → Int32 → Option Int32) (v1 : Int32) (v2 : Int32) (v3 : Int32) (v5 : Int32) : Option Int32 := f_X4_withstands_L70 N u rec28 v1 v2 v3 v5 (1 : Int32)
set_option maxRecDepth 20000 in
theorem go_X4_withstands_L65 (N : Nat) (u : xN) (rec28 : Int32 → Int32 → Int32 → Int32 → Int32 → Option Int32) (h28 : ∀ (v1 : Int32) (v2 : Int32) (v3 : Int32) (v4 : Int32) (v5 : Int32), xGm md_X4_withstands (rsI (xU u)) (rec28 v1 v2 v3 v4 v5) 28 [(0, .ref 39), (1, .int v1), (2, .int v2), (3, .int v3), (4, .int v4), (5, .int v5)] [] (xU u)) (v1 : Int32) (v2 : Int32) (v3 : Int32) (v5 : Int32) : xGm md_X4_withstands (rsI (xU u)) (f_X4_withstands_L65 N u rec28 v1 v2 v3 v5) 65 [(0, .ref 39), (1, .int v1), (2, .int v2), (3, .int v3), (5, .int v5)] [] (xU u) := by
  unfold f_X4_withstands_L65
  refine xm_blk0 (pc' := 66) (lv' := [(0, .ref 39), (1, .int v1), (2, .int v2), (3, .int v3), (5, .int v5)]) (st' := [.int (1 : Int32)]) (u' := (xU u)) [(.iconst 1, (0, 0, 0), 1, 0)] (by decide +kernel) rfl ?_
  refine xm_goto (pc := 66) (off := 4) (tgt := 70) (by decide +kernel) (by decide) ?_
  exact go_X4_withstands_L70 N u rec28 h28 v1 v2 v3 v5 (1 : Int32)
def f_X4_withstands_L69 (N : Nat) (u : xN) (rec28 : Int32 → Int32 → Int32 → Int32 → Int32 → Option Int32) (v1 : Int32) (v2 : Int32) (v3 : Int32) (v5 : Int32) : Option Int32 := f_X4_withstands_L70 N u rec28 v1 v2 v3 v5 (0 : Int32)
set_option maxRecDepth 20000 in
theorem go_X4_withstands_L69 (N : Nat) (u : xN) (rec28 : Int32 → Int32 → Int32 → Int32 → Int32 → Option Int32) (h28 : ∀ (v1 : Int32) (v2 : Int32) (v3 : Int32) (v4 : Int32) (v5 : Int32), xGm md_X4_withstands (rsI (xU u)) (rec28 v1 v2 v3 v4 v5) 28 [(0, .ref 39), (1, .int v1), (2, .int v2), (3, .int v3), (4, .int v4), (5, .int v5)] [] (xU u)) (v1 : Int32) (v2 : Int32) (v3 : Int32) (v5 : Int32) : xGm md_X4_withstands (rsI (xU u)) (f_X4_withstands_L69 N u rec28 v1 v2 v3 v5) 69 [(0, .ref 39), (1, .int v1), (2, .int v2), (3, .int v3), (5, .int v5)] [] (xU u) := by
  unfold f_X4_withstands_L69
  refine xm_blk0 (pc' := 70) (lv' := [(0, .ref 39), (1, .int v1), (2, .int v2), (3, .int v3), (5, .int v5)]) (st' := [.int (0 : Int32)]) (u' := (xU u)) [(.iconst 0, (0, 0, 0), 0, 0)] (by decide +kernel) rfl ?_
  exact go_X4_withstands_L70 N u rec28 h28 v1 v2 v3 v5 (0 : Int32)
def f_X4_withstands_L28b (N : Nat) (u : xN) (rec28 : Int32 → Int32 → Int32 → Int32 → Int32 → Option Int32) (v1 : Int32) (v2 : Int32) (v3 : Int32) (v4 : Int32) (v5 : Int32) : Option Int32 := if (u.1 39 3) ≤ v5 then (gdl [isb v4] (some v4)) else if v4 = (0 : Int32) then f_X4_withstands_L69 N u rec28 v1 v2 v3 v5 else Option.bind (f_X4_has v3 v5) (fun r45 => if r45 = (0 : Int32) then f_X4_withstands_L65 N u rec28 v1 v2 v3 v5 else Option.bind (f_X4_answers N (v1 ||| ((1 : Int32) <<< (v5 &&& 31))) v2 u) (fun r59 => if r59 = (0 : Int32) then f_X4_withstands_L69 N u rec28 v1 v2 v3 v5 else f_X4_withstands_L65 N u rec28 v1 v2 v3 v5))
set_option maxRecDepth 20000 in
theorem go_X4_withstands_L28b (N : Nat) (u : xN) (rec28 : Int32 → Int32 → Int32 → Int32 → Int32 → Option Int32) (h28 : ∀ (v1 : Int32) (v2 : Int32) (v3 : Int32) (v4 : Int32) (v5 : Int32), xGm md_X4_withstands (rsI (xU u)) (rec28 v1 v2 v3 v4 v5) 28 [(0, .ref 39), (1, .int v1), (2, .int v2), (3, .int v3), (4, .int v4), (5, .int v5)] [] (xU u)) (v1 : Int32) (v2 : Int32) (v3 : Int32) (v4 : Int32) (v5 : Int32) : xGm md_X4_withstands (rsI (xU u)) (f_X4_withstands_L28b N u rec28 v1 v2 v3 v4 v5) 28 [(0, .ref 39), (1, .int v1), (2, .int v2), (3, .int v3), (4, .int v4), (5, .int v5)] [] (xU u) := by
  unfold f_X4_withstands_L28b
  refine xm_blk0 (pc' := 34) (lv' := [(0, .ref 39), (1, .int v1), (2, .int v2), (3, .int v3), (4, .int v4), (5, .int v5)]) (st' := [.int (u.1 39 3), .int v5]) (u' := (xU u)) [(.iload 5, (0, 0, 0), 0, 0), (.aload_n 0, (0, 0, 0), 0, 0), (.getfield 60, (4, 3, 823), 0, 0)] (by decide +kernel) rfl ?_
  refine xm_icmp_ge (pc := 34) (off := 44) (tgt := 78) (by decide +kernel) (by decide) ?_ ?_
  · refine xm_blk0 (pc' := 80) (lv' := [(0, .ref 39), (1, .int v1), (2, .int v2), (3, .int v3), (4, .int v4), (5, .int v5)]) (st' := [.int v4]) (u' := (xU u)) [(.iload 4, (0, 0, 0), 0, 0)] (by decide +kernel) rfl ?_
    exact xm_zret (pc := 80) (by decide +kernel) rfl rfl
  · refine xm_blk0 (pc' := 39) (lv' := [(0, .ref 39), (1, .int v1), (2, .int v2), (3, .int v3), (4, .int v4), (5, .int v5)]) (st' := [.int v4]) (u' := (xU u)) [(.iload 4, (0, 0, 0), 0, 0)] (by decide +kernel) rfl ?_
    refine xm_if_eq (pc := 39) (off := 30) (tgt := 69) (by decide +kernel) (by decide) ?_ ?_
    · refine xm_wk [0, 1, 2, 3, 5] (lv' := [(0, .ref 39), (1, .int v1), (2, .int v2), (3, .int v3), (5, .int v5)]) rfl ?_
      exact go_X4_withstands_L69 N u rec28 h28 v1 v2 v3 v5
    · refine xm_blk0 (pc' := 45) (lv' := [(0, .ref 39), (1, .int v1), (2, .int v2), (3, .int v3), (4, .int v4), (5, .int v5)]) (st' := [.int v5, .int v3]) (u' := (xU u)) [(.iload_n 3, (0, 0, 0), 0, 0), (.iload 5, (0, 0, 0), 0, 0)] (by decide +kernel) rfl ?_
      refine xm_Si (pc := 45) (mz := md_X4_has) (idx := 153) (p1 := 1032) (as := [.int v3, .int v5]) (st := []) (ev_X4_has v3 v5 u) mw_X4_has (by decide +kernel) (by decide +kernel) (by decide) rfl (Nat.le_of_ble_eq_true rfl) (fun r45 => ?_)
      refine xm_if_eq (pc := 48) (off := 17) (tgt := 65) (by decide +kernel) (by decide) ?_ ?_
      · refine xm_wk [0, 1, 2, 3, 5] (lv' := [(0, .ref 39), (1, .int v1), (2, .int v2), (3, .int v3), (5, .int v5)]) rfl ?_
        exact go_X4_withstands_L65 N u rec28 h28 v1 v2 v3 v5
      · refine xm_blk0 (pc' := 59) (lv' := [(0, .ref 39), (1, .int v1), (2, .int v2), (3, .int v3), (4, .int v4), (5, .int v5)]) (st' := [.int v2, .int (v1 ||| ((1 : Int32) <<< (v5 &&& 31))), .ref 39]) (u' := (xU u)) [(.aload_n 0, (0, 0, 0), 0, 0), (.iload_n 1, (0, 0, 0), 0, 0), (.iconst 1, (0, 0, 0), 1, 0), (.iload 5, (0, 0, 0), 0, 0), (.ishl, (0, 0, 0), 0, 0), (.ior, (0, 0, 0), 0, 0), (.iload_n 2, (0, 0, 0), 0, 0)] (by decide +kernel) rfl ?_
        refine xm_Vi (pc := 59) (mz := md_X4_answers) (idx := 248) (p1 := 1217) (a := 39) (as := [.int (v1 ||| ((1 : Int32) <<< (v5 &&& 31))), .int v2]) (st := []) (ev_X4_answers N (v1 ||| ((1 : Int32) <<< (v5 &&& 31))) v2 u) mw_X4_answers (by decide +kernel) (by decide +kernel) (by decide) rfl rfl (by decide) rfl (Nat.le_of_ble_eq_true rfl) (fun r59 => ?_)
        refine xm_if_eq (pc := 62) (off := 7) (tgt := 69) (by decide +kernel) (by decide) ?_ ?_
        · refine xm_wk [0, 1, 2, 3, 5] (lv' := [(0, .ref 39), (1, .int v1), (2, .int v2), (3, .int v3), (5, .int v5)]) rfl ?_
          exact go_X4_withstands_L69 N u rec28 h28 v1 v2 v3 v5
        · refine xm_wk [0, 1, 2, 3, 5] (lv' := [(0, .ref 39), (1, .int v1), (2, .int v2), (3, .int v3), (5, .int v5)]) rfl ?_
          exact go_X4_withstands_L65 N u rec28 h28 v1 v2 v3 v5
def f_X4_withstands_L28 (N : Nat) (u : xN) : Nat → Int32 → Int32 → Int32 → Int32 → Int32 → Option Int32
  | 0 => fun _ _ _ _ _ => none
  | n + 1 => fun v1 v2 v3 v4 v5 => f_X4_withstands_L28b N u (f_X4_withstands_L28 N u n) v1 v2 v3 v4 v5
theorem go_X4_withstands_L28 (N : Nat) (u : xN) : ∀ (n : Nat) (v1 : Int32) (v2 : Int32) (v3 : Int32) (v4 : Int32) (v5 : Int32), xGm md_X4_withstands (rsI (xU u)) (f_X4_withstands_L28 N u n v1 v2 v3 v4 v5) 28 [(0, .ref 39), (1, .int v1), (2, .int v2), (3, .int v3), (4, .int v4), (5, .int v5)] [] (xU u) := by
  intro n
  induction n with
  | zero => intro v1 v2 v3 v4 v5; exact xm_none
  | succ n ih => intro v1 v2 v3 v4 v5; exact go_X4_withstands_L28b N u _ ih v1 v2 v3 v4 v5
def f_X4_withstands (N : Nat) (a1 : Int32) (a2 : Int32) (u : xN) : Option Int32 := gdl [inb (1 : Int32) 1480] (if ((u.1 40 (Int32.toNatClampNeg (1 : Int32))) &&& (a1 ^^^ (-1 : Int32))) = (0 : Int32) then Option.bind (f_X4_answers N a1 a2 u) (fun r18 => gdl [isb r18] (some r18)) else f_X4_withstands_L28 N u N a1 a2 ((u.1 40 (Int32.toNatClampNeg (1 : Int32))) &&& (a1 ^^^ (-1 : Int32))) (1 : Int32) (0 : Int32))
set_option maxRecDepth 20000 in
theorem go_X4_withstands (N : Nat) (a1 : Int32) (a2 : Int32) (u : xN) : xGm md_X4_withstands (rsI (xU u)) (f_X4_withstands N a1 a2 u) 0 [(0, .ref 39), (1, .int a1), (2, .int a2)] [] (xU u) := by
  unfold f_X4_withstands
  refine xm_blk (bs := [inb (1 : Int32) 1480]) (pc' := 12) (lv' := [(0, .ref 39), (1, .int a1), (2, .int a2), (3, .int ((u.1 40 (Int32.toNatClampNeg (1 : Int32))) &&& (a1 ^^^ (-1 : Int32))))]) (st' := [.int ((u.1 40 (Int32.toNatClampNeg (1 : Int32))) &&& (a1 ^^^ (-1 : Int32)))]) (u' := (xU u)) [(.aload_n 0, (0, 0, 0), 0, 0), (.getfield 7, (4, 0, 820), 0, 0), (.iconst 1, (0, 0, 0), 1, 0), (.iaload, (0, 0, 0), 0, 0), (.iload_n 1, (0, 0, 0), 0, 0), (.iconst (-1), (0, 0, 0), -1, 0), (.ixor, (0, 0, 0), 0, 0), (.iand, (0, 0, 0), 0, 0), (.istore_n 3, (0, 0, 0), 0, 0), (.iload_n 3, (0, 0, 0), 0, 0)] (by decide +kernel) rfl ?_
  refine xm_if_ne (pc := 12) (off := 10) (tgt := 22) (by decide +kernel) (by decide) ?_ ?_
  · refine xm_blk0 (pc' := 28) (lv' := [(0, .ref 39), (1, .int a1), (2, .int a2), (3, .int ((u.1 40 (Int32.toNatClampNeg (1 : Int32))) &&& (a1 ^^^ (-1 : Int32)))), (4, .int (1 : Int32)), (5, .int (0 : Int32))]) (st' := []) (u' := (xU u)) [(.iconst 1, (0, 0, 0), 1, 0), (.istore 4, (0, 0, 0), 0, 0), (.iconst 0, (0, 0, 0), 0, 0), (.istore 5, (0, 0, 0), 0, 0)] (by decide +kernel) rfl ?_
    exact go_X4_withstands_L28 N u N a1 a2 ((u.1 40 (Int32.toNatClampNeg (1 : Int32))) &&& (a1 ^^^ (-1 : Int32))) (1 : Int32) (0 : Int32)
  · refine xm_blk0 (pc' := 18) (lv' := [(0, .ref 39), (1, .int a1), (2, .int a2), (3, .int ((u.1 40 (Int32.toNatClampNeg (1 : Int32))) &&& (a1 ^^^ (-1 : Int32))))]) (st' := [.int a2, .int a1, .ref 39]) (u' := (xU u)) [(.aload_n 0, (0, 0, 0), 0, 0), (.iload_n 1, (0, 0, 0), 0, 0), (.iload_n 2, (0, 0, 0), 0, 0)] (by decide +kernel) rfl ?_
    refine xm_Vi (pc := 18) (mz := md_X4_answers) (idx := 248) (p1 := 1217) (a := 39) (as := [.int a1, .int a2]) (st := []) (ev_X4_answers N a1 a2 u) mw_X4_answers (by decide +kernel) (by decide +kernel) (by decide) rfl rfl (by decide) rfl (Nat.le_of_ble_eq_true rfl) (fun r18 => ?_)
    exact xm_zret (pc := 21) (by decide +kernel) rfl rfl
theorem ev_X4_withstands (N : Nat) (a1 : Int32) (a2 : Int32) (u : xN) : ∀ r, f_X4_withstands N a1 a2 u = some r → xEm md_X4_withstands yX4_withstands [.ref 39, .int a1, .int a2] (xU u) (some (.int r), (xU u)) := xm_met (res := (rsI (xU u))) (as := [.ref 39, .int a1, .int a2]) (go_X4_withstands N a1 a2 u) (by decide) rfl (Nat.le_of_ble_eq_true rfl)
theorem mw_X4_layTurn : xMv yX4_layTurn cX4_layTurn 3 none 0 := xMv_of (p1 := 1212) (p2 := 1211) (p3 := 97) (p4 := 78) (by decide +kernel)
/-! NeitherBareModel.layTurn()V (39,) -/
abbrev md_X4_layTurn : xMd := (cX4_layTurn, RX4, 3, none, 4)
def f_X4_layTurn_L14b (N : Nat) (rec2 : Int32 → xN → Option xN) (rec14 : Int32 → Int32 → xN → Option xN) (v1 : Int32) (v2 : Int32) (u : xN) : Option xN := Option.bind (f_X4_ways u) (fun r16 => if r16 ≤ v2 then rec2 (v1 + (1 : Int32)) u else Option.bind (f_X4_withstands N v1 v2 u) (fun r35 => gdl [inb (((64 : Int32) * v1) + v2) 16384] (rec14 v1 (v2 + (1 : Int32)) (mI u 53 (Int32.toNatClampNeg (((64 : Int32) * v1) + v2)) (vp_nar .boolean r35)))))
set_option maxRecDepth 20000 in
theorem go_X4_layTurn_L14b (N : Nat) (rec2 : Int32 → xN → Option xN) (h2 : ∀ (v1 : Int32) (u : xN), xGm md_X4_layTurn rsV (rec2 v1 u) 2 [(0, .ref 39), (1, .int v1)] [] (xU u)) (rec14 : Int32 → Int32 → xN → Option xN) (h14 : ∀ (v1 : Int32) (v2 : Int32) (u : xN), xGm md_X4_layTurn rsV (rec14 v1 v2 u) 14 [(0, .ref 39), (1, .int v1), (2, .int v2)] [] (xU u)) (v1 : Int32) (v2 : Int32) (u : xN) : xGm md_X4_layTurn rsV (f_X4_layTurn_L14b N rec2 rec14 v1 v2 u) 14 [(0, .ref 39), (1, .int v1), (2, .int v2)] [] (xU u) := by
  unfold f_X4_layTurn_L14b
  refine xm_blk0 (pc' := 16) (lv' := [(0, .ref 39), (1, .int v1), (2, .int v2)]) (st' := [.ref 39, .int v2]) (u' := (xU u)) [(.iload_n 2, (0, 0, 0), 0, 0), (.aload_n 0, (0, 0, 0), 0, 0)] (by decide +kernel) rfl ?_
  refine xm_Vi (pc := 16) (mz := md_X4_ways) (idx := 150) (p1 := 1020) (a := 39) (as := []) (st := [.int v2]) (ev_X4_ways u) mw_X4_ways (by decide +kernel) (by decide +kernel) (by decide) rfl rfl (by decide) rfl (Nat.le_of_ble_eq_true rfl) (fun r16 => ?_)
  refine xm_icmp_ge (pc := 19) (off := 26) (tgt := 45) (by decide +kernel) (by decide) ?_ ?_
  · refine xm_blk0 (pc' := 48) (lv' := [(0, .ref 39), (1, .int (v1 + (1 : Int32))), (2, .int v2)]) (st' := []) (u' := (xU u)) [(.iinc 1 1, (0, 0, 0), 1, 0)] (by decide +kernel) rfl ?_
    refine xm_goto (pc := 48) (off := -46) (tgt := 2) (by decide +kernel) (by decide) ?_
    refine xm_wk [0, 1] (lv' := [(0, .ref 39), (1, .int (v1 + (1 : Int32)))]) rfl ?_
    exact h2 (v1 + (1 : Int32)) u
  · refine xm_blk0 (pc' := 35) (lv' := [(0, .ref 39), (1, .int v1), (2, .int v2)]) (st' := [.int v2, .int v1, .ref 39, .int (((64 : Int32) * v1) + v2), .ref 53]) (u' := (xU u)) [(.aload_n 0, (0, 0, 0), 0, 0), (.getfield 54, (4, 24, 844), 0, 0), (.bipush 64, (0, 0, 0), 64, 0), (.iload_n 1, (0, 0, 0), 0, 0), (.imul, (0, 0, 0), 0, 0), (.iload_n 2, (0, 0, 0), 0, 0), (.iadd, (0, 0, 0), 0, 0), (.aload_n 0, (0, 0, 0), 0, 0), (.iload_n 1, (0, 0, 0), 0, 0), (.iload_n 2, (0, 0, 0), 0, 0)] (by decide +kernel) rfl ?_
    refine xm_Vi (pc := 35) (mz := md_X4_withstands) (idx := 251) (p1 := 1213) (a := 39) (as := [.int v1, .int v2]) (st := [.int (((64 : Int32) * v1) + v2), .ref 53]) (ev_X4_withstands N v1 v2 u) mw_X4_withstands (by decide +kernel) (by decide +kernel) (by decide) rfl rfl (by decide) rfl (Nat.le_of_ble_eq_true rfl) (fun r35 => ?_)
    refine xm_blk (bs := [inb (((64 : Int32) * v1) + v2) 16384]) (pc' := 42) (lv' := [(0, .ref 39), (1, .int v1), (2, .int (v2 + (1 : Int32)))]) (st' := []) (u' := (xU (mI u 53 (Int32.toNatClampNeg (((64 : Int32) * v1) + v2)) (vp_nar .boolean r35)))) [(.bastore, (0, 0, 0), 0, 0), (.iinc 2 1, (0, 0, 0), 1, 0)] (by decide +kernel) rfl ?_
    refine xm_goto (pc := 42) (off := -28) (tgt := 14) (by decide +kernel) (by decide) ?_
    exact h14 v1 (v2 + (1 : Int32)) (mI u 53 (Int32.toNatClampNeg (((64 : Int32) * v1) + v2)) (vp_nar .boolean r35))
def f_X4_layTurn_L14 (N : Nat) (rec2 : Int32 → xN → Option xN) : Nat → Int32 → Int32 → xN → Option xN
  | 0 => fun _ _ _ => none
  | n + 1 => fun v1 v2 u => f_X4_layTurn_L14b N rec2 (f_X4_layTurn_L14 N rec2 n) v1 v2 u
theorem go_X4_layTurn_L14 (N : Nat) (rec2 : Int32 → xN → Option xN) (h2 : ∀ (v1 : Int32) (u : xN), xGm md_X4_layTurn rsV (rec2 v1 u) 2 [(0, .ref 39), (1, .int v1)] [] (xU u)) : ∀ (n : Nat) (v1 : Int32) (v2 : Int32) (u : xN), xGm md_X4_layTurn rsV (f_X4_layTurn_L14 N rec2 n v1 v2 u) 14 [(0, .ref 39), (1, .int v1), (2, .int v2)] [] (xU u) := by
  intro n
  induction n with
  | zero => intro v1 v2 u; exact xm_none
  | succ n ih => intro v1 v2 u; exact go_X4_layTurn_L14b N rec2 h2 _ ih v1 v2 u
def f_X4_layTurn_L53b (N : Nat) (rec53 : Int32 → xN → Option xN) (v1 : Int32) (u : xN) : Option xN := if (16384 : Int32) ≤ v1 then some u else gdl [inb v1 16384, inb v1 16384] (rec53 (v1 + (1 : Int32)) (mI u 52 (Int32.toNatClampNeg v1) (vp_nar .boolean (u.1 53 (Int32.toNatClampNeg v1)))))
set_option maxRecDepth 20000 in
theorem go_X4_layTurn_L53b (N : Nat) (rec53 : Int32 → xN → Option xN) (h53 : ∀ (v1 : Int32) (u : xN), xGm md_X4_layTurn rsV (rec53 v1 u) 53 [(0, .ref 39), (1, .int v1)] [] (xU u)) (v1 : Int32) (u : xN) : xGm md_X4_layTurn rsV (f_X4_layTurn_L53b N rec53 v1 u) 53 [(0, .ref 39), (1, .int v1)] [] (xU u) := by
  unfold f_X4_layTurn_L53b
  refine xm_blk0 (pc' := 57) (lv' := [(0, .ref 39), (1, .int v1)]) (st' := [.int (16384 : Int32), .int v1]) (u' := (xU u)) [(.iload_n 1, (0, 0, 0), 0, 0), (.sipush 16384, (0, 0, 0), 16384, 0)] (by decide +kernel) rfl ?_
  refine xm_icmp_ge (pc := 57) (off := 21) (tgt := 78) (by decide +kernel) (by decide) ?_ ?_
  · exact xm_vret (pc := 78) (by decide +kernel) rfl rfl
  · refine xm_blk (bs := [inb v1 16384, inb v1 16384]) (pc' := 75) (lv' := [(0, .ref 39), (1, .int (v1 + (1 : Int32)))]) (st' := []) (u' := (xU (mI u 52 (Int32.toNatClampNeg v1) (vp_nar .boolean (u.1 53 (Int32.toNatClampNeg v1)))))) [(.aload_n 0, (0, 0, 0), 0, 0), (.getfield 50, (4, 23, 843), 0, 0), (.iload_n 1, (0, 0, 0), 0, 0), (.aload_n 0, (0, 0, 0), 0, 0), (.getfield 54, (4, 24, 844), 0, 0), (.iload_n 1, (0, 0, 0), 0, 0), (.baload, (0, 0, 0), 0, 0), (.bastore, (0, 0, 0), 0, 0), (.iinc 1 1, (0, 0, 0), 1, 0)] (by decide +kernel) rfl ?_
    refine xm_goto (pc := 75) (off := -22) (tgt := 53) (by decide +kernel) (by decide) ?_
    exact h53 (v1 + (1 : Int32)) (mI u 52 (Int32.toNatClampNeg v1) (vp_nar .boolean (u.1 53 (Int32.toNatClampNeg v1))))
def f_X4_layTurn_L53 (N : Nat) : Nat → Int32 → xN → Option xN
  | 0 => fun _ _ => none
  | n + 1 => fun v1 u => f_X4_layTurn_L53b N (f_X4_layTurn_L53 N n) v1 u
theorem go_X4_layTurn_L53 (N : Nat) : ∀ (n : Nat) (v1 : Int32) (u : xN), xGm md_X4_layTurn rsV (f_X4_layTurn_L53 N n v1 u) 53 [(0, .ref 39), (1, .int v1)] [] (xU u) := by
  intro n
  induction n with
  | zero => intro v1 u; exact xm_none
  | succ n ih => intro v1 u; exact go_X4_layTurn_L53b N _ ih v1 u
def f_X4_layTurn_L2b (N : Nat) (rec2 : Int32 → xN → Option xN) (v1 : Int32) (u : xN) : Option xN := if ((1 : Int32) <<< ((u.1 39 3) &&& 31)) ≤ v1 then f_X4_layTurn_L53 N N (0 : Int32) u else f_X4_layTurn_L14 N rec2 N v1 (0 : Int32) u
set_option maxRecDepth 20000 in
theorem go_X4_layTurn_L2b (N : Nat) (rec2 : Int32 → xN → Option xN) (h2 : ∀ (v1 : Int32) (u : xN), xGm md_X4_layTurn rsV (rec2 v1 u) 2 [(0, .ref 39), (1, .int v1)] [] (xU u)) (v1 : Int32) (u : xN) : xGm md_X4_layTurn rsV (f_X4_layTurn_L2b N rec2 v1 u) 2 [(0, .ref 39), (1, .int v1)] [] (xU u) := by
  unfold f_X4_layTurn_L2b
  refine xm_blk0 (pc' := 9) (lv' := [(0, .ref 39), (1, .int v1)]) (st' := [.int ((1 : Int32) <<< ((u.1 39 3) &&& 31)), .int v1]) (u' := (xU u)) [(.iload_n 1, (0, 0, 0), 0, 0), (.iconst 1, (0, 0, 0), 1, 0), (.aload_n 0, (0, 0, 0), 0, 0), (.getfield 60, (4, 3, 823), 0, 0), (.ishl, (0, 0, 0), 0, 0)] (by decide +kernel) rfl ?_
  refine xm_icmp_ge (pc := 9) (off := 42) (tgt := 51) (by decide +kernel) (by decide) ?_ ?_
  · refine xm_blk0 (pc' := 53) (lv' := [(0, .ref 39), (1, .int (0 : Int32))]) (st' := []) (u' := (xU u)) [(.iconst 0, (0, 0, 0), 0, 0), (.istore_n 1, (0, 0, 0), 0, 0)] (by decide +kernel) rfl ?_
    exact go_X4_layTurn_L53 N N (0 : Int32) u
  · refine xm_blk0 (pc' := 14) (lv' := [(0, .ref 39), (1, .int v1), (2, .int (0 : Int32))]) (st' := []) (u' := (xU u)) [(.iconst 0, (0, 0, 0), 0, 0), (.istore_n 2, (0, 0, 0), 0, 0)] (by decide +kernel) rfl ?_
    exact go_X4_layTurn_L14 N rec2 h2 N v1 (0 : Int32) u
def f_X4_layTurn_L2 (N : Nat) : Nat → Int32 → xN → Option xN
  | 0 => fun _ _ => none
  | n + 1 => fun v1 u => f_X4_layTurn_L2b N (f_X4_layTurn_L2 N n) v1 u
theorem go_X4_layTurn_L2 (N : Nat) : ∀ (n : Nat) (v1 : Int32) (u : xN), xGm md_X4_layTurn rsV (f_X4_layTurn_L2 N n v1 u) 2 [(0, .ref 39), (1, .int v1)] [] (xU u) := by
  intro n
  induction n with
  | zero => intro v1 u; exact xm_none
  | succ n ih => intro v1 u; exact go_X4_layTurn_L2b N _ ih v1 u
def f_X4_layTurn (N : Nat) (u : xN) : Option xN := f_X4_layTurn_L2 N N (0 : Int32) u
set_option maxRecDepth 20000 in
theorem go_X4_layTurn (N : Nat) (u : xN) : xGm md_X4_layTurn rsV (f_X4_layTurn N u) 0 [(0, .ref 39)] [] (xU u) := by
  unfold f_X4_layTurn
  refine xm_blk0 (pc' := 2) (lv' := [(0, .ref 39), (1, .int (0 : Int32))]) (st' := []) (u' := (xU u)) [(.iconst 0, (0, 0, 0), 0, 0), (.istore_n 1, (0, 0, 0), 0, 0)] (by decide +kernel) rfl ?_
  exact go_X4_layTurn_L2 N N (0 : Int32) u
theorem ev_X4_layTurn (N : Nat) (u : xN) : ∀ r, f_X4_layTurn N u = some r → xEm md_X4_layTurn yX4_layTurn [.ref 39] (xU u) (none, xU r) := xm_met (res := rsV) (as := [.ref 39]) (go_X4_layTurn N u) (by decide) rfl (Nat.le_of_ble_eq_true rfl)
theorem mw_X4_layGame : xMv yX4_layGame cX4_layGame 4 none 1 := xMv_of (p1 := 1208) (p2 := 1207) (p3 := 97) (p4 := 77) (by decide +kernel)
/-! NeitherBareModel.layGame(I)V (39, None) -/
abbrev md_X4_layGame : xMd := (cX4_layGame, RX4, 4, none, 7)
def f_X4_layGame_L49 (N : Nat) (rec2 : Int32 → Int32 → xN → Option xN) (rec14 : Int32 → Int32 → Int32 → xN → Option xN) (v1 : Int32) (v2 : Int32) (v3 : Int32) (t0 : Int32) (t1 : Int32) (u : xN) : Option xN := gdl [inb t1 16384] (rec14 v1 v2 (v3 + (1 : Int32)) (mI u 52 (Int32.toNatClampNeg t1) (vp_nar .boolean t0)))
set_option maxRecDepth 20000 in
theorem go_X4_layGame_L49 (N : Nat) (rec2 : Int32 → Int32 → xN → Option xN) (h2 : ∀ (v1 : Int32) (v2 : Int32) (u : xN), xGm md_X4_layGame rsV (rec2 v1 v2 u) 2 [(0, .ref 39), (1, .int v1), (2, .int v2)] [] (xU u)) (rec14 : Int32 → Int32 → Int32 → xN → Option xN) (h14 : ∀ (v1 : Int32) (v2 : Int32) (v3 : Int32) (u : xN), xGm md_X4_layGame rsV (rec14 v1 v2 v3 u) 14 [(0, .ref 39), (1, .int v1), (2, .int v2), (3, .int v3)] [] (xU u)) (v1 : Int32) (v2 : Int32) (v3 : Int32) (t0 : Int32) (t1 : Int32) (u : xN) : xGm md_X4_layGame rsV (f_X4_layGame_L49 N rec2 rec14 v1 v2 v3 t0 t1 u) 49 [(0, .ref 39), (1, .int v1), (2, .int v2), (3, .int v3)] [.int t0, .int t1, .ref 52] (xU u) := by
  unfold f_X4_layGame_L49
  refine xm_blk (bs := [inb t1 16384]) (pc' := 53) (lv' := [(0, .ref 39), (1, .int v1), (2, .int v2), (3, .int (v3 + (1 : Int32)))]) (st' := []) (u' := (xU (mI u 52 (Int32.toNatClampNeg t1) (vp_nar .boolean t0)))) [(.bastore, (0, 0, 0), 0, 0), (.iinc 3 1, (0, 0, 0), 1, 0)] (by decide +kernel) rfl ?_
  refine xm_goto (pc := 53) (off := -39) (tgt := 14) (by decide +kernel) (by decide) ?_
  exact h14 v1 v2 (v3 + (1 : Int32)) (mI u 52 (Int32.toNatClampNeg t1) (vp_nar .boolean t0))
def f_X4_layGame_L14b (N : Nat) (rec2 : Int32 → Int32 → xN → Option xN) (rec14 : Int32 → Int32 → Int32 → xN → Option xN) (v1 : Int32) (v2 : Int32) (v3 : Int32) (u : xN) : Option xN := Option.bind (f_X4_ways u) (fun r16 => if r16 ≤ v3 then rec2 v1 (v2 + (1 : Int32)) u else Option.bind (f_X4_heldBy N v3 u) (fun r35 => if (v2 &&& (r35 ^^^ (-1 : Int32))) = (0 : Int32) then f_X4_layGame_L49 N rec2 rec14 v1 v2 v3 (1 : Int32) (((64 : Int32) * v2) + v3) u else f_X4_layGame_L49 N rec2 rec14 v1 v2 v3 (0 : Int32) (((64 : Int32) * v2) + v3) u))
set_option maxRecDepth 20000 in
theorem go_X4_layGame_L14b (N : Nat) (rec2 : Int32 → Int32 → xN → Option xN) (h2 : ∀ (v1 : Int32) (v2 : Int32) (u : xN), xGm md_X4_layGame rsV (rec2 v1 v2 u) 2 [(0, .ref 39), (1, .int v1), (2, .int v2)] [] (xU u)) (rec14 : Int32 → Int32 → Int32 → xN → Option xN) (h14 : ∀ (v1 : Int32) (v2 : Int32) (v3 : Int32) (u : xN), xGm md_X4_layGame rsV (rec14 v1 v2 v3 u) 14 [(0, .ref 39), (1, .int v1), (2, .int v2), (3, .int v3)] [] (xU u)) (v1 : Int32) (v2 : Int32) (v3 : Int32) (u : xN) : xGm md_X4_layGame rsV (f_X4_layGame_L14b N rec2 rec14 v1 v2 v3 u) 14 [(0, .ref 39), (1, .int v1), (2, .int v2), (3, .int v3)] [] (xU u) := by
  unfold f_X4_layGame_L14b
  refine xm_blk0 (pc' := 16) (lv' := [(0, .ref 39), (1, .int v1), (2, .int v2), (3, .int v3)]) (st' := [.ref 39, .int v3]) (u' := (xU u)) [(.iload_n 3, (0, 0, 0), 0, 0), (.aload_n 0, (0, 0, 0), 0, 0)] (by decide +kernel) rfl ?_
  refine xm_Vi (pc := 16) (mz := md_X4_ways) (idx := 150) (p1 := 1020) (a := 39) (as := []) (st := [.int v3]) (ev_X4_ways u) mw_X4_ways (by decide +kernel) (by decide +kernel) (by decide) rfl rfl (by decide) rfl (Nat.le_of_ble_eq_true rfl) (fun r16 => ?_)
  refine xm_icmp_ge (pc := 19) (off := 37) (tgt := 56) (by decide +kernel) (by decide) ?_ ?_
  · refine xm_blk0 (pc' := 59) (lv' := [(0, .ref 39), (1, .int v1), (2, .int (v2 + (1 : Int32))), (3, .int v3)]) (st' := []) (u' := (xU u)) [(.iinc 2 1, (0, 0, 0), 1, 0)] (by decide +kernel) rfl ?_
    refine xm_goto (pc := 59) (off := -57) (tgt := 2) (by decide +kernel) (by decide) ?_
    refine xm_wk [0, 1, 2] (lv' := [(0, .ref 39), (1, .int v1), (2, .int (v2 + (1 : Int32)))]) rfl ?_
    exact h2 v1 (v2 + (1 : Int32)) u
  · refine xm_blk0 (pc' := 35) (lv' := [(0, .ref 39), (1, .int v1), (2, .int v2), (3, .int v3)]) (st' := [.int v3, .ref 39, .int v2, .int (((64 : Int32) * v2) + v3), .ref 52]) (u' := (xU u)) [(.aload_n 0, (0, 0, 0), 0, 0), (.getfield 50, (4, 23, 843), 0, 0), (.bipush 64, (0, 0, 0), 64, 0), (.iload_n 2, (0, 0, 0), 0, 0), (.imul, (0, 0, 0), 0, 0), (.iload_n 3, (0, 0, 0), 0, 0), (.iadd, (0, 0, 0), 0, 0), (.iload_n 2, (0, 0, 0), 0, 0), (.aload_n 0, (0, 0, 0), 0, 0), (.iload_n 3, (0, 0, 0), 0, 0)] (by decide +kernel) rfl ?_
    refine xm_Vi (pc := 35) (mz := md_X4_heldBy) (idx := 185) (p1 := 1145) (a := 39) (as := [.int v3]) (st := [.int v2, .int (((64 : Int32) * v2) + v3), .ref 52]) (ev_X4_heldBy N v3 u) mw_X4_heldBy (by decide +kernel) (by decide +kernel) (by decide) rfl rfl (by decide) rfl (Nat.le_of_ble_eq_true rfl) (fun r35 => ?_)
    refine xm_blk0 (pc' := 41) (lv' := [(0, .ref 39), (1, .int v1), (2, .int v2), (3, .int v3)]) (st' := [.int (v2 &&& (r35 ^^^ (-1 : Int32))), .int (((64 : Int32) * v2) + v3), .ref 52]) (u' := (xU u)) [(.iconst (-1), (0, 0, 0), -1, 0), (.ixor, (0, 0, 0), 0, 0), (.iand, (0, 0, 0), 0, 0)] (by decide +kernel) rfl ?_
    refine xm_if_ne (pc := 41) (off := 7) (tgt := 48) (by decide +kernel) (by decide) ?_ ?_
    · refine xm_blk0 (pc' := 49) (lv' := [(0, .ref 39), (1, .int v1), (2, .int v2), (3, .int v3)]) (st' := [.int (0 : Int32), .int (((64 : Int32) * v2) + v3), .ref 52]) (u' := (xU u)) [(.iconst 0, (0, 0, 0), 0, 0)] (by decide +kernel) rfl ?_
      exact go_X4_layGame_L49 N rec2 h2 rec14 h14 v1 v2 v3 (0 : Int32) (((64 : Int32) * v2) + v3) u
    · refine xm_blk0 (pc' := 45) (lv' := [(0, .ref 39), (1, .int v1), (2, .int v2), (3, .int v3)]) (st' := [.int (1 : Int32), .int (((64 : Int32) * v2) + v3), .ref 52]) (u' := (xU u)) [(.iconst 1, (0, 0, 0), 1, 0)] (by decide +kernel) rfl ?_
      refine xm_goto (pc := 45) (off := 4) (tgt := 49) (by decide +kernel) (by decide) ?_
      exact go_X4_layGame_L49 N rec2 h2 rec14 h14 v1 v2 v3 (1 : Int32) (((64 : Int32) * v2) + v3) u
def f_X4_layGame_L14 (N : Nat) (rec2 : Int32 → Int32 → xN → Option xN) : Nat → Int32 → Int32 → Int32 → xN → Option xN
  | 0 => fun _ _ _ _ => none
  | n + 1 => fun v1 v2 v3 u => f_X4_layGame_L14b N rec2 (f_X4_layGame_L14 N rec2 n) v1 v2 v3 u
theorem go_X4_layGame_L14 (N : Nat) (rec2 : Int32 → Int32 → xN → Option xN) (h2 : ∀ (v1 : Int32) (v2 : Int32) (u : xN), xGm md_X4_layGame rsV (rec2 v1 v2 u) 2 [(0, .ref 39), (1, .int v1), (2, .int v2)] [] (xU u)) : ∀ (n : Nat) (v1 : Int32) (v2 : Int32) (v3 : Int32) (u : xN), xGm md_X4_layGame rsV (f_X4_layGame_L14 N rec2 n v1 v2 v3 u) 14 [(0, .ref 39), (1, .int v1), (2, .int v2), (3, .int v3)] [] (xU u) := by
  intro n
  induction n with
  | zero => intro v1 v2 v3 u; exact xm_none
  | succ n ih => intro v1 v2 v3 u; exact go_X4_layGame_L14b N rec2 h2 _ ih v1 v2 v3 u
def f_X4_layGame_L64b (N : Nat) (rec64 : Int32 → Int32 → xN → Option xN) (v1 : Int32) (v2 : Int32) (u : xN) : Option xN := if v1 ≤ v2 then some u else Option.bind (f_X4_layTurn N u) (fun r70 => rec64 v1 (v2 + (1 : Int32)) r70)
set_option maxRecDepth 20000 in
theorem go_X4_layGame_L64b (N : Nat) (rec64 : Int32 → Int32 → xN → Option xN) (h64 : ∀ (v1 : Int32) (v2 : Int32) (u : xN), xGm md_X4_layGame rsV (rec64 v1 v2 u) 64 [(0, .ref 39), (1, .int v1), (2, .int v2)] [] (xU u)) (v1 : Int32) (v2 : Int32) (u : xN) : xGm md_X4_layGame rsV (f_X4_layGame_L64b N rec64 v1 v2 u) 64 [(0, .ref 39), (1, .int v1), (2, .int v2)] [] (xU u) := by
  unfold f_X4_layGame_L64b
  refine xm_blk0 (pc' := 66) (lv' := [(0, .ref 39), (1, .int v1), (2, .int v2)]) (st' := [.int v1, .int v2]) (u' := (xU u)) [(.iload_n 2, (0, 0, 0), 0, 0), (.iload_n 1, (0, 0, 0), 0, 0)] (by decide +kernel) rfl ?_
  refine xm_icmp_ge (pc := 66) (off := 13) (tgt := 79) (by decide +kernel) (by decide) ?_ ?_
  · exact xm_vret (pc := 79) (by decide +kernel) rfl rfl
  · refine xm_blk0 (pc' := 70) (lv' := [(0, .ref 39), (1, .int v1), (2, .int v2)]) (st' := [.ref 39]) (u' := (xU u)) [(.aload_n 0, (0, 0, 0), 0, 0)] (by decide +kernel) rfl ?_
    refine xm_Vv (pc := 70) (mz := md_X4_layTurn) (idx := 254) (p1 := 1209) (a := 39) (as := []) (st := []) (ev_X4_layTurn N u) mw_X4_layTurn (by decide +kernel) (by decide +kernel) (by decide) rfl rfl (by decide) rfl (Nat.le_of_ble_eq_true rfl) (fun r70 => ?_)
    refine xm_blk0 (pc' := 76) (lv' := [(0, .ref 39), (1, .int v1), (2, .int (v2 + (1 : Int32)))]) (st' := []) (u' := (xU r70)) [(.iinc 2 1, (0, 0, 0), 1, 0)] (by decide +kernel) rfl ?_
    refine xm_goto (pc := 76) (off := -12) (tgt := 64) (by decide +kernel) (by decide) ?_
    exact h64 v1 (v2 + (1 : Int32)) r70
def f_X4_layGame_L64 (N : Nat) : Nat → Int32 → Int32 → xN → Option xN
  | 0 => fun _ _ _ => none
  | n + 1 => fun v1 v2 u => f_X4_layGame_L64b N (f_X4_layGame_L64 N n) v1 v2 u
theorem go_X4_layGame_L64 (N : Nat) : ∀ (n : Nat) (v1 : Int32) (v2 : Int32) (u : xN), xGm md_X4_layGame rsV (f_X4_layGame_L64 N n v1 v2 u) 64 [(0, .ref 39), (1, .int v1), (2, .int v2)] [] (xU u) := by
  intro n
  induction n with
  | zero => intro v1 v2 u; exact xm_none
  | succ n ih => intro v1 v2 u; exact go_X4_layGame_L64b N _ ih v1 v2 u
def f_X4_layGame_L2b (N : Nat) (rec2 : Int32 → Int32 → xN → Option xN) (v1 : Int32) (v2 : Int32) (u : xN) : Option xN := if ((1 : Int32) <<< ((u.1 39 3) &&& 31)) ≤ v2 then f_X4_layGame_L64 N N v1 (0 : Int32) u else f_X4_layGame_L14 N rec2 N v1 v2 (0 : Int32) u
set_option maxRecDepth 20000 in
theorem go_X4_layGame_L2b (N : Nat) (rec2 : Int32 → Int32 → xN → Option xN) (h2 : ∀ (v1 : Int32) (v2 : Int32) (u : xN), xGm md_X4_layGame rsV (rec2 v1 v2 u) 2 [(0, .ref 39), (1, .int v1), (2, .int v2)] [] (xU u)) (v1 : Int32) (v2 : Int32) (u : xN) : xGm md_X4_layGame rsV (f_X4_layGame_L2b N rec2 v1 v2 u) 2 [(0, .ref 39), (1, .int v1), (2, .int v2)] [] (xU u) := by
  unfold f_X4_layGame_L2b
  refine xm_blk0 (pc' := 9) (lv' := [(0, .ref 39), (1, .int v1), (2, .int v2)]) (st' := [.int ((1 : Int32) <<< ((u.1 39 3) &&& 31)), .int v2]) (u' := (xU u)) [(.iload_n 2, (0, 0, 0), 0, 0), (.iconst 1, (0, 0, 0), 1, 0), (.aload_n 0, (0, 0, 0), 0, 0), (.getfield 60, (4, 3, 823), 0, 0), (.ishl, (0, 0, 0), 0, 0)] (by decide +kernel) rfl ?_
  refine xm_icmp_ge (pc := 9) (off := 53) (tgt := 62) (by decide +kernel) (by decide) ?_ ?_
  · refine xm_blk0 (pc' := 64) (lv' := [(0, .ref 39), (1, .int v1), (2, .int (0 : Int32))]) (st' := []) (u' := (xU u)) [(.iconst 0, (0, 0, 0), 0, 0), (.istore_n 2, (0, 0, 0), 0, 0)] (by decide +kernel) rfl ?_
    exact go_X4_layGame_L64 N N v1 (0 : Int32) u
  · refine xm_blk0 (pc' := 14) (lv' := [(0, .ref 39), (1, .int v1), (2, .int v2), (3, .int (0 : Int32))]) (st' := []) (u' := (xU u)) [(.iconst 0, (0, 0, 0), 0, 0), (.istore_n 3, (0, 0, 0), 0, 0)] (by decide +kernel) rfl ?_
    exact go_X4_layGame_L14 N rec2 h2 N v1 v2 (0 : Int32) u
def f_X4_layGame_L2 (N : Nat) : Nat → Int32 → Int32 → xN → Option xN
  | 0 => fun _ _ _ => none
  | n + 1 => fun v1 v2 u => f_X4_layGame_L2b N (f_X4_layGame_L2 N n) v1 v2 u
theorem go_X4_layGame_L2 (N : Nat) : ∀ (n : Nat) (v1 : Int32) (v2 : Int32) (u : xN), xGm md_X4_layGame rsV (f_X4_layGame_L2 N n v1 v2 u) 2 [(0, .ref 39), (1, .int v1), (2, .int v2)] [] (xU u) := by
  intro n
  induction n with
  | zero => intro v1 v2 u; exact xm_none
  | succ n ih => intro v1 v2 u; exact go_X4_layGame_L2b N _ ih v1 v2 u
def f_X4_layGame (N : Nat) (a1 : Int32) (u : xN) : Option xN := f_X4_layGame_L2 N N a1 (0 : Int32) u
set_option maxRecDepth 20000 in
theorem go_X4_layGame (N : Nat) (a1 : Int32) (u : xN) : xGm md_X4_layGame rsV (f_X4_layGame N a1 u) 0 [(0, .ref 39), (1, .int a1)] [] (xU u) := by
  unfold f_X4_layGame
  refine xm_blk0 (pc' := 2) (lv' := [(0, .ref 39), (1, .int a1), (2, .int (0 : Int32))]) (st' := []) (u' := (xU u)) [(.iconst 0, (0, 0, 0), 0, 0), (.istore_n 2, (0, 0, 0), 0, 0)] (by decide +kernel) rfl ?_
  exact go_X4_layGame_L2 N N a1 (0 : Int32) u
theorem ev_X4_layGame (N : Nat) (a1 : Int32) (u : xN) : ∀ r, f_X4_layGame N a1 u = some r → xEm md_X4_layGame yX4_layGame [.ref 39, .int a1] (xU u) (none, xU r) := xm_met (res := rsV) (as := [.ref 39, .int a1]) (go_X4_layGame N a1 u) (by decide) rfl (Nat.le_of_ble_eq_true rfl)
theorem mw_X4_game : xMv yX4_game cX4_game 2 (some .int) 1 := xMv_of (p1 := 1204) (p2 := 1202) (p3 := 97) (p4 := 1203) (by decide +kernel)
/-! NeitherBareModel.game(I)I (39, None) -/
abbrev md_X4_game : xMd := (cX4_game, RX4, 2, some .int, 8)
def f_X4_game_L43 (N : Nat) (t0 : Int32) (u : xN) : Option (Int32 × xN) := some (t0, u)
set_option maxRecDepth 20000 in
theorem go_X4_game_L43 (N : Nat) (t0 : Int32) (u : xN) : xGm md_X4_game rsM (f_X4_game_L43 N t0 u) 43 [] [.int t0] (xU u) := by
  unfold f_X4_game_L43
  exact xm_iret (pc := 43) (by decide +kernel) rfl rfl
def f_X4_game (N : Nat) (a1 : Int32) (u : xN) : Option (Int32 × xN) := Option.bind (f_X4_in (Int32.toInt64 a1) (0 : Int64) (3 : Int64)) (fun r6 => if r6 = (0 : Int32) then some ((-1 : Int32), u) else if (u.1 39 1) = (0 : Int32) then some ((-4 : Int32), u) else Option.bind (f_X4_layGame N a1 u) (fun r26 => gdl [inb (0 : Int32) 16384] (if (r26.1 52 (Int32.toNatClampNeg (0 : Int32))) = (0 : Int32) then f_X4_game_L43 N (0 : Int32) r26 else f_X4_game_L43 N (1 : Int32) r26)))
set_option maxRecDepth 20000 in
theorem go_X4_game (N : Nat) (a1 : Int32) (u : xN) : xGm md_X4_game rsM (f_X4_game N a1 u) 0 [(0, .ref 39), (1, .int a1)] [] (xU u) := by
  unfold f_X4_game
  refine xm_blk0 (pc' := 6) (lv' := [(0, .ref 39), (1, .int a1)]) (st' := [.long (3 : Int64), .long (0 : Int64), .long (Int32.toInt64 a1)]) (u' := (xU u)) [(.iload_n 1, (0, 0, 0), 0, 0), (.i2l, (0, 0, 0), 0, 0), (.lconst 0, (0, 0, 0), 0, 0), (.ldc2_w 76, (0, 0, 955), 0, 3)] (by decide +kernel) rfl ?_
  refine xm_Si (pc := 6) (mz := md_X4_in) (idx := 72) (p1 := 905) (as := [.long (Int32.toInt64 a1), .long (0 : Int64), .long (3 : Int64)]) (st := []) (ev_X4_in (Int32.toInt64 a1) (0 : Int64) (3 : Int64) u) mw_X4_in (by decide +kernel) (by decide +kernel) (by decide) rfl (Nat.le_of_ble_eq_true rfl) (fun r6 => ?_)
  refine xm_if_ne (pc := 9) (off := 5) (tgt := 14) (by decide +kernel) (by decide) ?_ ?_
  · refine xm_blk0 (pc' := 18) (lv' := [(0, .ref 39), (1, .int a1)]) (st' := [.int (u.1 39 1)]) (u' := (xU u)) [(.aload_n 0, (0, 0, 0), 0, 0), (.getfield 147, (4, 1, 821), 0, 0)] (by decide +kernel) rfl ?_
    refine xm_if_ne (pc := 18) (off := 6) (tgt := 24) (by decide +kernel) (by decide) ?_ ?_
    · refine xm_blk0 (pc' := 26) (lv' := [(0, .ref 39), (1, .int a1)]) (st' := [.int a1, .ref 39]) (u' := (xU u)) [(.aload_n 0, (0, 0, 0), 0, 0), (.iload_n 1, (0, 0, 0), 0, 0)] (by decide +kernel) rfl ?_
      refine xm_Vv (pc := 26) (mz := md_X4_layGame) (idx := 257) (p1 := 1205) (a := 39) (as := [.int a1]) (st := []) (ev_X4_layGame N a1 u) mw_X4_layGame (by decide +kernel) (by decide +kernel) (by decide) rfl rfl (by decide) rfl (Nat.le_of_ble_eq_true rfl) (fun r26 => ?_)
      refine xm_blk (bs := [inb (0 : Int32) 16384]) (pc' := 35) (lv' := [(0, .ref 39), (1, .int a1)]) (st' := [.int (r26.1 52 (Int32.toNatClampNeg (0 : Int32)))]) (u' := (xU r26)) [(.aload_n 0, (0, 0, 0), 0, 0), (.getfield 50, (4, 23, 843), 0, 0), (.iconst 0, (0, 0, 0), 0, 0), (.baload, (0, 0, 0), 0, 0)] (by decide +kernel) rfl ?_
      refine xm_if_eq (pc := 35) (off := 7) (tgt := 42) (by decide +kernel) (by decide) ?_ ?_
      · refine xm_blk0 (pc' := 43) (lv' := [(0, .ref 39), (1, .int a1)]) (st' := [.int (0 : Int32)]) (u' := (xU r26)) [(.iconst 0, (0, 0, 0), 0, 0)] (by decide +kernel) rfl ?_
        refine xm_wk [] (lv' := []) rfl ?_
        exact go_X4_game_L43 N (0 : Int32) r26
      · refine xm_blk0 (pc' := 39) (lv' := [(0, .ref 39), (1, .int a1)]) (st' := [.int (1 : Int32)]) (u' := (xU r26)) [(.iconst 1, (0, 0, 0), 1, 0)] (by decide +kernel) rfl ?_
        refine xm_goto (pc := 39) (off := 4) (tgt := 43) (by decide +kernel) (by decide) ?_
        refine xm_wk [] (lv' := []) rfl ?_
        exact go_X4_game_L43 N (1 : Int32) r26
    · refine xm_blk0 (pc' := 23) (lv' := [(0, .ref 39), (1, .int a1)]) (st' := [.int (-4 : Int32)]) (u' := (xU u)) [(.bipush (-4), (0, 0, 0), -4, 0)] (by decide +kernel) rfl ?_
      exact xm_iret (pc := 23) (by decide +kernel) rfl rfl
  · refine xm_blk0 (pc' := 13) (lv' := [(0, .ref 39), (1, .int a1)]) (st' := [.int (-1 : Int32)]) (u' := (xU u)) [(.iconst (-1), (0, 0, 0), -1, 0)] (by decide +kernel) rfl ?_
    exact xm_iret (pc := 13) (by decide +kernel) rfl rfl
theorem ev_X4_game (N : Nat) (a1 : Int32) (u : xN) : ∀ r, f_X4_game N a1 u = some r → xEm md_X4_game yX4_game [.ref 39, .int a1] (xU u) (some (.int r.1), xU r.2) := xm_met (res := rsM) (as := [.ref 39, .int a1]) (go_X4_game N a1 u) (by decide) rfl (Nat.le_of_ble_eq_true rfl)
theorem mw_X4_names : xMv yX4_names cX4_names 3 (some .int) 1 := xMv_of (p1 := 1224) (p2 := 1222) (p3 := 97) (p4 := 1223) (by decide +kernel)
/-! NeitherBareModel.names(I)I (39, None) -/
abbrev md_X4_names : xMd := (cX4_names, RX4, 3, some .int, 8)
def f_X4_names_L67 (N : Nat) (rec33 : Int32 → xN → Option (Int32 × xN)) (v2 : Int32) (u : xN) : Option (Int32 × xN) := rec33 (v2 + (1 : Int32)) u
set_option maxRecDepth 20000 in
theorem go_X4_names_L67 (N : Nat) (rec33 : Int32 → xN → Option (Int32 × xN)) (h33 : ∀ (v2 : Int32) (u : xN), xGm md_X4_names rsM (rec33 v2 u) 33 [(0, .ref 39), (2, .int v2)] [] (xU u)) (v2 : Int32) (u : xN) : xGm md_X4_names rsM (f_X4_names_L67 N rec33 v2 u) 67 [(0, .ref 39), (2, .int v2)] [] (xU u) := by
  unfold f_X4_names_L67
  refine xm_blk0 (pc' := 70) (lv' := [(0, .ref 39), (2, .int (v2 + (1 : Int32)))]) (st' := []) (u' := (xU u)) [(.iinc 2 1, (0, 0, 0), 1, 0)] (by decide +kernel) rfl ?_
  refine xm_goto (pc := 70) (off := -37) (tgt := 33) (by decide +kernel) (by decide) ?_
  exact h33 (v2 + (1 : Int32)) u
def f_X4_names_L33b (N : Nat) (rec33 : Int32 → xN → Option (Int32 × xN)) (v2 : Int32) (u : xN) : Option (Int32 × xN) := if (u.1 39 3) ≤ v2 then some ((-9 : Int32), u) else gdl [inb (1 : Int32) 1480] (Option.bind (f_X4_has (u.1 40 (Int32.toNatClampNeg (1 : Int32))) v2) (fun r48 => if r48 = (0 : Int32) then f_X4_names_L67 N rec33 v2 u else Option.bind (f_X4_answers N ((1 : Int32) <<< (v2 &&& 31)) (0 : Int32) u) (fun r59 => if r59 = (0 : Int32) then some (v2, u) else f_X4_names_L67 N rec33 v2 u)))
set_option maxRecDepth 20000 in
theorem go_X4_names_L33b (N : Nat) (rec33 : Int32 → xN → Option (Int32 × xN)) (h33 : ∀ (v2 : Int32) (u : xN), xGm md_X4_names rsM (rec33 v2 u) 33 [(0, .ref 39), (2, .int v2)] [] (xU u)) (v2 : Int32) (u : xN) : xGm md_X4_names rsM (f_X4_names_L33b N rec33 v2 u) 33 [(0, .ref 39), (2, .int v2)] [] (xU u) := by
  unfold f_X4_names_L33b
  refine xm_blk0 (pc' := 38) (lv' := [(0, .ref 39), (2, .int v2)]) (st' := [.int (u.1 39 3), .int v2]) (u' := (xU u)) [(.iload_n 2, (0, 0, 0), 0, 0), (.aload_n 0, (0, 0, 0), 0, 0), (.getfield 60, (4, 3, 823), 0, 0)] (by decide +kernel) rfl ?_
  refine xm_icmp_ge (pc := 38) (off := 35) (tgt := 73) (by decide +kernel) (by decide) ?_ ?_
  · refine xm_blk0 (pc' := 75) (lv' := [(0, .ref 39), (2, .int v2)]) (st' := [.int (-9 : Int32)]) (u' := (xU u)) [(.bipush (-9), (0, 0, 0), -9, 0)] (by decide +kernel) rfl ?_
    exact xm_iret (pc := 75) (by decide +kernel) rfl rfl
  · refine xm_blk (bs := [inb (1 : Int32) 1480]) (pc' := 48) (lv' := [(0, .ref 39), (2, .int v2)]) (st' := [.int v2, .int (u.1 40 (Int32.toNatClampNeg (1 : Int32)))]) (u' := (xU u)) [(.aload_n 0, (0, 0, 0), 0, 0), (.getfield 7, (4, 0, 820), 0, 0), (.iconst 1, (0, 0, 0), 1, 0), (.iaload, (0, 0, 0), 0, 0), (.iload_n 2, (0, 0, 0), 0, 0)] (by decide +kernel) rfl ?_
    refine xm_Si (pc := 48) (mz := md_X4_has) (idx := 153) (p1 := 1032) (as := [.int (u.1 40 (Int32.toNatClampNeg (1 : Int32))), .int v2]) (st := []) (ev_X4_has (u.1 40 (Int32.toNatClampNeg (1 : Int32))) v2 u) mw_X4_has (by decide +kernel) (by decide +kernel) (by decide) rfl (Nat.le_of_ble_eq_true rfl) (fun r48 => ?_)
    refine xm_if_eq (pc := 51) (off := 16) (tgt := 67) (by decide +kernel) (by decide) ?_ ?_
    · exact go_X4_names_L67 N rec33 h33 v2 u
    · refine xm_blk0 (pc' := 59) (lv' := [(0, .ref 39), (2, .int v2)]) (st' := [.int (0 : Int32), .int ((1 : Int32) <<< (v2 &&& 31)), .ref 39]) (u' := (xU u)) [(.aload_n 0, (0, 0, 0), 0, 0), (.iconst 1, (0, 0, 0), 1, 0), (.iload_n 2, (0, 0, 0), 0, 0), (.ishl, (0, 0, 0), 0, 0), (.iconst 0, (0, 0, 0), 0, 0)] (by decide +kernel) rfl ?_
      refine xm_Vi (pc := 59) (mz := md_X4_answers) (idx := 248) (p1 := 1217) (a := 39) (as := [.int ((1 : Int32) <<< (v2 &&& 31)), .int (0 : Int32)]) (st := []) (ev_X4_answers N ((1 : Int32) <<< (v2 &&& 31)) (0 : Int32) u) mw_X4_answers (by decide +kernel) (by decide +kernel) (by decide) rfl rfl (by decide) rfl (Nat.le_of_ble_eq_true rfl) (fun r59 => ?_)
      refine xm_if_ne (pc := 62) (off := 5) (tgt := 67) (by decide +kernel) (by decide) ?_ ?_
      · exact go_X4_names_L67 N rec33 h33 v2 u
      · refine xm_blk0 (pc' := 66) (lv' := [(0, .ref 39), (2, .int v2)]) (st' := [.int v2]) (u' := (xU u)) [(.iload_n 2, (0, 0, 0), 0, 0)] (by decide +kernel) rfl ?_
        exact xm_iret (pc := 66) (by decide +kernel) rfl rfl
def f_X4_names_L33 (N : Nat) : Nat → Int32 → xN → Option (Int32 × xN)
  | 0 => fun _ _ => none
  | n + 1 => fun v2 u => f_X4_names_L33b N (f_X4_names_L33 N n) v2 u
theorem go_X4_names_L33 (N : Nat) : ∀ (n : Nat) (v2 : Int32) (u : xN), xGm md_X4_names rsM (f_X4_names_L33 N n v2 u) 33 [(0, .ref 39), (2, .int v2)] [] (xU u) := by
  intro n
  induction n with
  | zero => intro v2 u; exact xm_none
  | succ n ih => intro v2 u; exact go_X4_names_L33b N _ ih v2 u
def f_X4_names (N : Nat) (a1 : Int32) (u : xN) : Option (Int32 × xN) := Option.bind (f_X4_in (Int32.toInt64 a1) (1 : Int64) (3 : Int64)) (fun r6 => if r6 = (0 : Int32) then some ((-1 : Int32), u) else if (u.1 39 1) = (0 : Int32) then some ((-4 : Int32), u) else Option.bind (f_X4_layGame N (a1 - (1 : Int32)) u) (fun r28 => f_X4_names_L33 N N (0 : Int32) r28))
set_option maxRecDepth 20000 in
theorem go_X4_names (N : Nat) (a1 : Int32) (u : xN) : xGm md_X4_names rsM (f_X4_names N a1 u) 0 [(0, .ref 39), (1, .int a1)] [] (xU u) := by
  unfold f_X4_names
  refine xm_blk0 (pc' := 6) (lv' := [(0, .ref 39), (1, .int a1)]) (st' := [.long (3 : Int64), .long (1 : Int64), .long (Int32.toInt64 a1)]) (u' := (xU u)) [(.iload_n 1, (0, 0, 0), 0, 0), (.i2l, (0, 0, 0), 0, 0), (.lconst 1, (0, 0, 0), 0, 1), (.ldc2_w 76, (0, 0, 955), 0, 3)] (by decide +kernel) rfl ?_
  refine xm_Si (pc := 6) (mz := md_X4_in) (idx := 72) (p1 := 905) (as := [.long (Int32.toInt64 a1), .long (1 : Int64), .long (3 : Int64)]) (st := []) (ev_X4_in (Int32.toInt64 a1) (1 : Int64) (3 : Int64) u) mw_X4_in (by decide +kernel) (by decide +kernel) (by decide) rfl (Nat.le_of_ble_eq_true rfl) (fun r6 => ?_)
  refine xm_if_ne (pc := 9) (off := 5) (tgt := 14) (by decide +kernel) (by decide) ?_ ?_
  · refine xm_blk0 (pc' := 18) (lv' := [(0, .ref 39), (1, .int a1)]) (st' := [.int (u.1 39 1)]) (u' := (xU u)) [(.aload_n 0, (0, 0, 0), 0, 0), (.getfield 147, (4, 1, 821), 0, 0)] (by decide +kernel) rfl ?_
    refine xm_if_ne (pc := 18) (off := 6) (tgt := 24) (by decide +kernel) (by decide) ?_ ?_
    · refine xm_blk0 (pc' := 28) (lv' := [(0, .ref 39), (1, .int a1)]) (st' := [.int (a1 - (1 : Int32)), .ref 39]) (u' := (xU u)) [(.aload_n 0, (0, 0, 0), 0, 0), (.iload_n 1, (0, 0, 0), 0, 0), (.iconst 1, (0, 0, 0), 1, 0), (.isub, (0, 0, 0), 0, 0)] (by decide +kernel) rfl ?_
      refine xm_Vv (pc := 28) (mz := md_X4_layGame) (idx := 257) (p1 := 1205) (a := 39) (as := [.int (a1 - (1 : Int32))]) (st := []) (ev_X4_layGame N (a1 - (1 : Int32)) u) mw_X4_layGame (by decide +kernel) (by decide +kernel) (by decide) rfl rfl (by decide) rfl (Nat.le_of_ble_eq_true rfl) (fun r28 => ?_)
      refine xm_blk0 (pc' := 33) (lv' := [(0, .ref 39), (1, .int a1), (2, .int (0 : Int32))]) (st' := []) (u' := (xU r28)) [(.iconst 0, (0, 0, 0), 0, 0), (.istore_n 2, (0, 0, 0), 0, 0)] (by decide +kernel) rfl ?_
      refine xm_wk [0, 2] (lv' := [(0, .ref 39), (2, .int (0 : Int32))]) rfl ?_
      exact go_X4_names_L33 N N (0 : Int32) r28
    · refine xm_blk0 (pc' := 23) (lv' := [(0, .ref 39), (1, .int a1)]) (st' := [.int (-4 : Int32)]) (u' := (xU u)) [(.bipush (-4), (0, 0, 0), -4, 0)] (by decide +kernel) rfl ?_
      exact xm_iret (pc := 23) (by decide +kernel) rfl rfl
  · refine xm_blk0 (pc' := 13) (lv' := [(0, .ref 39), (1, .int a1)]) (st' := [.int (-1 : Int32)]) (u' := (xU u)) [(.iconst (-1), (0, 0, 0), -1, 0)] (by decide +kernel) rfl ?_
    exact xm_iret (pc := 13) (by decide +kernel) rfl rfl
theorem ev_X4_names (N : Nat) (a1 : Int32) (u : xN) : ∀ r, f_X4_names N a1 u = some r → xEm md_X4_names yX4_names [.ref 39, .int a1] (xU u) (some (.int r.1), xU r.2) := xm_met (res := rsM) (as := [.ref 39, .int a1]) (go_X4_names N a1 u) (by decide) rfl (Nat.le_of_ble_eq_true rfl)
theorem mw_X4_rule : xMv yX4_rule cX4_rule 4 (some .int) 3 := xMv_of (p1 := 1236) (p2 := 1235) (p3 := 97) (p4 := 82) (by decide +kernel)
/-! NeitherBareModel.rule(III)I (39, None, None, None) -/
abbrev md_X4_rule : xMd := (cX4_rule, RX4, 4, some .int, 1)
def f_X4_rule (a1 : Int32) (a2 : Int32) (a3 : Int32) (u : xN) : Option Int32 := gdl [inb ((((40 : Int32) * a1) + ((3 : Int32) * a2)) + a3) 240] (some (u.1 46 (Int32.toNatClampNeg ((((40 : Int32) * a1) + ((3 : Int32) * a2)) + a3))))
set_option maxRecDepth 20000 in
theorem go_X4_rule (a1 : Int32) (a2 : Int32) (a3 : Int32) (u : xN) : xGm md_X4_rule (rsI (xU u)) (f_X4_rule a1 a2 a3 u) 0 [(0, .ref 39), (1, .int a1), (2, .int a2), (3, .int a3)] [] (xU u) := by
  unfold f_X4_rule
  refine xm_blk (bs := [inb ((((40 : Int32) * a1) + ((3 : Int32) * a2)) + a3) 240]) (pc' := 15) (lv' := [(0, .ref 39), (1, .int a1), (2, .int a2), (3, .int a3)]) (st' := [.int (u.1 46 (Int32.toNatClampNeg ((((40 : Int32) * a1) + ((3 : Int32) * a2)) + a3)))]) (u' := (xU u)) [(.aload_n 0, (0, 0, 0), 0, 0), (.getfield 28, (4, 8, 828), 0, 0), (.bipush 40, (0, 0, 0), 40, 0), (.iload_n 1, (0, 0, 0), 0, 0), (.imul, (0, 0, 0), 0, 0), (.iconst 3, (0, 0, 0), 3, 0), (.iload_n 2, (0, 0, 0), 0, 0), (.imul, (0, 0, 0), 0, 0), (.iadd, (0, 0, 0), 0, 0), (.iload_n 3, (0, 0, 0), 0, 0), (.iadd, (0, 0, 0), 0, 0), (.iaload, (0, 0, 0), 0, 0)] (by decide +kernel) rfl ?_
  exact xm_iret (pc := 15) (by decide +kernel) rfl rfl
theorem ev_X4_rule (a1 : Int32) (a2 : Int32) (a3 : Int32) (u : xN) : ∀ r, f_X4_rule a1 a2 a3 u = some r → xEm md_X4_rule yX4_rule [.ref 39, .int a1, .int a2, .int a3] (xU u) (some (.int r), (xU u)) := xm_met (res := (rsI (xU u))) (as := [.ref 39, .int a1, .int a2, .int a3]) (go_X4_rule a1 a2 a3 u) (by decide) rfl (Nat.le_of_ble_eq_true rfl)
