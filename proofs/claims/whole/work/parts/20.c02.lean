theorem mw_X3_isTrait : xMs yX3_isTrait cX3_isTrait 1 (some .boolean) 1 := xMs_of (p1 := 363) (p2 := 362) (p3 := 92) (by decide +kernel)
/-! NeitherBare.isTrait(I)Z  -/
abbrev md_X3_isTrait : xMd := (cX3_isTrait, RX3, 1, some .boolean, 1)
def f_X3_isTrait_L14 (t0 : Int32) : Option Int32 := gdl [isb t0] (some t0)
set_option maxRecDepth 20000 in
theorem go_X3_isTrait_L14 (u : xN) (t0 : Int32) : xGm md_X3_isTrait (rsI (xU u)) (f_X3_isTrait_L14 t0) 14 [] [.int t0] (xU u) := by
  unfold f_X3_isTrait_L14
  exact xm_zret (pc := 14) (by decide +kernel) rfl rfl
def f_X3_isTrait_L13  : Option Int32 := f_X3_isTrait_L14 (0 : Int32)
set_option maxRecDepth 20000 in
theorem go_X3_isTrait_L13 (u : xN) : xGm md_X3_isTrait (rsI (xU u)) (f_X3_isTrait_L13) 13 [] [] (xU u) := by
  unfold f_X3_isTrait_L13
  refine xm_blk0 (pc' := 14) (lv' := []) (st' := [.int (0 : Int32)]) (u' := (xU u)) [(.iconst 0, (0, 0, 0), 0, 0)] (by decide +kernel) rfl ?_
  exact go_X3_isTrait_L14 u (0 : Int32)
def f_X3_isTrait (a0 : Int32) : Option Int32 := if a0 < (0 : Int32) then f_X3_isTrait_L13 else if (4 : Int32) ≤ a0 then f_X3_isTrait_L13 else f_X3_isTrait_L14 (1 : Int32)
set_option maxRecDepth 20000 in
theorem go_X3_isTrait (a0 : Int32) (u : xN) : xGm md_X3_isTrait (rsI (xU u)) (f_X3_isTrait a0) 0 [(0, .int a0)] [] (xU u) := by
  unfold f_X3_isTrait
  refine xm_blk0 (pc' := 1) (lv' := [(0, .int a0)]) (st' := [.int a0]) (u' := (xU u)) [(.iload_n 0, (0, 0, 0), 0, 0)] (by decide +kernel) rfl ?_
  refine xm_if_lt (pc := 1) (off := 12) (tgt := 13) (by decide +kernel) (by decide) ?_ ?_
  · refine xm_wk [] (lv' := []) rfl ?_
    exact go_X3_isTrait_L13 u
  · refine xm_blk0 (pc' := 6) (lv' := [(0, .int a0)]) (st' := [.int (4 : Int32), .int a0]) (u' := (xU u)) [(.iload_n 0, (0, 0, 0), 0, 0), (.iconst 4, (0, 0, 0), 4, 0)] (by decide +kernel) rfl ?_
    refine xm_icmp_ge (pc := 6) (off := 7) (tgt := 13) (by decide +kernel) (by decide) ?_ ?_
    · refine xm_wk [] (lv' := []) rfl ?_
      exact go_X3_isTrait_L13 u
    · refine xm_blk0 (pc' := 10) (lv' := [(0, .int a0)]) (st' := [.int (1 : Int32)]) (u' := (xU u)) [(.iconst 1, (0, 0, 0), 1, 0)] (by decide +kernel) rfl ?_
      refine xm_goto (pc := 10) (off := 4) (tgt := 14) (by decide +kernel) (by decide) ?_
      refine xm_wk [] (lv' := []) rfl ?_
      exact go_X3_isTrait_L14 u (1 : Int32)
theorem ev_X3_isTrait (a0 : Int32) (u : xN) : ∀ r, f_X3_isTrait a0 = some r → xEm md_X3_isTrait yX3_isTrait [.int a0] (xU u) (some (.int r), (xU u)) := xm_met (res := (rsI (xU u))) (as := [.int a0]) (go_X3_isTrait a0 u) (by decide) rfl (Nat.le_of_ble_eq_true rfl)
theorem mw_X0_takesTrait : xMv yX0_takesTrait cX0_takesTrait 4 (some .boolean) 1 := xMv_of (p1 := 360) (p2 := 359) (p3 := 95) (p4 := 6) (by decide +kernel)
/-! NeitherBare$Court.takesTrait(I)Z (13, None) -/
abbrev md_X0_takesTrait_13 : xMd := (cX0_takesTrait, RX0, 4, some .boolean, 2)
def f_X0_takesTrait_13_L80 (u : xN) : Option (Int32 × xN) := some ((1 : Int32), mI u 13 2 ((u.1 13 2) - (1 : Int32)))
set_option maxRecDepth 20000 in
theorem go_X0_takesTrait_13_L80 (u : xN) : xGm md_X0_takesTrait_13 rsM (f_X0_takesTrait_13_L80 u) 80 [(0, .ref 13)] [] (xU u) := by
  unfold f_X0_takesTrait_13_L80
  refine xm_blk0 (pc' := 91) (lv' := [(0, .ref 13)]) (st' := [.int (1 : Int32)]) (u' := (xU (mI u 13 2 ((u.1 13 2) - (1 : Int32))))) [(.aload_n 0, (0, 0, 0), 0, 0), (.dup, (0, 0, 0), 0, 0), (.getfield 34, (0, 2, 146), 0, 0), (.iconst 1, (0, 0, 0), 1, 0), (.isub, (0, 0, 0), 0, 0), (.putfield 34, (0, 2, 146), 0, 0), (.iconst 1, (0, 0, 0), 1, 0)] (by decide +kernel) rfl ?_
  exact xm_zret0 (pc := 91) (by decide +kernel) rfl (by decide) rfl
def f_X0_takesTrait_13_L59 (v1 : Int32) (v2 : Int32) (v3 : Int32) (u : xN) : Option (Int32 × xN) := if v3 = (0 : Int32) then (gdl [inb v2 8] (f_X0_takesTrait_13_L80 (mI u 17 (Int32.toNatClampNeg v2) v1))) else gdl [inb v2 8] (f_X0_takesTrait_13_L80 (mI u 18 (Int32.toNatClampNeg v2) v1))
set_option maxRecDepth 20000 in
theorem go_X0_takesTrait_13_L59 (v1 : Int32) (v2 : Int32) (v3 : Int32) (u : xN) : xGm md_X0_takesTrait_13 rsM (f_X0_takesTrait_13_L59 v1 v2 v3 u) 59 [(0, .ref 13), (1, .int v1), (2, .int v2), (3, .int v3)] [] (xU u) := by
  unfold f_X0_takesTrait_13_L59
  refine xm_blk0 (pc' := 60) (lv' := [(0, .ref 13), (1, .int v1), (2, .int v2), (3, .int v3)]) (st' := [.int v3]) (u' := (xU u)) [(.iload_n 3, (0, 0, 0), 0, 0)] (by decide +kernel) rfl ?_
  refine xm_if_eq (pc := 60) (off := 13) (tgt := 73) (by decide +kernel) (by decide) ?_ ?_
  · refine xm_blk (bs := [inb v2 8]) (pc' := 80) (lv' := [(0, .ref 13), (1, .int v1), (2, .int v2), (3, .int v3)]) (st' := []) (u' := (xU (mI u 17 (Int32.toNatClampNeg v2) v1))) [(.aload_n 0, (0, 0, 0), 0, 0), (.getfield 21, (0, 6, 152), 0, 0), (.iload_n 2, (0, 0, 0), 0, 0), (.iload_n 1, (0, 0, 0), 0, 0), (.iastore, (0, 0, 0), 0, 0)] (by decide +kernel) rfl ?_
    refine xm_wk [0] (lv' := [(0, .ref 13)]) rfl ?_
    exact go_X0_takesTrait_13_L80 (mI u 17 (Int32.toNatClampNeg v2) v1)
  · refine xm_blk (bs := [inb v2 8]) (pc' := 70) (lv' := [(0, .ref 13), (1, .int v1), (2, .int v2), (3, .int v3)]) (st' := []) (u' := (xU (mI u 18 (Int32.toNatClampNeg v2) v1))) [(.aload_n 0, (0, 0, 0), 0, 0), (.getfield 24, (0, 7, 154), 0, 0), (.iload_n 2, (0, 0, 0), 0, 0), (.iload_n 1, (0, 0, 0), 0, 0), (.iastore, (0, 0, 0), 0, 0)] (by decide +kernel) rfl ?_
    refine xm_goto (pc := 70) (off := 10) (tgt := 80) (by decide +kernel) (by decide) ?_
    refine xm_wk [0] (lv' := [(0, .ref 13)]) rfl ?_
    exact go_X0_takesTrait_13_L80 (mI u 18 (Int32.toNatClampNeg v2) v1)
def f_X0_takesTrait_13_L42 (v1 : Int32) (v2 : Int32) (t0 : Int32) (u : xN) : Option (Int32 × xN) := if t0 = (0 : Int32) then f_X0_takesTrait_13_L59 v1 v2 t0 u else gdl [inb v2 8] (if (u.1 17 (Int32.toNatClampNeg v2)) = v1 then some ((0 : Int32), u) else f_X0_takesTrait_13_L59 v1 v2 t0 u)
set_option maxRecDepth 20000 in
theorem go_X0_takesTrait_13_L42 (v1 : Int32) (v2 : Int32) (t0 : Int32) (u : xN) : xGm md_X0_takesTrait_13 rsM (f_X0_takesTrait_13_L42 v1 v2 t0 u) 42 [(0, .ref 13), (1, .int v1), (2, .int v2)] [.int t0] (xU u) := by
  unfold f_X0_takesTrait_13_L42
  refine xm_blk0 (pc' := 44) (lv' := [(0, .ref 13), (1, .int v1), (2, .int v2), (3, .int t0)]) (st' := [.int t0]) (u' := (xU u)) [(.istore_n 3, (0, 0, 0), 0, 0), (.iload_n 3, (0, 0, 0), 0, 0)] (by decide +kernel) rfl ?_
  refine xm_if_eq (pc := 44) (off := 15) (tgt := 59) (by decide +kernel) (by decide) ?_ ?_
  · exact go_X0_takesTrait_13_L59 v1 v2 t0 u
  · refine xm_blk (bs := [inb v2 8]) (pc' := 54) (lv' := [(0, .ref 13), (1, .int v1), (2, .int v2), (3, .int t0)]) (st' := [.int v1, .int (u.1 17 (Int32.toNatClampNeg v2))]) (u' := (xU u)) [(.aload_n 0, (0, 0, 0), 0, 0), (.getfield 21, (0, 6, 152), 0, 0), (.iload_n 2, (0, 0, 0), 0, 0), (.iaload, (0, 0, 0), 0, 0), (.iload_n 1, (0, 0, 0), 0, 0)] (by decide +kernel) rfl ?_
    refine xm_icmp_ne (pc := 54) (off := 5) (tgt := 59) (by decide +kernel) (by decide) ?_ ?_
    · exact go_X0_takesTrait_13_L59 v1 v2 t0 u
    · refine xm_blk0 (pc' := 58) (lv' := [(0, .ref 13), (1, .int v1), (2, .int v2), (3, .int t0)]) (st' := [.int (0 : Int32)]) (u' := (xU u)) [(.iconst 0, (0, 0, 0), 0, 0)] (by decide +kernel) rfl ?_
      exact xm_zret0 (pc := 58) (by decide +kernel) rfl (by decide) rfl
def f_X0_takesTrait_13_L41 (v1 : Int32) (v2 : Int32) (u : xN) : Option (Int32 × xN) := f_X0_takesTrait_13_L42 v1 v2 (0 : Int32) u
set_option maxRecDepth 20000 in
theorem go_X0_takesTrait_13_L41 (v1 : Int32) (v2 : Int32) (u : xN) : xGm md_X0_takesTrait_13 rsM (f_X0_takesTrait_13_L41 v1 v2 u) 41 [(0, .ref 13), (1, .int v1), (2, .int v2)] [] (xU u) := by
  unfold f_X0_takesTrait_13_L41
  refine xm_blk0 (pc' := 42) (lv' := [(0, .ref 13), (1, .int v1), (2, .int v2)]) (st' := [.int (0 : Int32)]) (u' := (xU u)) [(.iconst 0, (0, 0, 0), 0, 0)] (by decide +kernel) rfl ?_
  exact go_X0_takesTrait_13_L42 v1 v2 (0 : Int32) u
def f_X0_takesTrait_13 (a1 : Int32) (u : xN) : Option (Int32 × xN) := Option.bind (f_X3_isTrait a1) (fun r1 => if r1 = (0 : Int32) then some ((0 : Int32), u) else if (u.1 13 2) = (1 : Int32) then (gdl [inb ((u.1 13 1) - (1 : Int32)) 8] (Option.bind (f_X3_isOfKind (u.1 16 (Int32.toNatClampNeg ((u.1 13 1) - (1 : Int32)))) (2 : Int32) u) (fun r31 => if r31 = (0 : Int32) then f_X0_takesTrait_13_L41 a1 ((u.1 13 1) - (1 : Int32)) u else f_X0_takesTrait_13_L42 a1 ((u.1 13 1) - (1 : Int32)) (1 : Int32) u))) else f_X0_takesTrait_13_L41 a1 ((u.1 13 1) - (1 : Int32)) u)
set_option maxRecDepth 20000 in
theorem go_X0_takesTrait_13 (a1 : Int32) (u : xN) : xGm md_X0_takesTrait_13 rsM (f_X0_takesTrait_13 a1 u) 0 [(0, .ref 13), (1, .int a1)] [] (xU u) := by
  unfold f_X0_takesTrait_13
  refine xm_blk0 (pc' := 1) (lv' := [(0, .ref 13), (1, .int a1)]) (st' := [.int a1]) (u' := (xU u)) [(.iload_n 1, (0, 0, 0), 0, 0)] (by decide +kernel) rfl ?_
  refine xm_Ni (pc := 1) (mz := md_X3_isTrait) (idx := 74) (as := [.int a1]) (st := []) (ev_X3_isTrait a1 u) mw_X3_isTrait (by decide +kernel) (fun _ h => h.1) (by decide) rfl (Nat.le_of_ble_eq_true rfl) (fun r1 => ?_)
  refine xm_if_ne (pc := 4) (off := 5) (tgt := 9) (by decide +kernel) (by decide) ?_ ?_
  · refine xm_blk0 (pc' := 21) (lv' := [(0, .ref 13), (1, .int a1), (2, .int ((u.1 13 1) - (1 : Int32)))]) (st' := [.int (1 : Int32), .int (u.1 13 2)]) (u' := (xU u)) [(.aload_n 0, (0, 0, 0), 0, 0), (.getfield 31, (0, 1, 144), 0, 0), (.iconst 1, (0, 0, 0), 1, 0), (.isub, (0, 0, 0), 0, 0), (.istore_n 2, (0, 0, 0), 0, 0), (.aload_n 0, (0, 0, 0), 0, 0), (.getfield 34, (0, 2, 146), 0, 0), (.iconst 1, (0, 0, 0), 1, 0)] (by decide +kernel) rfl ?_
    refine xm_icmp_ne (pc := 21) (off := 20) (tgt := 41) (by decide +kernel) (by decide) ?_ ?_
    · exact go_X0_takesTrait_13_L41 a1 ((u.1 13 1) - (1 : Int32)) u
    · refine xm_blk (bs := [inb ((u.1 13 1) - (1 : Int32)) 8]) (pc' := 31) (lv' := [(0, .ref 13), (1, .int a1), (2, .int ((u.1 13 1) - (1 : Int32)))]) (st' := [.int (2 : Int32), .int (u.1 16 (Int32.toNatClampNeg ((u.1 13 1) - (1 : Int32))))]) (u' := (xU u)) [(.aload_n 0, (0, 0, 0), 0, 0), (.getfield 18, (0, 5, 150), 0, 0), (.iload_n 2, (0, 0, 0), 0, 0), (.iaload, (0, 0, 0), 0, 0), (.iconst 2, (0, 0, 0), 2, 0)] (by decide +kernel) rfl ?_
      refine xm_Ni (pc := 31) (mz := md_X3_isOfKind) (idx := 64) (as := [.int (u.1 16 (Int32.toNatClampNeg ((u.1 13 1) - (1 : Int32)))), .int (2 : Int32)]) (st := []) (ev_X3_isOfKind (u.1 16 (Int32.toNatClampNeg ((u.1 13 1) - (1 : Int32)))) (2 : Int32) u) mw_X3_isOfKind (by decide +kernel) (fun _ h => h.2.1) (by decide) rfl (Nat.le_of_ble_eq_true rfl) (fun r31 => ?_)
      refine xm_if_eq (pc := 34) (off := 7) (tgt := 41) (by decide +kernel) (by decide) ?_ ?_
      · exact go_X0_takesTrait_13_L41 a1 ((u.1 13 1) - (1 : Int32)) u
      · refine xm_blk0 (pc' := 38) (lv' := [(0, .ref 13), (1, .int a1), (2, .int ((u.1 13 1) - (1 : Int32)))]) (st' := [.int (1 : Int32)]) (u' := (xU u)) [(.iconst 1, (0, 0, 0), 1, 0)] (by decide +kernel) rfl ?_
        refine xm_goto (pc := 38) (off := 4) (tgt := 42) (by decide +kernel) (by decide) ?_
        exact go_X0_takesTrait_13_L42 a1 ((u.1 13 1) - (1 : Int32)) (1 : Int32) u
  · refine xm_blk0 (pc' := 8) (lv' := [(0, .ref 13), (1, .int a1)]) (st' := [.int (0 : Int32)]) (u' := (xU u)) [(.iconst 0, (0, 0, 0), 0, 0)] (by decide +kernel) rfl ?_
    exact xm_zret0 (pc := 8) (by decide +kernel) rfl (by decide) rfl
theorem ev_X0_takesTrait_13 (a1 : Int32) (u : xN) : ∀ r, f_X0_takesTrait_13 a1 u = some r → xEm md_X0_takesTrait_13 yX0_takesTrait [.ref 13, .int a1] (xU u) (some (.int r.1), xU r.2) := xm_met (res := rsM) (as := [.ref 13, .int a1]) (go_X0_takesTrait_13 a1 u) (by decide) rfl (Nat.le_of_ble_eq_true rfl)
theorem mw_X0_takesGift : xMv yX0_takesGift cX0_takesGift 3 (some .boolean) 1 := xMv_of (p1 := 356) (p2 := 355) (p3 := 95) (p4 := 5) (by decide +kernel)
/-! NeitherBare$Court.takesGift(I)Z (13, None) -/
abbrev md_X0_takesGift_13 : xMd := (cX0_takesGift, RX0, 3, some .boolean, 1)
def f_X0_takesGift_13_L24 (u : xN) : Option (Int32 × xN) := some ((0 : Int32), u)
set_option maxRecDepth 20000 in
theorem go_X0_takesGift_13_L24 (u : xN) : xGm md_X0_takesGift_13 rsM (f_X0_takesGift_13_L24 u) 24 [] [] (xU u) := by
  unfold f_X0_takesGift_13_L24
  refine xm_blk0 (pc' := 25) (lv' := []) (st' := [.int (0 : Int32)]) (u' := (xU u)) [(.iconst 0, (0, 0, 0), 0, 0)] (by decide +kernel) rfl ?_
  exact xm_zret0 (pc := 25) (by decide +kernel) rfl (by decide) rfl
def f_X0_takesGift_13_L14 (v1 : Int32) (t0 : Int32) (u : xN) : Option (Int32 × xN) := if v1 < (0 : Int32) then f_X0_takesGift_13_L24 u else if v1 ≤ t0 then (gdl [inb (((u.1 13 0) * (5 : Int32)) - (u.1 13 2)) 30] (some ((1 : Int32), mI (mI u 14 (Int32.toNatClampNeg (((u.1 13 0) * (5 : Int32)) - (u.1 13 2))) v1) 13 2 (((mI u 14 (Int32.toNatClampNeg (((u.1 13 0) * (5 : Int32)) - (u.1 13 2))) v1).1 13 2) - (1 : Int32))))) else f_X0_takesGift_13_L24 u
set_option maxRecDepth 20000 in
theorem go_X0_takesGift_13_L14 (v1 : Int32) (t0 : Int32) (u : xN) : xGm md_X0_takesGift_13 rsM (f_X0_takesGift_13_L14 v1 t0 u) 14 [(0, .ref 13), (1, .int v1)] [.int t0] (xU u) := by
  unfold f_X0_takesGift_13_L14
  refine xm_blk0 (pc' := 16) (lv' := [(0, .ref 13), (1, .int v1), (2, .int t0)]) (st' := [.int v1]) (u' := (xU u)) [(.istore_n 2, (0, 0, 0), 0, 0), (.iload_n 1, (0, 0, 0), 0, 0)] (by decide +kernel) rfl ?_
  refine xm_if_lt (pc := 16) (off := 8) (tgt := 24) (by decide +kernel) (by decide) ?_ ?_
  · refine xm_wk [] (lv' := []) rfl ?_
    exact go_X0_takesGift_13_L24 u
  · refine xm_blk0 (pc' := 21) (lv' := [(0, .ref 13), (1, .int v1), (2, .int t0)]) (st' := [.int t0, .int v1]) (u' := (xU u)) [(.iload_n 1, (0, 0, 0), 0, 0), (.iload_n 2, (0, 0, 0), 0, 0)] (by decide +kernel) rfl ?_
    refine xm_icmp_le (pc := 21) (off := 5) (tgt := 26) (by decide +kernel) (by decide) ?_ ?_
    · refine xm_blk (bs := [inb (((u.1 13 0) * (5 : Int32)) - (u.1 13 2)) 30]) (pc' := 54) (lv' := [(0, .ref 13), (1, .int v1), (2, .int t0)]) (st' := [.int (1 : Int32)]) (u' := (xU (mI (mI u 14 (Int32.toNatClampNeg (((u.1 13 0) * (5 : Int32)) - (u.1 13 2))) v1) 13 2 (((mI u 14 (Int32.toNatClampNeg (((u.1 13 0) * (5 : Int32)) - (u.1 13 2))) v1).1 13 2) - (1 : Int32))))) [(.aload_n 0, (0, 0, 0), 0, 0), (.getfield 9, (0, 3, 147), 0, 0), (.aload_n 0, (0, 0, 0), 0, 0), (.getfield 27, (0, 0, 142), 0, 0), (.iconst 5, (0, 0, 0), 5, 0), (.imul, (0, 0, 0), 0, 0), (.aload_n 0, (0, 0, 0), 0, 0), (.getfield 34, (0, 2, 146), 0, 0), (.isub, (0, 0, 0), 0, 0), (.iload_n 1, (0, 0, 0), 0, 0), (.iastore, (0, 0, 0), 0, 0), (.aload_n 0, (0, 0, 0), 0, 0), (.dup, (0, 0, 0), 0, 0), (.getfield 34, (0, 2, 146), 0, 0), (.iconst 1, (0, 0, 0), 1, 0), (.isub, (0, 0, 0), 0, 0), (.putfield 34, (0, 2, 146), 0, 0), (.iconst 1, (0, 0, 0), 1, 0)] (by decide +kernel) rfl ?_
      exact xm_zret0 (pc := 54) (by decide +kernel) rfl (by decide) rfl
    · refine xm_wk [] (lv' := []) rfl ?_
      exact go_X0_takesGift_13_L24 u
def f_X0_takesGift_13 (a1 : Int32) (u : xN) : Option (Int32 × xN) := if (u.1 13 2) = (1 : Int32) then f_X0_takesGift_13_L14 a1 (9 : Int32) u else f_X0_takesGift_13_L14 a1 (3 : Int32) u
set_option maxRecDepth 20000 in
theorem go_X0_takesGift_13 (a1 : Int32) (u : xN) : xGm md_X0_takesGift_13 rsM (f_X0_takesGift_13 a1 u) 0 [(0, .ref 13), (1, .int a1)] [] (xU u) := by
  unfold f_X0_takesGift_13
  refine xm_blk0 (pc' := 5) (lv' := [(0, .ref 13), (1, .int a1)]) (st' := [.int (1 : Int32), .int (u.1 13 2)]) (u' := (xU u)) [(.aload_n 0, (0, 0, 0), 0, 0), (.getfield 34, (0, 2, 146), 0, 0), (.iconst 1, (0, 0, 0), 1, 0)] (by decide +kernel) rfl ?_
  refine xm_icmp_ne (pc := 5) (off := 8) (tgt := 13) (by decide +kernel) (by decide) ?_ ?_
  · refine xm_blk0 (pc' := 14) (lv' := [(0, .ref 13), (1, .int a1)]) (st' := [.int (3 : Int32)]) (u' := (xU u)) [(.iconst 3, (0, 0, 0), 3, 0)] (by decide +kernel) rfl ?_
    exact go_X0_takesGift_13_L14 a1 (3 : Int32) u
  · refine xm_blk0 (pc' := 10) (lv' := [(0, .ref 13), (1, .int a1)]) (st' := [.int (9 : Int32)]) (u' := (xU u)) [(.bipush 9, (0, 0, 0), 9, 0)] (by decide +kernel) rfl ?_
    refine xm_goto (pc := 10) (off := 4) (tgt := 14) (by decide +kernel) (by decide) ?_
    exact go_X0_takesGift_13_L14 a1 (9 : Int32) u
theorem ev_X0_takesGift_13 (a1 : Int32) (u : xN) : ∀ r, f_X0_takesGift_13 a1 u = some r → xEm md_X0_takesGift_13 yX0_takesGift [.ref 13, .int a1] (xU u) (some (.int r.1), xU r.2) := xm_met (res := rsM) (as := [.ref 13, .int a1]) (go_X0_takesGift_13 a1 u) (by decide) rfl (Nat.le_of_ble_eq_true rfl)
theorem mw_X0_takesFigure : xMv yX0_takesFigure cX0_takesFigure 2 (some .boolean) 1 := xMv_of (p1 := 352) (p2 := 351) (p3 := 95) (p4 := 4) (by decide +kernel)
/-! NeitherBare$Court.takesFigure(I)Z (13, None) -/
abbrev md_X0_takesFigure_13 : xMd := (cX0_takesFigure, RX0, 2, some .boolean, 3)
def f_X0_takesFigure_13_L20 (t0 : Int32) (u : xN) : Option (Int32 × xN) := gdl [isb t0] (some (t0, u))
set_option maxRecDepth 20000 in
theorem go_X0_takesFigure_13_L20 (t0 : Int32) (u : xN) : xGm md_X0_takesFigure_13 rsM (f_X0_takesFigure_13_L20 t0 u) 20 [] [.int t0] (xU u) := by
  unfold f_X0_takesFigure_13_L20
  exact xm_zret (pc := 20) (by decide +kernel) rfl rfl
def f_X0_takesFigure_13 (a1 : Int32) (u : xN) : Option (Int32 × xN) := if (u.1 13 1) = (0 : Int32) then Option.bind (f_X0_takesGift_13 a1 u) (fun r9 => f_X0_takesFigure_13_L20 r9.1 r9.2) else Option.bind (f_X0_takesTrait_13 a1 u) (fun r17 => f_X0_takesFigure_13_L20 r17.1 r17.2)
set_option maxRecDepth 20000 in
theorem go_X0_takesFigure_13 (a1 : Int32) (u : xN) : xGm md_X0_takesFigure_13 rsM (f_X0_takesFigure_13 a1 u) 0 [(0, .ref 13), (1, .int a1)] [] (xU u) := by
  unfold f_X0_takesFigure_13
  refine xm_blk0 (pc' := 4) (lv' := [(0, .ref 13), (1, .int a1)]) (st' := [.int (u.1 13 1)]) (u' := (xU u)) [(.aload_n 0, (0, 0, 0), 0, 0), (.getfield 31, (0, 1, 144), 0, 0)] (by decide +kernel) rfl ?_
  refine xm_if_ne (pc := 4) (off := 11) (tgt := 15) (by decide +kernel) (by decide) ?_ ?_
  · refine xm_blk0 (pc' := 17) (lv' := [(0, .ref 13), (1, .int a1)]) (st' := [.int a1, .ref 13]) (u' := (xU u)) [(.aload_n 0, (0, 0, 0), 0, 0), (.iload_n 1, (0, 0, 0), 0, 0)] (by decide +kernel) rfl ?_
    refine xm_Vm (pc := 17) (mz := md_X0_takesTrait_13) (idx := 71) (p1 := 357) (a := 13) (as := [.int a1]) (st := []) (ev_X0_takesTrait_13 a1 u) mw_X0_takesTrait (by decide +kernel) (by decide +kernel) (by decide) rfl rfl (by decide) rfl (Nat.le_of_ble_eq_true rfl) (fun r17 => ?_)
    refine xm_wk [] (lv' := []) rfl ?_
    exact go_X0_takesFigure_13_L20 r17.1 r17.2
  · refine xm_blk0 (pc' := 9) (lv' := [(0, .ref 13), (1, .int a1)]) (st' := [.int a1, .ref 13]) (u' := (xU u)) [(.aload_n 0, (0, 0, 0), 0, 0), (.iload_n 1, (0, 0, 0), 0, 0)] (by decide +kernel) rfl ?_
    refine xm_Vm (pc := 9) (mz := md_X0_takesGift_13) (idx := 68) (p1 := 353) (a := 13) (as := [.int a1]) (st := []) (ev_X0_takesGift_13 a1 u) mw_X0_takesGift (by decide +kernel) (by decide +kernel) (by decide) rfl rfl (by decide) rfl (Nat.le_of_ble_eq_true rfl) (fun r9 => ?_)
    refine xm_goto (pc := 12) (off := 8) (tgt := 20) (by decide +kernel) (by decide) ?_
    refine xm_wk [] (lv' := []) rfl ?_
    exact go_X0_takesFigure_13_L20 r9.1 r9.2
theorem ev_X0_takesFigure_13 (a1 : Int32) (u : xN) : ∀ r, f_X0_takesFigure_13 a1 u = some r → xEm md_X0_takesFigure_13 yX0_takesFigure [.ref 13, .int a1] (xU u) (some (.int r.1), xU r.2) := xm_met (res := rsM) (as := [.ref 13, .int a1]) (go_X0_takesFigure_13 a1 u) (by decide) rfl (Nat.le_of_ble_eq_true rfl)
theorem mw_X0_readFrom : xMv yX0_readFrom cX0_readFrom 7 (some .int) 2 := xMv_of (p1 := 346) (p2 := 344) (p3 := 95) (p4 := 345) (by decide +kernel)
/-! NeitherBare$Court.readFrom(LNeitherBare$Shelf;I)I (13, 4, None) -/
abbrev md_X0_readFrom_13_4 : xMd := (cX0_readFrom, RX0, 7, some .int, 4)
def f_X0_readFrom_13_4_L64 (N : Nat) (rec24 : Int32 → Int32 → Int32 → xN → Option (Int32 × xN)) (v2 : Int32) (v3 : Int32) (v4 : Int32) (t0 : Int32) (u : xN) : Option (Int32 × xN) := if t0 = (0 : Int32) then some (v4, u) else rec24 v2 v3 (v4 + (1 : Int32)) u
set_option maxRecDepth 20000 in
theorem go_X0_readFrom_13_4_L64 (N : Nat) (rec24 : Int32 → Int32 → Int32 → xN → Option (Int32 × xN)) (h24 : ∀ (v2 : Int32) (v3 : Int32) (v4 : Int32) (u : xN), xGm md_X0_readFrom_13_4 rsM (rec24 v2 v3 v4 u) 24 [(0, .ref 13), (1, .ref 4), (2, .int v2), (3, .int v3), (4, .int v4)] [] (xU u)) (v2 : Int32) (v3 : Int32) (v4 : Int32) (t0 : Int32) (u : xN) : xGm md_X0_readFrom_13_4 rsM (f_X0_readFrom_13_4_L64 N rec24 v2 v3 v4 t0 u) 64 [(0, .ref 13), (1, .ref 4), (2, .int v2), (3, .int v3), (4, .int v4)] [.int t0] (xU u) := by
  unfold f_X0_readFrom_13_4_L64
  refine xm_blk0 (pc' := 68) (lv' := [(0, .ref 13), (1, .ref 4), (2, .int v2), (3, .int v3), (4, .int v4), (6, .int t0)]) (st' := [.int t0]) (u' := (xU u)) [(.istore 6, (0, 0, 0), 0, 0), (.iload 6, (0, 0, 0), 0, 0)] (by decide +kernel) rfl ?_
  refine xm_if_ne (pc := 68) (off := 6) (tgt := 74) (by decide +kernel) (by decide) ?_ ?_
  · refine xm_blk0 (pc' := 77) (lv' := [(0, .ref 13), (1, .ref 4), (2, .int v2), (3, .int v3), (4, .int (v4 + (1 : Int32))), (6, .int t0)]) (st' := []) (u' := (xU u)) [(.iinc 4 1, (0, 0, 0), 1, 0)] (by decide +kernel) rfl ?_
    refine xm_goto (pc := 77) (off := -53) (tgt := 24) (by decide +kernel) (by decide) ?_
    refine xm_wk [0, 1, 2, 3, 4] (lv' := [(0, .ref 13), (1, .ref 4), (2, .int v2), (3, .int v3), (4, .int (v4 + (1 : Int32)))]) rfl ?_
    exact h24 v2 v3 (v4 + (1 : Int32)) u
  · refine xm_blk0 (pc' := 73) (lv' := [(0, .ref 13), (1, .ref 4), (2, .int v2), (3, .int v3), (4, .int v4), (6, .int t0)]) (st' := [.int v4]) (u' := (xU u)) [(.iload 4, (0, 0, 0), 0, 0)] (by decide +kernel) rfl ?_
    exact xm_iret (pc := 73) (by decide +kernel) rfl rfl
def f_X0_readFrom_13_4_L100 (N : Nat) (t0 : Int32) (u : xN) : Option (Int32 × xN) := some (t0, u)
set_option maxRecDepth 20000 in
theorem go_X0_readFrom_13_4_L100 (N : Nat) (t0 : Int32) (u : xN) : xGm md_X0_readFrom_13_4 rsM (f_X0_readFrom_13_4_L100 N t0 u) 100 [] [.int t0] (xU u) := by
  unfold f_X0_readFrom_13_4_L100
  exact xm_iret (pc := 100) (by decide +kernel) rfl rfl
def f_X0_readFrom_13_4_L94 (N : Nat) (v3 : Int32) (u : xN) : Option (Int32 × xN) := f_X0_readFrom_13_4_L100 N v3 u
set_option maxRecDepth 20000 in
theorem go_X0_readFrom_13_4_L94 (N : Nat) (v3 : Int32) (u : xN) : xGm md_X0_readFrom_13_4 rsM (f_X0_readFrom_13_4_L94 N v3 u) 94 [(3, .int v3)] [] (xU u) := by
  unfold f_X0_readFrom_13_4_L94
  refine xm_blk0 (pc' := 95) (lv' := [(3, .int v3)]) (st' := [.int v3]) (u' := (xU u)) [(.iload_n 3, (0, 0, 0), 0, 0)] (by decide +kernel) rfl ?_
  refine xm_goto (pc := 95) (off := 5) (tgt := 100) (by decide +kernel) (by decide) ?_
  refine xm_wk [] (lv' := []) rfl ?_
  exact go_X0_readFrom_13_4_L100 N v3 u
def f_X0_readFrom_13_4_L24b (N : Nat) (rec24 : Int32 → Int32 → Int32 → xN → Option (Int32 × xN)) (v2 : Int32) (v3 : Int32) (v4 : Int32) (u : xN) : Option (Int32 × xN) := if v3 ≤ v4 then (if (0 : Int32) < (u.1 13 2) then f_X0_readFrom_13_4_L94 N v3 u else if (u.1 13 0) = (0 : Int32) then f_X0_readFrom_13_4_L94 N v3 u else f_X0_readFrom_13_4_L100 N (-9 : Int32) u) else Option.bind (f_X1_cellOf_4 v2 v4 u) (fun r34 => if (u.1 13 2) ≤ (0 : Int32) then Option.bind (f_X0_beginsItem_13 N r34 u) (fun r61 => f_X0_readFrom_13_4_L64 N rec24 v2 v3 v4 r61.1 r61.2) else Option.bind (f_X0_takesFigure_13 (r34 - (48 : Int32)) u) (fun r52 => f_X0_readFrom_13_4_L64 N rec24 v2 v3 v4 r52.1 r52.2))
set_option maxRecDepth 20000 in
theorem go_X0_readFrom_13_4_L24b (N : Nat) (rec24 : Int32 → Int32 → Int32 → xN → Option (Int32 × xN)) (h24 : ∀ (v2 : Int32) (v3 : Int32) (v4 : Int32) (u : xN), xGm md_X0_readFrom_13_4 rsM (rec24 v2 v3 v4 u) 24 [(0, .ref 13), (1, .ref 4), (2, .int v2), (3, .int v3), (4, .int v4)] [] (xU u)) (v2 : Int32) (v3 : Int32) (v4 : Int32) (u : xN) : xGm md_X0_readFrom_13_4 rsM (f_X0_readFrom_13_4_L24b N rec24 v2 v3 v4 u) 24 [(0, .ref 13), (1, .ref 4), (2, .int v2), (3, .int v3), (4, .int v4)] [] (xU u) := by
  unfold f_X0_readFrom_13_4_L24b
  refine xm_blk0 (pc' := 27) (lv' := [(0, .ref 13), (1, .ref 4), (2, .int v2), (3, .int v3), (4, .int v4)]) (st' := [.int v3, .int v4]) (u' := (xU u)) [(.iload 4, (0, 0, 0), 0, 0), (.iload_n 3, (0, 0, 0), 0, 0)] (by decide +kernel) rfl ?_
  refine xm_icmp_ge (pc := 27) (off := 53) (tgt := 80) (by decide +kernel) (by decide) ?_ ?_
  · refine xm_blk0 (pc' := 84) (lv' := [(0, .ref 13), (1, .ref 4), (2, .int v2), (3, .int v3), (4, .int v4)]) (st' := [.int (u.1 13 2)]) (u' := (xU u)) [(.aload_n 0, (0, 0, 0), 0, 0), (.getfield 34, (0, 2, 146), 0, 0)] (by decide +kernel) rfl ?_
    refine xm_if_gt (pc := 84) (off := 10) (tgt := 94) (by decide +kernel) (by decide) ?_ ?_
    · refine xm_wk [3] (lv' := [(3, .int v3)]) rfl ?_
      exact go_X0_readFrom_13_4_L94 N v3 u
    · refine xm_blk0 (pc' := 91) (lv' := [(0, .ref 13), (1, .ref 4), (2, .int v2), (3, .int v3), (4, .int v4)]) (st' := [.int (u.1 13 0)]) (u' := (xU u)) [(.aload_n 0, (0, 0, 0), 0, 0), (.getfield 27, (0, 0, 142), 0, 0)] (by decide +kernel) rfl ?_
      refine xm_if_ne (pc := 91) (off := 7) (tgt := 98) (by decide +kernel) (by decide) ?_ ?_
      · refine xm_blk0 (pc' := 100) (lv' := [(0, .ref 13), (1, .ref 4), (2, .int v2), (3, .int v3), (4, .int v4)]) (st' := [.int (-9 : Int32)]) (u' := (xU u)) [(.bipush (-9), (0, 0, 0), -9, 0)] (by decide +kernel) rfl ?_
        refine xm_wk [] (lv' := []) rfl ?_
        exact go_X0_readFrom_13_4_L100 N (-9 : Int32) u
      · refine xm_wk [3] (lv' := [(3, .int v3)]) rfl ?_
        exact go_X0_readFrom_13_4_L94 N v3 u
  · refine xm_blk0 (pc' := 34) (lv' := [(0, .ref 13), (1, .ref 4), (2, .int v2), (3, .int v3), (4, .int v4)]) (st' := [.int v4, .int v2, .ref 4]) (u' := (xU u)) [(.aload_n 1, (0, 0, 0), 0, 0), (.iload_n 2, (0, 0, 0), 0, 0), (.iload 4, (0, 0, 0), 0, 0)] (by decide +kernel) rfl ?_
    refine xm_Vi (pc := 34) (mz := md_X1_cellOf_4) (idx := 43) (p1 := 348) (a := 4) (as := [.int v2, .int v4]) (st := []) (ev_X1_cellOf_4 v2 v4 u) mw_X1_cellOf (by decide +kernel) (by decide +kernel) (by decide) rfl rfl (by decide) rfl (Nat.le_of_ble_eq_true rfl) (fun r34 => ?_)
    refine xm_blk0 (pc' := 43) (lv' := [(0, .ref 13), (1, .ref 4), (2, .int v2), (3, .int v3), (4, .int v4), (5, .int r34)]) (st' := [.int (u.1 13 2)]) (u' := (xU u)) [(.istore 5, (0, 0, 0), 0, 0), (.aload_n 0, (0, 0, 0), 0, 0), (.getfield 34, (0, 2, 146), 0, 0)] (by decide +kernel) rfl ?_
    refine xm_if_le (pc := 43) (off := 15) (tgt := 58) (by decide +kernel) (by decide) ?_ ?_
    · refine xm_blk0 (pc' := 61) (lv' := [(0, .ref 13), (1, .ref 4), (2, .int v2), (3, .int v3), (4, .int v4), (5, .int r34)]) (st' := [.int r34, .ref 13]) (u' := (xU u)) [(.aload_n 0, (0, 0, 0), 0, 0), (.iload 5, (0, 0, 0), 0, 0)] (by decide +kernel) rfl ?_
      refine xm_Vm (pc := 61) (mz := md_X0_beginsItem_13) (idx := 51) (p1 := 369) (a := 13) (as := [.int r34]) (st := []) (ev_X0_beginsItem_13 N r34 u) mw_X0_beginsItem (by decide +kernel) (by decide +kernel) (by decide) rfl rfl (by decide) rfl (Nat.le_of_ble_eq_true rfl) (fun r61 => ?_)
      refine xm_wk [0, 1, 2, 3, 4] (lv' := [(0, .ref 13), (1, .ref 4), (2, .int v2), (3, .int v3), (4, .int v4)]) rfl ?_
      exact go_X0_readFrom_13_4_L64 N rec24 h24 v2 v3 v4 r61.1 r61.2
    · refine xm_blk0 (pc' := 52) (lv' := [(0, .ref 13), (1, .ref 4), (2, .int v2), (3, .int v3), (4, .int v4), (5, .int r34)]) (st' := [.int (r34 - (48 : Int32)), .ref 13]) (u' := (xU u)) [(.aload_n 0, (0, 0, 0), 0, 0), (.iload 5, (0, 0, 0), 0, 0), (.bipush 48, (0, 0, 0), 48, 0), (.isub, (0, 0, 0), 0, 0)] (by decide +kernel) rfl ?_
      refine xm_Vm (pc := 52) (mz := md_X0_takesFigure_13) (idx := 47) (p1 := 349) (a := 13) (as := [.int (r34 - (48 : Int32))]) (st := []) (ev_X0_takesFigure_13 (r34 - (48 : Int32)) u) mw_X0_takesFigure (by decide +kernel) (by decide +kernel) (by decide) rfl rfl (by decide) rfl (Nat.le_of_ble_eq_true rfl) (fun r52 => ?_)
      refine xm_goto (pc := 55) (off := 9) (tgt := 64) (by decide +kernel) (by decide) ?_
      refine xm_wk [0, 1, 2, 3, 4] (lv' := [(0, .ref 13), (1, .ref 4), (2, .int v2), (3, .int v3), (4, .int v4)]) rfl ?_
      exact go_X0_readFrom_13_4_L64 N rec24 h24 v2 v3 v4 r52.1 r52.2
def f_X0_readFrom_13_4_L24 (N : Nat) : Nat → Int32 → Int32 → Int32 → xN → Option (Int32 × xN)
  | 0 => fun _ _ _ _ => none
  | n + 1 => fun v2 v3 v4 u => f_X0_readFrom_13_4_L24b N (f_X0_readFrom_13_4_L24 N n) v2 v3 v4 u
theorem go_X0_readFrom_13_4_L24 (N : Nat) : ∀ (n : Nat) (v2 : Int32) (v3 : Int32) (v4 : Int32) (u : xN), xGm md_X0_readFrom_13_4 rsM (f_X0_readFrom_13_4_L24 N n v2 v3 v4 u) 24 [(0, .ref 13), (1, .ref 4), (2, .int v2), (3, .int v3), (4, .int v4)] [] (xU u) := by
  intro n
  induction n with
  | zero => intro v2 v3 v4 u; exact xm_none
  | succ n ih => intro v2 v3 v4 u; exact go_X0_readFrom_13_4_L24b N _ ih v2 v3 v4 u
def f_X0_readFrom_13_4 (N : Nat) (a2 : Int32) (u : xN) : Option (Int32 × xN) := Option.bind (f_X1_sizeOf_4 a2 (mI (mI (mI u 13 0 (0 : Int32)) 13 1 (0 : Int32)) 13 2 (0 : Int32))) (fun r17 => f_X0_readFrom_13_4_L24 N N a2 r17 (0 : Int32) (mI (mI (mI u 13 0 (0 : Int32)) 13 1 (0 : Int32)) 13 2 (0 : Int32)))
set_option maxRecDepth 20000 in
theorem go_X0_readFrom_13_4 (N : Nat) (a2 : Int32) (u : xN) : xGm md_X0_readFrom_13_4 rsM (f_X0_readFrom_13_4 N a2 u) 0 [(0, .ref 13), (1, .ref 4), (2, .int a2)] [] (xU u) := by
  unfold f_X0_readFrom_13_4
  refine xm_blk0 (pc' := 17) (lv' := [(0, .ref 13), (1, .ref 4), (2, .int a2)]) (st' := [.int a2, .ref 4]) (u' := (xU (mI (mI (mI u 13 0 (0 : Int32)) 13 1 (0 : Int32)) 13 2 (0 : Int32)))) [(.aload_n 0, (0, 0, 0), 0, 0), (.iconst 0, (0, 0, 0), 0, 0), (.putfield 27, (0, 0, 142), 0, 0), (.aload_n 0, (0, 0, 0), 0, 0), (.iconst 0, (0, 0, 0), 0, 0), (.putfield 31, (0, 1, 144), 0, 0), (.aload_n 0, (0, 0, 0), 0, 0), (.iconst 0, (0, 0, 0), 0, 0), (.putfield 34, (0, 2, 146), 0, 0), (.aload_n 1, (0, 0, 0), 0, 0), (.iload_n 2, (0, 0, 0), 0, 0)] (by decide +kernel) rfl ?_
  refine xm_Vi (pc := 17) (mz := md_X1_sizeOf_4) (idx := 37) (p1 := 347) (a := 4) (as := [.int a2]) (st := []) (ev_X1_sizeOf_4 a2 (mI (mI (mI u 13 0 (0 : Int32)) 13 1 (0 : Int32)) 13 2 (0 : Int32))) mw_X1_sizeOf (by decide +kernel) (by decide +kernel) (by decide) rfl rfl (by decide) rfl (Nat.le_of_ble_eq_true rfl) (fun r17 => ?_)
  refine xm_blk0 (pc' := 24) (lv' := [(0, .ref 13), (1, .ref 4), (2, .int a2), (3, .int r17), (4, .int (0 : Int32))]) (st' := []) (u' := (xU (mI (mI (mI u 13 0 (0 : Int32)) 13 1 (0 : Int32)) 13 2 (0 : Int32)))) [(.istore_n 3, (0, 0, 0), 0, 0), (.iconst 0, (0, 0, 0), 0, 0), (.istore 4, (0, 0, 0), 0, 0)] (by decide +kernel) rfl ?_
  exact go_X0_readFrom_13_4_L24 N N a2 r17 (0 : Int32) (mI (mI (mI u 13 0 (0 : Int32)) 13 1 (0 : Int32)) 13 2 (0 : Int32))
theorem ev_X0_readFrom_13_4 (N : Nat) (a2 : Int32) (u : xN) : ∀ r, f_X0_readFrom_13_4 N a2 u = some r → xEm md_X0_readFrom_13_4 yX0_readFrom [.ref 13, .ref 4, .int a2] (xU u) (some (.int r.1), xU r.2) := xm_met (res := rsM) (as := [.ref 13, .ref 4, .int a2]) (go_X0_readFrom_13_4 N a2 u) (by decide) rfl (Nat.le_of_ble_eq_true rfl)
theorem mw_X3_fault : xMv yX3_fault cX3_fault 3 (some .int) 1 := xMv_of (p1 := 342) (p2 := 340) (p3 := 92) (p4 := 341) (by decide +kernel)
/-! NeitherBare.fault(I)I (0, None) -/
abbrev md_X3_fault : xMd := (cX3_fault, RX3, 3, some .int, 5)
def f_X3_fault (N : Nat) (a1 : Int32) (u : xN) : Option (Int32 × xN) := Option.bind (f_X3_refusedPlace_4 a1 u) (fun r6 => if r6.1 = (0 : Int32) then Option.bind (f_X0_readFrom_13_4 N a1 r6.2) (fun r25 => some (r25.1, r25.2)) else some (r6.1, r6.2))
set_option maxRecDepth 20000 in
theorem go_X3_fault (N : Nat) (a1 : Int32) (u : xN) : xGm md_X3_fault rsM (f_X3_fault N a1 u) 0 [(0, .ref 0), (1, .int a1)] [] (xU u) := by
  unfold f_X3_fault
  refine xm_blk0 (pc' := 6) (lv' := [(0, .ref 0), (1, .int a1)]) (st' := [.int a1, .ref 4, .ref 0]) (u' := (xU u)) [(.aload_n 0, (0, 0, 0), 0, 0), (.aload_n 0, (0, 0, 0), 0, 0), (.getfield 18, (3, 1, 207), 0, 0), (.iload_n 1, (0, 0, 0), 0, 0)] (by decide +kernel) rfl ?_
  refine xm_Vm (pc := 6) (mz := md_X3_refusedPlace_4) (idx := 78) (p1 := 280) (a := 0) (as := [.ref 4, .int a1]) (st := []) (ev_X3_refusedPlace_4 a1 u) mw_X3_refusedPlace (by decide +kernel) (by decide +kernel) (by decide) rfl rfl (by decide) rfl (Nat.le_of_ble_eq_true rfl) (fun r6 => ?_)
  refine xm_blk0 (pc' := 11) (lv' := [(0, .ref 0), (1, .int a1), (2, .int r6.1)]) (st' := [.int r6.1]) (u' := (xU r6.2)) [(.istore_n 2, (0, 0, 0), 0, 0), (.iload_n 2, (0, 0, 0), 0, 0)] (by decide +kernel) rfl ?_
  refine xm_if_eq (pc := 11) (off := 5) (tgt := 16) (by decide +kernel) (by decide) ?_ ?_
  · refine xm_blk0 (pc' := 25) (lv' := [(0, .ref 0), (1, .int a1), (2, .int r6.1)]) (st' := [.int a1, .ref 4, .ref 13]) (u' := (xU r6.2)) [(.aload_n 0, (0, 0, 0), 0, 0), (.getfield 28, (3, 3, 209), 0, 0), (.aload_n 0, (0, 0, 0), 0, 0), (.getfield 18, (3, 1, 207), 0, 0), (.iload_n 1, (0, 0, 0), 0, 0)] (by decide +kernel) rfl ?_
    refine xm_Vm (pc := 25) (mz := md_X0_readFrom_13_4) (idx := 107) (p1 := 343) (a := 13) (as := [.ref 4, .int a1]) (st := []) (ev_X0_readFrom_13_4 N a1 r6.2) mw_X0_readFrom (by decide +kernel) (by decide +kernel) (by decide) rfl rfl (by decide) rfl (Nat.le_of_ble_eq_true rfl) (fun r25 => ?_)
    exact xm_iret (pc := 28) (by decide +kernel) rfl rfl
  · refine xm_blk0 (pc' := 15) (lv' := [(0, .ref 0), (1, .int a1), (2, .int r6.1)]) (st' := [.int r6.1]) (u' := (xU r6.2)) [(.iload_n 2, (0, 0, 0), 0, 0)] (by decide +kernel) rfl ?_
    exact xm_iret (pc := 15) (by decide +kernel) rfl rfl
theorem ev_X3_fault (N : Nat) (a1 : Int32) (u : xN) : ∀ r, f_X3_fault N a1 u = some r → xEm md_X3_fault yX3_fault [.ref 0, .int a1] (xU u) (some (.int r.1), xU r.2) := xm_met (res := rsM) (as := [.ref 0, .int a1]) (go_X3_fault N a1 u) (by decide) rfl (Nat.le_of_ble_eq_true rfl)
theorem mw_X0_ways : xMv yX0_ways cX0_ways 1 (some .int) 0 := xMv_of (p1 := 394) (p2 := 392) (p3 := 95) (p4 := 393) (by decide +kernel)
/-! NeitherBare$Court.ways()I (13,) -/
abbrev md_X0_ways_13_q : xMd := (cX0_ways, RX0, 1, some .int, 1)
def f_X0_ways_13_q (u : xN) : Option Int32 := some ((1 : Int32) <<< ((u.1 13 0) &&& 31))
set_option maxRecDepth 20000 in
theorem go_X0_ways_13_q (u : xN) : xGm md_X0_ways_13_q (rsI (xU1 u)) (f_X0_ways_13_q u) 0 [(0, .ref 13)] [] (xU1 u) := by
  unfold f_X0_ways_13_q
  refine xm_blk0 (pc' := 6) (lv' := [(0, .ref 13)]) (st' := [.int ((1 : Int32) <<< ((u.1 13 0) &&& 31))]) (u' := (xU1 u)) [(.iconst 1, (0, 0, 0), 1, 0), (.aload_n 0, (0, 0, 0), 0, 0), (.getfield 27, (0, 0, 142), 0, 0), (.ishl, (0, 0, 0), 0, 0)] (by decide +kernel) rfl ?_
  exact xm_iret (pc := 6) (by decide +kernel) rfl rfl
theorem ev_X0_ways_13_q (u : xN) : ∀ r, f_X0_ways_13_q u = some r → xEm md_X0_ways_13_q yX0_ways [.ref 13] (xU1 u) (some (.int r), (xU1 u)) := xm_met (res := (rsI (xU1 u))) (as := [.ref 13]) (go_X0_ways_13_q u) (by decide) rfl (Nat.le_of_ble_eq_true rfl)
theorem mw_J6_numberOfTrailingZeros_0f7a4 : xMs yJ6_numberOfTrailingZeros_0f7a4 cJ6_numberOfTrailingZeros_0f7a4 2 (some .int) 1 := xMs_of (p1 := 397) (p2 := 396) (p3 := 99) (by decide +kernel)
/-! java/lang/Integer.numberOfTrailingZeros(I)I  -/
abbrev md_J6_numberOfTrailingZeros_0f7a4_q : xMd := (cJ6_numberOfTrailingZeros_0f7a4, RJ6, 2, some .int, 1)
def f_J6_numberOfTrailingZeros_0f7a4_q_L74 (v0 : Int32) (v1 : Int32) : Option Int32 := some (v1 + (UInt32.toInt32 (Int32.toUInt32 v0 >>> (Int32.toUInt32 (1 : Int32) &&& Int32.toUInt32 31))))
set_option maxRecDepth 20000 in
theorem go_J6_numberOfTrailingZeros_0f7a4_q_L74 (u : xN) (v0 : Int32) (v1 : Int32) : xGm md_J6_numberOfTrailingZeros_0f7a4_q (rsI (xU1 u)) (f_J6_numberOfTrailingZeros_0f7a4_q_L74 v0 v1) 74 [(0, .int v0), (1, .int v1)] [] (xU1 u) := by
  unfold f_J6_numberOfTrailingZeros_0f7a4_q_L74
  refine xm_blk0 (pc' := 79) (lv' := [(0, .int v0), (1, .int v1)]) (st' := [.int (v1 + (UInt32.toInt32 (Int32.toUInt32 v0 >>> (Int32.toUInt32 (1 : Int32) &&& Int32.toUInt32 31))))]) (u' := (xU1 u)) [(.iload_n 1, (0, 0, 0), 0, 0), (.iload_n 0, (0, 0, 0), 0, 0), (.iconst 1, (0, 0, 0), 1, 0), (.iushr, (0, 0, 0), 0, 0), (.iadd, (0, 0, 0), 0, 0)] (by decide +kernel) rfl ?_
  exact xm_iret (pc := 79) (by decide +kernel) rfl rfl
def f_J6_numberOfTrailingZeros_0f7a4_q_L62 (v0 : Int32) (v1 : Int32) : Option Int32 := if v0 ≤ (4 : Int32) then f_J6_numberOfTrailingZeros_0f7a4_q_L74 v0 v1 else f_J6_numberOfTrailingZeros_0f7a4_q_L74 (UInt32.toInt32 (Int32.toUInt32 v0 >>> (Int32.toUInt32 (2 : Int32) &&& Int32.toUInt32 31))) (v1 + (2 : Int32))
set_option maxRecDepth 20000 in
theorem go_J6_numberOfTrailingZeros_0f7a4_q_L62 (u : xN) (v0 : Int32) (v1 : Int32) : xGm md_J6_numberOfTrailingZeros_0f7a4_q (rsI (xU1 u)) (f_J6_numberOfTrailingZeros_0f7a4_q_L62 v0 v1) 62 [(0, .int v0), (1, .int v1)] [] (xU1 u) := by
  unfold f_J6_numberOfTrailingZeros_0f7a4_q_L62
  refine xm_blk0 (pc' := 64) (lv' := [(0, .int v0), (1, .int v1)]) (st' := [.int (4 : Int32), .int v0]) (u' := (xU1 u)) [(.iload_n 0, (0, 0, 0), 0, 0), (.iconst 4, (0, 0, 0), 4, 0)] (by decide +kernel) rfl ?_
  refine xm_icmp_le (pc := 64) (off := 10) (tgt := 74) (by decide +kernel) (by decide) ?_ ?_
  · exact go_J6_numberOfTrailingZeros_0f7a4_q_L74 u v0 v1
  · refine xm_blk0 (pc' := 74) (lv' := [(0, .int (UInt32.toInt32 (Int32.toUInt32 v0 >>> (Int32.toUInt32 (2 : Int32) &&& Int32.toUInt32 31)))), (1, .int (v1 + (2 : Int32)))]) (st' := []) (u' := (xU1 u)) [(.iinc 1 2, (0, 0, 0), 2, 0), (.iload_n 0, (0, 0, 0), 0, 0), (.iconst 2, (0, 0, 0), 2, 0), (.iushr, (0, 0, 0), 0, 0), (.istore_n 0, (0, 0, 0), 0, 0)] (by decide +kernel) rfl ?_
    exact go_J6_numberOfTrailingZeros_0f7a4_q_L74 u (UInt32.toInt32 (Int32.toUInt32 v0 >>> (Int32.toUInt32 (2 : Int32) &&& Int32.toUInt32 31))) (v1 + (2 : Int32))
def f_J6_numberOfTrailingZeros_0f7a4_q_L49 (v0 : Int32) (v1 : Int32) : Option Int32 := if v0 ≤ (16 : Int32) then f_J6_numberOfTrailingZeros_0f7a4_q_L62 v0 v1 else f_J6_numberOfTrailingZeros_0f7a4_q_L62 (UInt32.toInt32 (Int32.toUInt32 v0 >>> (Int32.toUInt32 (4 : Int32) &&& Int32.toUInt32 31))) (v1 + (4 : Int32))
set_option maxRecDepth 20000 in
theorem go_J6_numberOfTrailingZeros_0f7a4_q_L49 (u : xN) (v0 : Int32) (v1 : Int32) : xGm md_J6_numberOfTrailingZeros_0f7a4_q (rsI (xU1 u)) (f_J6_numberOfTrailingZeros_0f7a4_q_L49 v0 v1) 49 [(0, .int v0), (1, .int v1)] [] (xU1 u) := by
  unfold f_J6_numberOfTrailingZeros_0f7a4_q_L49
  refine xm_blk0 (pc' := 52) (lv' := [(0, .int v0), (1, .int v1)]) (st' := [.int (16 : Int32), .int v0]) (u' := (xU1 u)) [(.iload_n 0, (0, 0, 0), 0, 0), (.bipush 16, (0, 0, 0), 16, 0)] (by decide +kernel) rfl ?_
  refine xm_icmp_le (pc := 52) (off := 10) (tgt := 62) (by decide +kernel) (by decide) ?_ ?_
  · exact go_J6_numberOfTrailingZeros_0f7a4_q_L62 u v0 v1
  · refine xm_blk0 (pc' := 62) (lv' := [(0, .int (UInt32.toInt32 (Int32.toUInt32 v0 >>> (Int32.toUInt32 (4 : Int32) &&& Int32.toUInt32 31)))), (1, .int (v1 + (4 : Int32)))]) (st' := []) (u' := (xU1 u)) [(.iinc 1 4, (0, 0, 0), 4, 0), (.iload_n 0, (0, 0, 0), 0, 0), (.iconst 4, (0, 0, 0), 4, 0), (.iushr, (0, 0, 0), 0, 0), (.istore_n 0, (0, 0, 0), 0, 0)] (by decide +kernel) rfl ?_
    exact go_J6_numberOfTrailingZeros_0f7a4_q_L62 u (UInt32.toInt32 (Int32.toUInt32 v0 >>> (Int32.toUInt32 (4 : Int32) &&& Int32.toUInt32 31))) (v1 + (4 : Int32))
def f_J6_numberOfTrailingZeros_0f7a4_q_L34 (v0 : Int32) (v1 : Int32) : Option Int32 := if v0 ≤ (256 : Int32) then f_J6_numberOfTrailingZeros_0f7a4_q_L49 v0 v1 else f_J6_numberOfTrailingZeros_0f7a4_q_L49 (UInt32.toInt32 (Int32.toUInt32 v0 >>> (Int32.toUInt32 (8 : Int32) &&& Int32.toUInt32 31))) (v1 + (8 : Int32))
set_option maxRecDepth 20000 in
theorem go_J6_numberOfTrailingZeros_0f7a4_q_L34 (u : xN) (v0 : Int32) (v1 : Int32) : xGm md_J6_numberOfTrailingZeros_0f7a4_q (rsI (xU1 u)) (f_J6_numberOfTrailingZeros_0f7a4_q_L34 v0 v1) 34 [(0, .int v0), (1, .int v1)] [] (xU1 u) := by
  unfold f_J6_numberOfTrailingZeros_0f7a4_q_L34
  refine xm_blk0 (pc' := 38) (lv' := [(0, .int v0), (1, .int v1)]) (st' := [.int (256 : Int32), .int v0]) (u' := (xU1 u)) [(.iload_n 0, (0, 0, 0), 0, 0), (.sipush 256, (0, 0, 0), 256, 0)] (by decide +kernel) rfl ?_
  refine xm_icmp_le (pc := 38) (off := 11) (tgt := 49) (by decide +kernel) (by decide) ?_ ?_
  · exact go_J6_numberOfTrailingZeros_0f7a4_q_L49 u v0 v1
  · refine xm_blk0 (pc' := 49) (lv' := [(0, .int (UInt32.toInt32 (Int32.toUInt32 v0 >>> (Int32.toUInt32 (8 : Int32) &&& Int32.toUInt32 31)))), (1, .int (v1 + (8 : Int32)))]) (st' := []) (u' := (xU1 u)) [(.iinc 1 8, (0, 0, 0), 8, 0), (.iload_n 0, (0, 0, 0), 0, 0), (.bipush 8, (0, 0, 0), 8, 0), (.iushr, (0, 0, 0), 0, 0), (.istore_n 0, (0, 0, 0), 0, 0)] (by decide +kernel) rfl ?_
    exact go_J6_numberOfTrailingZeros_0f7a4_q_L49 u (UInt32.toInt32 (Int32.toUInt32 v0 >>> (Int32.toUInt32 (8 : Int32) &&& Int32.toUInt32 31))) (v1 + (8 : Int32))
def f_J6_numberOfTrailingZeros_0f7a4_q (a0 : Int32) : Option Int32 := if (0 : Int32) < ((a0 ^^^ (-1 : Int32)) &&& (a0 - (1 : Int32))) then (if ((a0 ^^^ (-1 : Int32)) &&& (a0 - (1 : Int32))) ≤ (65536 : Int32) then f_J6_numberOfTrailingZeros_0f7a4_q_L34 ((a0 ^^^ (-1 : Int32)) &&& (a0 - (1 : Int32))) (1 : Int32) else f_J6_numberOfTrailingZeros_0f7a4_q_L34 (UInt32.toInt32 (Int32.toUInt32 ((a0 ^^^ (-1 : Int32)) &&& (a0 - (1 : Int32))) >>> (Int32.toUInt32 (16 : Int32) &&& Int32.toUInt32 31))) ((1 : Int32) + (16 : Int32))) else some (((a0 ^^^ (-1 : Int32)) &&& (a0 - (1 : Int32))) &&& (32 : Int32))
set_option maxRecDepth 20000 in
theorem go_J6_numberOfTrailingZeros_0f7a4_q (a0 : Int32) (u : xN) : xGm md_J6_numberOfTrailingZeros_0f7a4_q (rsI (xU1 u)) (f_J6_numberOfTrailingZeros_0f7a4_q a0) 0 [(0, .int a0)] [] (xU1 u) := by
  unfold f_J6_numberOfTrailingZeros_0f7a4_q
  refine xm_blk0 (pc' := 9) (lv' := [(0, .int ((a0 ^^^ (-1 : Int32)) &&& (a0 - (1 : Int32))))]) (st' := [.int ((a0 ^^^ (-1 : Int32)) &&& (a0 - (1 : Int32)))]) (u' := (xU1 u)) [(.iload_n 0, (0, 0, 0), 0, 0), (.iconst (-1), (0, 0, 0), -1, 0), (.ixor, (0, 0, 0), 0, 0), (.iload_n 0, (0, 0, 0), 0, 0), (.iconst 1, (0, 0, 0), 1, 0), (.isub, (0, 0, 0), 0, 0), (.iand, (0, 0, 0), 0, 0), (.istore_n 0, (0, 0, 0), 0, 0), (.iload_n 0, (0, 0, 0), 0, 0)] (by decide +kernel) rfl ?_
  refine xm_if_gt (pc := 9) (off := 8) (tgt := 17) (by decide +kernel) (by decide) ?_ ?_
  · refine xm_blk0 (pc' := 23) (lv' := [(0, .int ((a0 ^^^ (-1 : Int32)) &&& (a0 - (1 : Int32)))), (1, .int (1 : Int32))]) (st' := [.int (65536 : Int32), .int ((a0 ^^^ (-1 : Int32)) &&& (a0 - (1 : Int32)))]) (u' := (xU1 u)) [(.iconst 1, (0, 0, 0), 1, 0), (.istore_n 1, (0, 0, 0), 0, 0), (.iload_n 0, (0, 0, 0), 0, 0), (.ldc_w 264, (0, 0, 398), 65536, 0)] (by decide +kernel) rfl ?_
    refine xm_icmp_le (pc := 23) (off := 11) (tgt := 34) (by decide +kernel) (by decide) ?_ ?_
    · exact go_J6_numberOfTrailingZeros_0f7a4_q_L34 u ((a0 ^^^ (-1 : Int32)) &&& (a0 - (1 : Int32))) (1 : Int32)
    · refine xm_blk0 (pc' := 34) (lv' := [(0, .int (UInt32.toInt32 (Int32.toUInt32 ((a0 ^^^ (-1 : Int32)) &&& (a0 - (1 : Int32))) >>> (Int32.toUInt32 (16 : Int32) &&& Int32.toUInt32 31)))), (1, .int ((1 : Int32) + (16 : Int32)))]) (st' := []) (u' := (xU1 u)) [(.iinc 1 16, (0, 0, 0), 16, 0), (.iload_n 0, (0, 0, 0), 0, 0), (.bipush 16, (0, 0, 0), 16, 0), (.iushr, (0, 0, 0), 0, 0), (.istore_n 0, (0, 0, 0), 0, 0)] (by decide +kernel) rfl ?_
      exact go_J6_numberOfTrailingZeros_0f7a4_q_L34 u (UInt32.toInt32 (Int32.toUInt32 ((a0 ^^^ (-1 : Int32)) &&& (a0 - (1 : Int32))) >>> (Int32.toUInt32 (16 : Int32) &&& Int32.toUInt32 31))) ((1 : Int32) + (16 : Int32))
  · refine xm_blk0 (pc' := 16) (lv' := [(0, .int ((a0 ^^^ (-1 : Int32)) &&& (a0 - (1 : Int32))))]) (st' := [.int (((a0 ^^^ (-1 : Int32)) &&& (a0 - (1 : Int32))) &&& (32 : Int32))]) (u' := (xU1 u)) [(.iload_n 0, (0, 0, 0), 0, 0), (.bipush 32, (0, 0, 0), 32, 0), (.iand, (0, 0, 0), 0, 0)] (by decide +kernel) rfl ?_
    exact xm_iret (pc := 16) (by decide +kernel) rfl rfl
theorem ev_J6_numberOfTrailingZeros_0f7a4_q (a0 : Int32) (u : xN) : ∀ r, f_J6_numberOfTrailingZeros_0f7a4_q a0 = some r → xEm md_J6_numberOfTrailingZeros_0f7a4_q yJ6_numberOfTrailingZeros_0f7a4 [.int a0] (xU1 u) (some (.int r), (xU1 u)) := xm_met (res := (rsI (xU1 u))) (as := [.int a0]) (go_J6_numberOfTrailingZeros_0f7a4_q a0 u) (by decide) rfl (Nat.le_of_ble_eq_true rfl)
theorem mw_X0_sumOf : xMv yX0_sumOf cX0_sumOf 3 (some .int) 2 := xMv_of (p1 := 402) (p2 := 400) (p3 := 95) (p4 := 401) (by decide +kernel)
/-! NeitherBare$Court.sumOf(II)I (13, None, None) -/
abbrev md_X0_sumOf_13_q : xMd := (cX0_sumOf, RX0, 3, some .int, 1)
def f_X0_sumOf_13_q (a1 : Int32) (a2 : Int32) (u : xN) : Option Int32 := gdl [inb ((a1 * (5 : Int32)) + a2) 320] (some (u.1 15 (Int32.toNatClampNeg ((a1 * (5 : Int32)) + a2))))
set_option maxRecDepth 20000 in
theorem go_X0_sumOf_13_q (a1 : Int32) (a2 : Int32) (u : xN) : xGm md_X0_sumOf_13_q (rsI (xU1 u)) (f_X0_sumOf_13_q a1 a2 u) 0 [(0, .ref 13), (1, .int a1), (2, .int a2)] [] (xU1 u) := by
  unfold f_X0_sumOf_13_q
  refine xm_blk (bs := [inb ((a1 * (5 : Int32)) + a2) 320]) (pc' := 10) (lv' := [(0, .ref 13), (1, .int a1), (2, .int a2)]) (st' := [.int (u.1 15 (Int32.toNatClampNeg ((a1 * (5 : Int32)) + a2)))]) (u' := (xU1 u)) [(.aload_n 0, (0, 0, 0), 0, 0), (.getfield 15, (0, 4, 149), 0, 0), (.iload_n 1, (0, 0, 0), 0, 0), (.iconst 5, (0, 0, 0), 5, 0), (.imul, (0, 0, 0), 0, 0), (.iload_n 2, (0, 0, 0), 0, 0), (.iadd, (0, 0, 0), 0, 0), (.iaload, (0, 0, 0), 0, 0)] (by decide +kernel) rfl ?_
  exact xm_iret (pc := 10) (by decide +kernel) rfl rfl
theorem ev_X0_sumOf_13_q (a1 : Int32) (a2 : Int32) (u : xN) : ∀ r, f_X0_sumOf_13_q a1 a2 u = some r → xEm md_X0_sumOf_13_q yX0_sumOf [.ref 13, .int a1, .int a2] (xU1 u) (some (.int r), (xU1 u)) := xm_met (res := (rsI (xU1 u))) (as := [.ref 13, .int a1, .int a2]) (go_X0_sumOf_13_q a1 a2 u) (by decide) rfl (Nat.le_of_ble_eq_true rfl)
theorem mw_X0_addUp : xMv yX0_addUp cX0_addUp 5 none 0 := xMv_of (p1 := 390) (p2 := 388) (p3 := 95) (p4 := 389) (by decide +kernel)
/-! NeitherBare$Court.addUp()V (13,) -/
abbrev md_X0_addUp_13_q : xMd := (cX0_addUp, RX0, 5, none, 2)
def f_X0_addUp_13_q_L26b (N : Nat) (rec2 : Int32 → xN → Option xN) (rec26 : Int32 → Int32 → Int32 → Int32 → xN → Option xN) (v1 : Int32) (v2 : Int32) (v3 : Int32) (v4 : Int32) (u : xN) : Option xN := if (5 : Int32) ≤ v4 then rec2 (v1 + (1 : Int32)) u else Option.bind (f_X0_sumOf_13_q v3 v4 u) (fun r46 => gdl [inb ((v2 * (5 : Int32)) + v4) 30, inb ((v1 * (5 : Int32)) + v4) 320] (rec26 v1 v2 v3 (v4 + (1 : Int32)) (mI u 15 (Int32.toNatClampNeg ((v1 * (5 : Int32)) + v4)) (r46 + (u.1 14 (Int32.toNatClampNeg ((v2 * (5 : Int32)) + v4)))))))
set_option maxRecDepth 20000 in
theorem go_X0_addUp_13_q_L26b (N : Nat) (rec2 : Int32 → xN → Option xN) (h2 : ∀ (v1 : Int32) (u : xN), xGm md_X0_addUp_13_q rsW (rec2 v1 u) 2 [(0, .ref 13), (1, .int v1)] [] (xU1 u)) (rec26 : Int32 → Int32 → Int32 → Int32 → xN → Option xN) (h26 : ∀ (v1 : Int32) (v2 : Int32) (v3 : Int32) (v4 : Int32) (u : xN), xGm md_X0_addUp_13_q rsW (rec26 v1 v2 v3 v4 u) 26 [(0, .ref 13), (1, .int v1), (2, .int v2), (3, .int v3), (4, .int v4)] [] (xU1 u)) (v1 : Int32) (v2 : Int32) (v3 : Int32) (v4 : Int32) (u : xN) : xGm md_X0_addUp_13_q rsW (f_X0_addUp_13_q_L26b N rec2 rec26 v1 v2 v3 v4 u) 26 [(0, .ref 13), (1, .int v1), (2, .int v2), (3, .int v3), (4, .int v4)] [] (xU1 u) := by
  unfold f_X0_addUp_13_q_L26b
  refine xm_blk0 (pc' := 29) (lv' := [(0, .ref 13), (1, .int v1), (2, .int v2), (3, .int v3), (4, .int v4)]) (st' := [.int (5 : Int32), .int v4]) (u' := (xU1 u)) [(.iload 4, (0, 0, 0), 0, 0), (.iconst 5, (0, 0, 0), 5, 0)] (by decide +kernel) rfl ?_
  refine xm_icmp_ge (pc := 29) (off := 39) (tgt := 68) (by decide +kernel) (by decide) ?_ ?_
  · refine xm_blk0 (pc' := 71) (lv' := [(0, .ref 13), (1, .int (v1 + (1 : Int32))), (2, .int v2), (3, .int v3), (4, .int v4)]) (st' := []) (u' := (xU1 u)) [(.iinc 1 1, (0, 0, 0), 1, 0)] (by decide +kernel) rfl ?_
    refine xm_goto (pc := 71) (off := -69) (tgt := 2) (by decide +kernel) (by decide) ?_
    refine xm_wk [0, 1] (lv' := [(0, .ref 13), (1, .int (v1 + (1 : Int32)))]) rfl ?_
    exact h2 (v1 + (1 : Int32)) u
  · refine xm_blk0 (pc' := 46) (lv' := [(0, .ref 13), (1, .int v1), (2, .int v2), (3, .int v3), (4, .int v4)]) (st' := [.int v4, .int v3, .ref 13, .int ((v1 * (5 : Int32)) + v4), .ref 15]) (u' := (xU1 u)) [(.aload_n 0, (0, 0, 0), 0, 0), (.getfield 15, (0, 4, 149), 0, 0), (.iload_n 1, (0, 0, 0), 0, 0), (.iconst 5, (0, 0, 0), 5, 0), (.imul, (0, 0, 0), 0, 0), (.iload 4, (0, 0, 0), 0, 0), (.iadd, (0, 0, 0), 0, 0), (.aload_n 0, (0, 0, 0), 0, 0), (.iload_n 3, (0, 0, 0), 0, 0), (.iload 4, (0, 0, 0), 0, 0)] (by decide +kernel) rfl ?_
    refine xm_Vi (pc := 46) (mz := md_X0_sumOf_13_q) (idx := 86) (p1 := 399) (a := 13) (as := [.int v3, .int v4]) (st := [.int ((v1 * (5 : Int32)) + v4), .ref 15]) (ev_X0_sumOf_13_q v3 v4 u) mw_X0_sumOf (by decide +kernel) (by decide +kernel) (by decide) rfl rfl (by decide) rfl (Nat.le_of_ble_eq_true rfl) (fun r46 => ?_)
    refine xm_blk (bs := [inb ((v2 * (5 : Int32)) + v4) 30, inb ((v1 * (5 : Int32)) + v4) 320]) (pc' := 65) (lv' := [(0, .ref 13), (1, .int v1), (2, .int v2), (3, .int v3), (4, .int (v4 + (1 : Int32)))]) (st' := []) (u' := (xU1 (mI u 15 (Int32.toNatClampNeg ((v1 * (5 : Int32)) + v4)) (r46 + (u.1 14 (Int32.toNatClampNeg ((v2 * (5 : Int32)) + v4))))))) [(.aload_n 0, (0, 0, 0), 0, 0), (.getfield 9, (0, 3, 147), 0, 0), (.iload_n 2, (0, 0, 0), 0, 0), (.iconst 5, (0, 0, 0), 5, 0), (.imul, (0, 0, 0), 0, 0), (.iload 4, (0, 0, 0), 0, 0), (.iadd, (0, 0, 0), 0, 0), (.iaload, (0, 0, 0), 0, 0), (.iadd, (0, 0, 0), 0, 0), (.iastore, (0, 0, 0), 0, 0), (.iinc 4 1, (0, 0, 0), 1, 0)] (by decide +kernel) rfl ?_
    refine xm_goto (pc := 65) (off := -39) (tgt := 26) (by decide +kernel) (by decide) ?_
    exact h26 v1 v2 v3 (v4 + (1 : Int32)) (mI u 15 (Int32.toNatClampNeg ((v1 * (5 : Int32)) + v4)) (r46 + (u.1 14 (Int32.toNatClampNeg ((v2 * (5 : Int32)) + v4)))))
def f_X0_addUp_13_q_L26 (N : Nat) (rec2 : Int32 → xN → Option xN) : Nat → Int32 → Int32 → Int32 → Int32 → xN → Option xN
  | 0 => fun _ _ _ _ _ => none
  | n + 1 => fun v1 v2 v3 v4 u => f_X0_addUp_13_q_L26b N rec2 (f_X0_addUp_13_q_L26 N rec2 n) v1 v2 v3 v4 u
theorem go_X0_addUp_13_q_L26 (N : Nat) (rec2 : Int32 → xN → Option xN) (h2 : ∀ (v1 : Int32) (u : xN), xGm md_X0_addUp_13_q rsW (rec2 v1 u) 2 [(0, .ref 13), (1, .int v1)] [] (xU1 u)) : ∀ (n : Nat) (v1 : Int32) (v2 : Int32) (v3 : Int32) (v4 : Int32) (u : xN), xGm md_X0_addUp_13_q rsW (f_X0_addUp_13_q_L26 N rec2 n v1 v2 v3 v4 u) 26 [(0, .ref 13), (1, .int v1), (2, .int v2), (3, .int v3), (4, .int v4)] [] (xU1 u) := by
  intro n
  induction n with
  | zero => intro v1 v2 v3 v4 u; exact xm_none
  | succ n ih => intro v1 v2 v3 v4 u; exact go_X0_addUp_13_q_L26b N rec2 h2 _ ih v1 v2 v3 v4 u
def f_X0_addUp_13_q_L2b (N : Nat) (rec2 : Int32 → xN → Option xN) (v1 : Int32) (u : xN) : Option xN := Option.bind (f_X0_ways_13_q u) (fun r4 => if r4 ≤ v1 then some u else Option.bind (f_J6_numberOfTrailingZeros_0f7a4_q v1) (fun r11 => f_X0_addUp_13_q_L26 N rec2 N v1 r11 (v1 &&& (((1 : Int32) <<< (r11 &&& 31)) ^^^ (-1 : Int32))) (0 : Int32) u))
set_option maxRecDepth 20000 in
theorem go_X0_addUp_13_q_L2b (N : Nat) (rec2 : Int32 → xN → Option xN) (h2 : ∀ (v1 : Int32) (u : xN), xGm md_X0_addUp_13_q rsW (rec2 v1 u) 2 [(0, .ref 13), (1, .int v1)] [] (xU1 u)) (v1 : Int32) (u : xN) : xGm md_X0_addUp_13_q rsW (f_X0_addUp_13_q_L2b N rec2 v1 u) 2 [(0, .ref 13), (1, .int v1)] [] (xU1 u) := by
  unfold f_X0_addUp_13_q_L2b
  refine xm_blk0 (pc' := 4) (lv' := [(0, .ref 13), (1, .int v1)]) (st' := [.ref 13, .int v1]) (u' := (xU1 u)) [(.iload_n 1, (0, 0, 0), 0, 0), (.aload_n 0, (0, 0, 0), 0, 0)] (by decide +kernel) rfl ?_
  refine xm_Vi (pc := 4) (mz := md_X0_ways_13_q) (idx := 77) (p1 := 391) (a := 13) (as := []) (st := [.int v1]) (ev_X0_ways_13_q u) mw_X0_ways (by decide +kernel) (by decide +kernel) (by decide) rfl rfl (by decide) rfl (Nat.le_of_ble_eq_true rfl) (fun r4 => ?_)
  refine xm_icmp_ge (pc := 7) (off := 67) (tgt := 74) (by decide +kernel) (by decide) ?_ ?_
  · exact xm_vret (pc := 74) (by decide +kernel) rfl rfl
  · refine xm_blk0 (pc' := 11) (lv' := [(0, .ref 13), (1, .int v1)]) (st' := [.int v1]) (u' := (xU1 u)) [(.iload_n 1, (0, 0, 0), 0, 0)] (by decide +kernel) rfl ?_
    refine xm_Si (pc := 11) (mz := md_J6_numberOfTrailingZeros_0f7a4_q) (idx := 81) (p1 := 395) (as := [.int v1]) (st := []) (ev_J6_numberOfTrailingZeros_0f7a4_q v1 u) mw_J6_numberOfTrailingZeros_0f7a4 (by decide +kernel) (by decide +kernel) (by decide) rfl (Nat.le_of_ble_eq_true rfl) (fun r11 => ?_)
    refine xm_blk0 (pc' := 26) (lv' := [(0, .ref 13), (1, .int v1), (2, .int r11), (3, .int (v1 &&& (((1 : Int32) <<< (r11 &&& 31)) ^^^ (-1 : Int32)))), (4, .int (0 : Int32))]) (st' := []) (u' := (xU1 u)) [(.istore_n 2, (0, 0, 0), 0, 0), (.iload_n 1, (0, 0, 0), 0, 0), (.iconst 1, (0, 0, 0), 1, 0), (.iload_n 2, (0, 0, 0), 0, 0), (.ishl, (0, 0, 0), 0, 0), (.iconst (-1), (0, 0, 0), -1, 0), (.ixor, (0, 0, 0), 0, 0), (.iand, (0, 0, 0), 0, 0), (.istore_n 3, (0, 0, 0), 0, 0), (.iconst 0, (0, 0, 0), 0, 0), (.istore 4, (0, 0, 0), 0, 0)] (by decide +kernel) rfl ?_
    exact go_X0_addUp_13_q_L26 N rec2 h2 N v1 r11 (v1 &&& (((1 : Int32) <<< (r11 &&& 31)) ^^^ (-1 : Int32))) (0 : Int32) u
def f_X0_addUp_13_q_L2 (N : Nat) : Nat → Int32 → xN → Option xN
  | 0 => fun _ _ => none
  | n + 1 => fun v1 u => f_X0_addUp_13_q_L2b N (f_X0_addUp_13_q_L2 N n) v1 u
theorem go_X0_addUp_13_q_L2 (N : Nat) : ∀ (n : Nat) (v1 : Int32) (u : xN), xGm md_X0_addUp_13_q rsW (f_X0_addUp_13_q_L2 N n v1 u) 2 [(0, .ref 13), (1, .int v1)] [] (xU1 u) := by
  intro n
  induction n with
  | zero => intro v1 u; exact xm_none
  | succ n ih => intro v1 u; exact go_X0_addUp_13_q_L2b N _ ih v1 u
def f_X0_addUp_13_q (N : Nat) (u : xN) : Option xN := f_X0_addUp_13_q_L2 N N (1 : Int32) u
set_option maxRecDepth 20000 in
theorem go_X0_addUp_13_q (N : Nat) (u : xN) : xGm md_X0_addUp_13_q rsW (f_X0_addUp_13_q N u) 0 [(0, .ref 13)] [] (xU1 u) := by
  unfold f_X0_addUp_13_q
  refine xm_blk0 (pc' := 2) (lv' := [(0, .ref 13), (1, .int (1 : Int32))]) (st' := []) (u' := (xU1 u)) [(.iconst 1, (0, 0, 0), 1, 0), (.istore_n 1, (0, 0, 0), 0, 0)] (by decide +kernel) rfl ?_
  exact go_X0_addUp_13_q_L2 N N (1 : Int32) u
theorem ev_X0_addUp_13_q (N : Nat) (u : xN) : ∀ r, f_X0_addUp_13_q N u = some r → xEm md_X0_addUp_13_q yX0_addUp [.ref 13] (xU1 u) (none, xU1 r) := xm_met (res := rsW) (as := [.ref 13]) (go_X0_addUp_13_q N u) (by decide) rfl (Nat.le_of_ble_eq_true rfl)
theorem mw_X2_beginWith : xMv yX2_beginWith cX2_beginWith 3 none 1 := xMv_of (p1 := 205) (p2 := 203) (p3 := 96) (p4 := 204) (by decide +kernel)
/-! NeitherBare$Standing.beginWith(I)V (19, None) -/
abbrev md_X2_beginWith_19_q : xMd := (cX2_beginWith, RX2, 3, none, 1)
def f_X2_beginWith_19_q_L16b (N : Nat) (rec16 : Int32 → xN → Option xN) (v2 : Int32) (u : xN) : Option xN := if (4 : Int32) ≤ v2 then some u else gdl [inb ((2 : Int32) * v2) 8, inb (((2 : Int32) * v2) + (1 : Int32)) 8] (rec16 (v2 + (1 : Int32)) (mI (mI u 20 (Int32.toNatClampNeg ((2 : Int32) * v2)) (1 : Int32)) 20 (Int32.toNatClampNeg (((2 : Int32) * v2) + (1 : Int32))) (4 : Int32)))
set_option maxRecDepth 20000 in
theorem go_X2_beginWith_19_q_L16b (N : Nat) (rec16 : Int32 → xN → Option xN) (h16 : ∀ (v2 : Int32) (u : xN), xGm md_X2_beginWith_19_q rsW (rec16 v2 u) 16 [(0, .ref 19), (2, .int v2)] [] (xU1 u)) (v2 : Int32) (u : xN) : xGm md_X2_beginWith_19_q rsW (f_X2_beginWith_19_q_L16b N rec16 v2 u) 16 [(0, .ref 19), (2, .int v2)] [] (xU1 u) := by
  unfold f_X2_beginWith_19_q_L16b
  refine xm_blk0 (pc' := 18) (lv' := [(0, .ref 19), (2, .int v2)]) (st' := [.int (4 : Int32), .int v2]) (u' := (xU1 u)) [(.iload_n 2, (0, 0, 0), 0, 0), (.iconst 4, (0, 0, 0), 4, 0)] (by decide +kernel) rfl ?_
  refine xm_icmp_ge (pc := 18) (off := 29) (tgt := 47) (by decide +kernel) (by decide) ?_ ?_
  · exact xm_vret (pc := 47) (by decide +kernel) rfl rfl
  · refine xm_blk (bs := [inb ((2 : Int32) * v2) 8, inb (((2 : Int32) * v2) + (1 : Int32)) 8]) (pc' := 44) (lv' := [(0, .ref 19), (2, .int (v2 + (1 : Int32)))]) (st' := []) (u' := (xU1 (mI (mI u 20 (Int32.toNatClampNeg ((2 : Int32) * v2)) (1 : Int32)) 20 (Int32.toNatClampNeg (((2 : Int32) * v2) + (1 : Int32))) (4 : Int32)))) [(.aload_n 0, (0, 0, 0), 0, 0), (.getfield 9, (2, 3, 184), 0, 0), (.iconst 2, (0, 0, 0), 2, 0), (.iload_n 2, (0, 0, 0), 0, 0), (.imul, (0, 0, 0), 0, 0), (.iconst 1, (0, 0, 0), 1, 0), (.iastore, (0, 0, 0), 0, 0), (.aload_n 0, (0, 0, 0), 0, 0), (.getfield 9, (2, 3, 184), 0, 0), (.iconst 2, (0, 0, 0), 2, 0), (.iload_n 2, (0, 0, 0), 0, 0), (.imul, (0, 0, 0), 0, 0), (.iconst 1, (0, 0, 0), 1, 0), (.iadd, (0, 0, 0), 0, 0), (.iconst 4, (0, 0, 0), 4, 0), (.iastore, (0, 0, 0), 0, 0), (.iinc 2 1, (0, 0, 0), 1, 0)] (by decide +kernel) rfl ?_
    refine xm_goto (pc := 44) (off := -28) (tgt := 16) (by decide +kernel) (by decide) ?_
    exact h16 (v2 + (1 : Int32)) (mI (mI u 20 (Int32.toNatClampNeg ((2 : Int32) * v2)) (1 : Int32)) 20 (Int32.toNatClampNeg (((2 : Int32) * v2) + (1 : Int32))) (4 : Int32))
def f_X2_beginWith_19_q_L16 (N : Nat) : Nat → Int32 → xN → Option xN
  | 0 => fun _ _ => none
  | n + 1 => fun v2 u => f_X2_beginWith_19_q_L16b N (f_X2_beginWith_19_q_L16 N n) v2 u
theorem go_X2_beginWith_19_q_L16 (N : Nat) : ∀ (n : Nat) (v2 : Int32) (u : xN), xGm md_X2_beginWith_19_q rsW (f_X2_beginWith_19_q_L16 N n v2 u) 16 [(0, .ref 19), (2, .int v2)] [] (xU1 u) := by
  intro n
  induction n with
  | zero => intro v2 u; exact xm_none
  | succ n ih => intro v2 u; exact go_X2_beginWith_19_q_L16b N _ ih v2 u
def f_X2_beginWith_19_q (N : Nat) (a1 : Int32) (u : xN) : Option xN := f_X2_beginWith_19_q_L16 N N (0 : Int32) (mI (mI u 19 1 (((1 : Int32) <<< (a1 &&& 31)) - (1 : Int32))) 19 2 (0 : Int32))
set_option maxRecDepth 20000 in
theorem go_X2_beginWith_19_q (N : Nat) (a1 : Int32) (u : xN) : xGm md_X2_beginWith_19_q rsW (f_X2_beginWith_19_q N a1 u) 0 [(0, .ref 19), (1, .int a1)] [] (xU1 u) := by
  unfold f_X2_beginWith_19_q
  refine xm_blk0 (pc' := 16) (lv' := [(0, .ref 19), (1, .int a1), (2, .int (0 : Int32))]) (st' := []) (u' := (xU1 (mI (mI u 19 1 (((1 : Int32) <<< (a1 &&& 31)) - (1 : Int32))) 19 2 (0 : Int32)))) [(.aload_n 0, (0, 0, 0), 0, 0), (.iconst 1, (0, 0, 0), 1, 0), (.iload_n 1, (0, 0, 0), 0, 0), (.ishl, (0, 0, 0), 0, 0), (.iconst 1, (0, 0, 0), 1, 0), (.isub, (0, 0, 0), 0, 0), (.putfield 21, (2, 1, 180), 0, 0), (.aload_n 0, (0, 0, 0), 0, 0), (.iconst 0, (0, 0, 0), 0, 0), (.putfield 25, (2, 2, 182), 0, 0), (.iconst 0, (0, 0, 0), 0, 0), (.istore_n 2, (0, 0, 0), 0, 0)] (by decide +kernel) rfl ?_
  refine xm_wk [0, 2] (lv' := [(0, .ref 19), (2, .int (0 : Int32))]) rfl ?_
  exact go_X2_beginWith_19_q_L16 N N (0 : Int32) (mI (mI u 19 1 (((1 : Int32) <<< (a1 &&& 31)) - (1 : Int32))) 19 2 (0 : Int32))
theorem ev_X2_beginWith_19_q (N : Nat) (a1 : Int32) (u : xN) : ∀ r, f_X2_beginWith_19_q N a1 u = some r → xEm md_X2_beginWith_19_q yX2_beginWith [.ref 19, .int a1] (xU1 u) (none, xU1 r) := xm_met (res := rsW) (as := [.ref 19, .int a1]) (go_X2_beginWith_19_q N a1 u) (by decide) rfl (Nat.le_of_ble_eq_true rfl)
theorem mw_X3_court : xMv yX3_court cX3_court 5 (some .int) 1 := xMv_of (p1 := 386) (p2 := 384) (p3 := 92) (p4 := 385) (by decide +kernel)
/-! NeitherBare.court(I)I (0, None) -/
abbrev md_X3_court : xMd := (cX3_court, RX3, 5, some .int, 5)
def f_X3_court_L78b (N : Nat) (rec78 : Int32 → xN → Option (Int32 × xN × Bool)) (v4 : Int32) (u : xN) : Option (Int32 × xN × Bool) := if (3 : Int32) ≤ v4 then some ((u.1 13 0), u, true) else if v4 = (0 : Int32) then (gdl [isb (0 : Int32)] (rec78 (v4 + (1 : Int32)) (mI u 24 0 (0 : Int32)))) else if v4 = (1 : Int32) then (gdl [isb (0 : Int32)] (rec78 (v4 + (1 : Int32)) (mI u 28 0 (0 : Int32)))) else if v4 = (2 : Int32) then (gdl [isb (0 : Int32)] (rec78 (v4 + (1 : Int32)) (mI u 32 0 (0 : Int32)))) else none
set_option maxRecDepth 20000 in
theorem go_X3_court_L78b (N : Nat) (rec78 : Int32 → xN → Option (Int32 × xN × Bool)) (h78 : ∀ (v4 : Int32) (u : xN), xGm md_X3_court rsC (rec78 v4 u) 78 [(0, .ref 0), (4, .int v4)] [] (xU1 u)) (v4 : Int32) (u : xN) : xGm md_X3_court rsC (f_X3_court_L78b N rec78 v4 u) 78 [(0, .ref 0), (4, .int v4)] [] (xU1 u) := by
  unfold f_X3_court_L78b
  refine xm_blk0 (pc' := 81) (lv' := [(0, .ref 0), (4, .int v4)]) (st' := [.int (3 : Int32), .int v4]) (u' := (xU1 u)) [(.iload 4, (0, 0, 0), 0, 0), (.iconst 3, (0, 0, 0), 3, 0)] (by decide +kernel) rfl ?_
  refine xm_icmp_ge (pc := 81) (off := 20) (tgt := 101) (by decide +kernel) (by decide) ?_ ?_
  · refine xm_blk0 (pc' := 108) (lv' := [(0, .ref 0), (4, .int v4)]) (st' := [.int (u.1 13 0)]) (u' := (xU1 u)) [(.aload_n 0, (0, 0, 0), 0, 0), (.getfield 24, (3, 2, 208), 0, 0), (.getfield 119, (0, 0, 143), 0, 0)] (by decide +kernel) rfl ?_
    exact xm_iret (pc := 108) (by decide +kernel) rfl rfl
  · refine xm_blk0 (pc' := 90) (lv' := [(0, .ref 0), (4, .int v4)]) (st' := [.int v4, .ref 23]) (u' := (xU1 u)) [(.aload_n 0, (0, 0, 0), 0, 0), (.getfield 38, (3, 5, 211), 0, 0), (.iload 4, (0, 0, 0), 0, 0)] (by decide +kernel) rfl ?_
    refine xm_aald1 (pc := 90) (by decide +kernel) ?_ ?_ ?_
    · refine xm_blk (bs := [isb (0 : Int32)]) (pc' := 98) (lv' := [(0, .ref 0), (4, .int (v4 + (1 : Int32)))]) (st' := []) (u' := (xU1 (mI u 24 0 (0 : Int32)))) [(.iconst 0, (0, 0, 0), 0, 0), (.putfield 116, (2, 0, 179), 0, 0), (.iinc 4 1, (0, 0, 0), 1, 0)] (by decide +kernel) rfl ?_
      refine xm_goto (pc := 98) (off := -20) (tgt := 78) (by decide +kernel) (by decide) ?_
      exact h78 (v4 + (1 : Int32)) (mI u 24 0 (0 : Int32))
    · refine xm_blk (bs := [isb (0 : Int32)]) (pc' := 98) (lv' := [(0, .ref 0), (4, .int (v4 + (1 : Int32)))]) (st' := []) (u' := (xU1 (mI u 28 0 (0 : Int32)))) [(.iconst 0, (0, 0, 0), 0, 0), (.putfield 116, (2, 0, 179), 0, 0), (.iinc 4 1, (0, 0, 0), 1, 0)] (by decide +kernel) rfl ?_
      refine xm_goto (pc := 98) (off := -20) (tgt := 78) (by decide +kernel) (by decide) ?_
      exact h78 (v4 + (1 : Int32)) (mI u 28 0 (0 : Int32))
    · refine xm_blk (bs := [isb (0 : Int32)]) (pc' := 98) (lv' := [(0, .ref 0), (4, .int (v4 + (1 : Int32)))]) (st' := []) (u' := (xU1 (mI u 32 0 (0 : Int32)))) [(.iconst 0, (0, 0, 0), 0, 0), (.putfield 116, (2, 0, 179), 0, 0), (.iinc 4 1, (0, 0, 0), 1, 0)] (by decide +kernel) rfl ?_
      refine xm_goto (pc := 98) (off := -20) (tgt := 78) (by decide +kernel) (by decide) ?_
      exact h78 (v4 + (1 : Int32)) (mI u 32 0 (0 : Int32))
def f_X3_court_L78 (N : Nat) : Nat → Int32 → xN → Option (Int32 × xN × Bool)
  | 0 => fun _ _ => none
  | n + 1 => fun v4 u => f_X3_court_L78b N (f_X3_court_L78 N n) v4 u
theorem go_X3_court_L78 (N : Nat) : ∀ (n : Nat) (v4 : Int32) (u : xN), xGm md_X3_court rsC (f_X3_court_L78 N n v4 u) 78 [(0, .ref 0), (4, .int v4)] [] (xU1 u) := by
  intro n
  induction n with
  | zero => intro v4 u; exact xm_none
  | succ n ih => intro v4 u; exact go_X3_court_L78b N _ ih v4 u
def f_X3_court (N : Nat) (a1 : Int32) (u : xN) : Option (Int32 × xN × Bool) := Option.bind (f_X3_refusedPlace_4 a1 u) (fun r6 => if r6.1 = (0 : Int32) then Option.bind (f_X0_readFrom_13_4 N a1 r6.2) (fun r25 => if r25.1 = (-9 : Int32) then Option.bind (f_X0_addUp_13_q N r25.2) (fun r58 => Option.bind (f_X2_beginWith_19_q N (r58.1 13 1) r58) (fun r72 => f_X3_court_L78 N N (0 : Int32) r72)) else some ((-4 : Int32), r25.2, false)) else some (r6.1, r6.2, false))
set_option maxRecDepth 20000 in
theorem go_X3_court (N : Nat) (a1 : Int32) (u : xN) : xGm md_X3_court rsC (f_X3_court N a1 u) 0 [(0, .ref 0), (1, .int a1)] [] (xU u) := by
  unfold f_X3_court
  refine xm_blk0 (pc' := 6) (lv' := [(0, .ref 0), (1, .int a1)]) (st' := [.int a1, .ref 4, .ref 0]) (u' := (xU u)) [(.aload_n 0, (0, 0, 0), 0, 0), (.aload_n 0, (0, 0, 0), 0, 0), (.getfield 18, (3, 1, 207), 0, 0), (.iload_n 1, (0, 0, 0), 0, 0)] (by decide +kernel) rfl ?_
  refine xm_Vm (pc := 6) (mz := md_X3_refusedPlace_4) (idx := 78) (p1 := 280) (a := 0) (as := [.ref 4, .int a1]) (st := []) (ev_X3_refusedPlace_4 a1 u) mw_X3_refusedPlace (by decide +kernel) (by decide +kernel) (by decide) rfl rfl (by decide) rfl (Nat.le_of_ble_eq_true rfl) (fun r6 => ?_)
  refine xm_blk0 (pc' := 11) (lv' := [(0, .ref 0), (1, .int a1), (2, .int r6.1)]) (st' := [.int r6.1]) (u' := (xU r6.2)) [(.istore_n 2, (0, 0, 0), 0, 0), (.iload_n 2, (0, 0, 0), 0, 0)] (by decide +kernel) rfl ?_
  refine xm_if_eq (pc := 11) (off := 5) (tgt := 16) (by decide +kernel) (by decide) ?_ ?_
  · refine xm_blk0 (pc' := 25) (lv' := [(0, .ref 0), (1, .int a1), (2, .int r6.1)]) (st' := [.int a1, .ref 4, .ref 13]) (u' := (xU r6.2)) [(.aload_n 0, (0, 0, 0), 0, 0), (.getfield 28, (3, 3, 209), 0, 0), (.aload_n 0, (0, 0, 0), 0, 0), (.getfield 18, (3, 1, 207), 0, 0), (.iload_n 1, (0, 0, 0), 0, 0)] (by decide +kernel) rfl ?_
    refine xm_Vm (pc := 25) (mz := md_X0_readFrom_13_4) (idx := 107) (p1 := 343) (a := 13) (as := [.ref 4, .int a1]) (st := []) (ev_X0_readFrom_13_4 N a1 r6.2) mw_X0_readFrom (by decide +kernel) (by decide +kernel) (by decide) rfl rfl (by decide) rfl (Nat.le_of_ble_eq_true rfl) (fun r25 => ?_)
    refine xm_blk0 (pc' := 30) (lv' := [(0, .ref 0), (1, .int a1), (2, .int r6.1)]) (st' := [.int (-9 : Int32), .int r25.1]) (u' := (xU r25.2)) [(.bipush (-9), (0, 0, 0), -9, 0)] (by decide +kernel) rfl ?_
    refine xm_icmp_eq (pc := 30) (off := 6) (tgt := 36) (by decide +kernel) (by decide) ?_ ?_
    · refine xm_blk0 (pc' := 58) (lv' := [(0, .ref 0), (1, .int a1), (2, .int r6.1), (3, .ref 7)]) (st' := [.ref 13]) (u' := (xU1 r25.2)) [(.aload_n 0, (0, 0, 0), 0, 0), (.getfield 24, (3, 2, 208), 0, 0), (.astore_n 3, (0, 0, 0), 0, 0), (.aload_n 0, (0, 0, 0), 0, 0), (.aload_n 0, (0, 0, 0), 0, 0), (.getfield 28, (3, 3, 209), 0, 0), (.putfield 24, (3, 2, 208), 0, 0), (.aload_n 0, (0, 0, 0), 0, 0), (.aload_n 3, (0, 0, 0), 0, 0), (.putfield 28, (3, 3, 209), 0, 0), (.aload_n 0, (0, 0, 0), 0, 0), (.getfield 24, (3, 2, 208), 0, 0)] (by decide +kernel) rfl ?_
      refine xm_Vw (pc := 58) (mz := md_X0_addUp_13_q) (idx := 110) (p1 := 387) (a := 13) (as := []) (st := []) (ev_X0_addUp_13_q N r25.2) mw_X0_addUp (by decide +kernel) (by decide +kernel) (by decide) rfl rfl (by decide) rfl (Nat.le_of_ble_eq_true rfl) (fun r58 => ?_)
      refine xm_blk0 (pc' := 72) (lv' := [(0, .ref 0), (1, .int a1), (2, .int r6.1), (3, .ref 7)]) (st' := [.int (r58.1 13 1), .ref 19]) (u' := (xU1 r58)) [(.aload_n 0, (0, 0, 0), 0, 0), (.getfield 34, (3, 4, 210), 0, 0), (.aload_n 0, (0, 0, 0), 0, 0), (.getfield 24, (3, 2, 208), 0, 0), (.getfield 113, (0, 1, 145), 0, 0)] (by decide +kernel) rfl ?_
      refine xm_Vw (pc := 72) (mz := md_X2_beginWith_19_q) (idx := 56) (p1 := 202) (a := 19) (as := [.int (r58.1 13 1)]) (st := []) (ev_X2_beginWith_19_q N (r58.1 13 1) r58) mw_X2_beginWith (by decide +kernel) (by decide +kernel) (by decide) rfl rfl (by decide) rfl (Nat.le_of_ble_eq_true rfl) (fun r72 => ?_)
      refine xm_blk0 (pc' := 78) (lv' := [(0, .ref 0), (1, .int a1), (2, .int r6.1), (3, .ref 7), (4, .int (0 : Int32))]) (st' := []) (u' := (xU1 r72)) [(.iconst 0, (0, 0, 0), 0, 0), (.istore 4, (0, 0, 0), 0, 0)] (by decide +kernel) rfl ?_
      refine xm_wk [0, 4] (lv' := [(0, .ref 0), (4, .int (0 : Int32))]) rfl ?_
      exact go_X3_court_L78 N N (0 : Int32) r72
    · refine xm_blk0 (pc' := 35) (lv' := [(0, .ref 0), (1, .int a1), (2, .int r6.1)]) (st' := [.int (-4 : Int32)]) (u' := (xU r25.2)) [(.bipush (-4), (0, 0, 0), -4, 0)] (by decide +kernel) rfl ?_
      exact xm_iret (pc := 35) (by decide +kernel) rfl rfl
  · refine xm_blk0 (pc' := 15) (lv' := [(0, .ref 0), (1, .int a1), (2, .int r6.1)]) (st' := [.int r6.1]) (u' := (xU r6.2)) [(.iload_n 2, (0, 0, 0), 0, 0)] (by decide +kernel) rfl ?_
    exact xm_iret (pc := 15) (by decide +kernel) rfl rfl
theorem ev_X3_court (N : Nat) (a1 : Int32) (u : xN) : ∀ r, f_X3_court N a1 u = some r → xEm md_X3_court yX3_court [.ref 0, .int a1] (xU u) (rsC r) := xm_met (res := rsC) (as := [.ref 0, .int a1]) (go_X3_court N a1 u) (by decide) rfl (Nat.le_of_ble_eq_true rfl)
theorem mw_X3_thing : xMv yX3_thing cX3_thing 3 (some .int) 2 := xMv_of (p1 := 406) (p2 := 404) (p3 := 92) (p4 := 405) (by decide +kernel)
/-! NeitherBare.thing(II)I (0, None, None) -/
abbrev md_X3_thing : xMd := (cX3_thing, RX3, 3, some .int, 1)
def f_X3_thing_L24 (u : xN) : Option (Int32 × xN) := some ((-1 : Int32), u)
set_option maxRecDepth 20000 in
theorem go_X3_thing_L24 (u : xN) : xGm md_X3_thing rsM (f_X3_thing_L24 u) 24 [] [] (xU u) := by
  unfold f_X3_thing_L24
  refine xm_blk0 (pc' := 25) (lv' := []) (st' := [.int (-1 : Int32)]) (u' := (xU u)) [(.iconst (-1), (0, 0, 0), -1, 0)] (by decide +kernel) rfl ?_
  exact xm_iret (pc := 25) (by decide +kernel) rfl rfl
def f_X3_thing (a1 : Int32) (a2 : Int32) (u : xN) : Option (Int32 × xN) := if a1 < (0 : Int32) then f_X3_thing_L24 u else if (u.1 7 0) ≤ a1 then f_X3_thing_L24 u else if a2 < (0 : Int32) then f_X3_thing_L24 u else if a2 < (5 : Int32) then (gdl [inb ((a1 * (5 : Int32)) + a2) 30] (some ((1 : Int32), mI u 0 10 (u.1 8 (Int32.toNatClampNeg ((a1 * (5 : Int32)) + a2)))))) else f_X3_thing_L24 u
set_option maxRecDepth 20000 in
theorem go_X3_thing (a1 : Int32) (a2 : Int32) (u : xN) : xGm md_X3_thing rsM (f_X3_thing a1 a2 u) 0 [(0, .ref 0), (1, .int a1), (2, .int a2)] [] (xU u) := by
  unfold f_X3_thing
  refine xm_blk0 (pc' := 1) (lv' := [(0, .ref 0), (1, .int a1), (2, .int a2)]) (st' := [.int a1]) (u' := (xU u)) [(.iload_n 1, (0, 0, 0), 0, 0)] (by decide +kernel) rfl ?_
  refine xm_if_lt (pc := 1) (off := 23) (tgt := 24) (by decide +kernel) (by decide) ?_ ?_
  · refine xm_wk [] (lv' := []) rfl ?_
    exact go_X3_thing_L24 u
  · refine xm_blk0 (pc' := 12) (lv' := [(0, .ref 0), (1, .int a1), (2, .int a2)]) (st' := [.int (u.1 7 0), .int a1]) (u' := (xU u)) [(.iload_n 1, (0, 0, 0), 0, 0), (.aload_n 0, (0, 0, 0), 0, 0), (.getfield 24, (3, 2, 208), 0, 0), (.getfield 119, (0, 0, 143), 0, 0)] (by decide +kernel) rfl ?_
    refine xm_icmp_ge (pc := 12) (off := 12) (tgt := 24) (by decide +kernel) (by decide) ?_ ?_
    · refine xm_wk [] (lv' := []) rfl ?_
      exact go_X3_thing_L24 u
    · refine xm_blk0 (pc' := 16) (lv' := [(0, .ref 0), (1, .int a1), (2, .int a2)]) (st' := [.int a2]) (u' := (xU u)) [(.iload_n 2, (0, 0, 0), 0, 0)] (by decide +kernel) rfl ?_
      refine xm_if_lt (pc := 16) (off := 8) (tgt := 24) (by decide +kernel) (by decide) ?_ ?_
      · refine xm_wk [] (lv' := []) rfl ?_
        exact go_X3_thing_L24 u
      · refine xm_blk0 (pc' := 21) (lv' := [(0, .ref 0), (1, .int a1), (2, .int a2)]) (st' := [.int (5 : Int32), .int a2]) (u' := (xU u)) [(.iload_n 2, (0, 0, 0), 0, 0), (.iconst 5, (0, 0, 0), 5, 0)] (by decide +kernel) rfl ?_
        refine xm_icmp_lt (pc := 21) (off := 5) (tgt := 26) (by decide +kernel) (by decide) ?_ ?_
        · refine xm_blk (bs := [inb ((a1 * (5 : Int32)) + a2) 30]) (pc' := 44) (lv' := [(0, .ref 0), (1, .int a1), (2, .int a2)]) (st' := [.int (1 : Int32)]) (u' := (xU (mI u 0 10 (u.1 8 (Int32.toNatClampNeg ((a1 * (5 : Int32)) + a2)))))) [(.aload_n 0, (0, 0, 0), 0, 0), (.aload_n 0, (0, 0, 0), 0, 0), (.getfield 24, (3, 2, 208), 0, 0), (.getfield 122, (0, 3, 148), 0, 0), (.iload_n 1, (0, 0, 0), 0, 0), (.iconst 5, (0, 0, 0), 5, 0), (.imul, (0, 0, 0), 0, 0), (.iload_n 2, (0, 0, 0), 0, 0), (.iadd, (0, 0, 0), 0, 0), (.iaload, (0, 0, 0), 0, 0), (.putfield 71, (3, 10, 216), 0, 0), (.iconst 1, (0, 0, 0), 1, 0)] (by decide +kernel) rfl ?_
          exact xm_iret (pc := 44) (by decide +kernel) rfl rfl
        · refine xm_wk [] (lv' := []) rfl ?_
          exact go_X3_thing_L24 u
theorem ev_X3_thing (a1 : Int32) (a2 : Int32) (u : xN) : ∀ r, f_X3_thing a1 a2 u = some r → xEm md_X3_thing yX3_thing [.ref 0, .int a1, .int a2] (xU u) (some (.int r.1), xU r.2) := xm_met (res := rsM) (as := [.ref 0, .int a1, .int a2]) (go_X3_thing a1 a2 u) (by decide) rfl (Nat.le_of_ble_eq_true rfl)
theorem mw_X3_isClause : xMv yX3_isClause cX3_isClause 2 (some .boolean) 1 := xMv_of (p1 := 414) (p2 := 413) (p3 := 92) (p4 := 10) (by decide +kernel)
/-! NeitherBare.isClause(I)Z (0, None) -/
abbrev md_X3_isClause : xMd := (cX3_isClause, RX3, 2, some .boolean, 1)
def f_X3_isClause_L20 (u : xN) (t0 : Int32) : Option Int32 := gdl [isb t0] (some t0)
set_option maxRecDepth 20000 in
theorem go_X3_isClause_L20 (u : xN) (t0 : Int32) : xGm md_X3_isClause (rsI (xU u)) (f_X3_isClause_L20 u t0) 20 [] [.int t0] (xU u) := by
  unfold f_X3_isClause_L20
  exact xm_zret (pc := 20) (by decide +kernel) rfl rfl
def f_X3_isClause_L19 (u : xN) : Option Int32 := f_X3_isClause_L20 u (0 : Int32)
set_option maxRecDepth 20000 in
theorem go_X3_isClause_L19 (u : xN) : xGm md_X3_isClause (rsI (xU u)) (f_X3_isClause_L19 u) 19 [] [] (xU u) := by
  unfold f_X3_isClause_L19
  refine xm_blk0 (pc' := 20) (lv' := []) (st' := [.int (0 : Int32)]) (u' := (xU u)) [(.iconst 0, (0, 0, 0), 0, 0)] (by decide +kernel) rfl ?_
  exact go_X3_isClause_L20 u (0 : Int32)
def f_X3_isClause (a1 : Int32) (u : xN) : Option Int32 := if a1 < (0 : Int32) then f_X3_isClause_L19 u else if (u.1 7 1) ≤ a1 then f_X3_isClause_L19 u else f_X3_isClause_L20 u (1 : Int32)
set_option maxRecDepth 20000 in
theorem go_X3_isClause (a1 : Int32) (u : xN) : xGm md_X3_isClause (rsI (xU u)) (f_X3_isClause a1 u) 0 [(0, .ref 0), (1, .int a1)] [] (xU u) := by
  unfold f_X3_isClause
  refine xm_blk0 (pc' := 1) (lv' := [(0, .ref 0), (1, .int a1)]) (st' := [.int a1]) (u' := (xU u)) [(.iload_n 1, (0, 0, 0), 0, 0)] (by decide +kernel) rfl ?_
  refine xm_if_lt (pc := 1) (off := 18) (tgt := 19) (by decide +kernel) (by decide) ?_ ?_
  · refine xm_wk [] (lv' := []) rfl ?_
    exact go_X3_isClause_L19 u
  · refine xm_blk0 (pc' := 12) (lv' := [(0, .ref 0), (1, .int a1)]) (st' := [.int (u.1 7 1), .int a1]) (u' := (xU u)) [(.iload_n 1, (0, 0, 0), 0, 0), (.aload_n 0, (0, 0, 0), 0, 0), (.getfield 24, (3, 2, 208), 0, 0), (.getfield 113, (0, 1, 145), 0, 0)] (by decide +kernel) rfl ?_
    refine xm_icmp_ge (pc := 12) (off := 7) (tgt := 19) (by decide +kernel) (by decide) ?_ ?_
    · refine xm_wk [] (lv' := []) rfl ?_
      exact go_X3_isClause_L19 u
    · refine xm_blk0 (pc' := 16) (lv' := [(0, .ref 0), (1, .int a1)]) (st' := [.int (1 : Int32)]) (u' := (xU u)) [(.iconst 1, (0, 0, 0), 1, 0)] (by decide +kernel) rfl ?_
      refine xm_goto (pc := 16) (off := 4) (tgt := 20) (by decide +kernel) (by decide) ?_
      refine xm_wk [] (lv' := []) rfl ?_
      exact go_X3_isClause_L20 u (1 : Int32)
theorem ev_X3_isClause (a1 : Int32) (u : xN) : ∀ r, f_X3_isClause a1 u = some r → xEm md_X3_isClause yX3_isClause [.ref 0, .int a1] (xU u) (some (.int r), (xU u)) := xm_met (res := (rsI (xU u))) (as := [.ref 0, .int a1]) (go_X3_isClause a1 u) (by decide) rfl (Nat.le_of_ble_eq_true rfl)
/-! NeitherBare$Court.ways()I (7,) -/
abbrev md_X0_ways_7 : xMd := (cX0_ways, RX0, 1, some .int, 1)
def f_X0_ways_7 (u : xN) : Option Int32 := some ((1 : Int32) <<< ((u.1 7 0) &&& 31))
set_option maxRecDepth 20000 in
theorem go_X0_ways_7 (u : xN) : xGm md_X0_ways_7 (rsI (xU u)) (f_X0_ways_7 u) 0 [(0, .ref 7)] [] (xU u) := by
  unfold f_X0_ways_7
  refine xm_blk0 (pc' := 6) (lv' := [(0, .ref 7)]) (st' := [.int ((1 : Int32) <<< ((u.1 7 0) &&& 31))]) (u' := (xU u)) [(.iconst 1, (0, 0, 0), 1, 0), (.aload_n 0, (0, 0, 0), 0, 0), (.getfield 27, (0, 0, 142), 0, 0), (.ishl, (0, 0, 0), 0, 0)] (by decide +kernel) rfl ?_
  exact xm_iret (pc := 6) (by decide +kernel) rfl rfl
theorem ev_X0_ways_7 (u : xN) : ∀ r, f_X0_ways_7 u = some r → xEm md_X0_ways_7 yX0_ways [.ref 7] (xU u) (some (.int r), (xU u)) := xm_met (res := (rsI (xU u))) (as := [.ref 7]) (go_X0_ways_7 u) (by decide) rfl (Nat.le_of_ble_eq_true rfl)
/-! NeitherBare$Court.sumOf(II)I (7, None, None) -/
abbrev md_X0_sumOf_7 : xMd := (cX0_sumOf, RX0, 3, some .int, 1)
def f_X0_sumOf_7 (a1 : Int32) (a2 : Int32) (u : xN) : Option Int32 := gdl [inb ((a1 * (5 : Int32)) + a2) 320] (some (u.1 9 (Int32.toNatClampNeg ((a1 * (5 : Int32)) + a2))))
set_option maxRecDepth 20000 in
theorem go_X0_sumOf_7 (a1 : Int32) (a2 : Int32) (u : xN) : xGm md_X0_sumOf_7 (rsI (xU u)) (f_X0_sumOf_7 a1 a2 u) 0 [(0, .ref 7), (1, .int a1), (2, .int a2)] [] (xU u) := by
  unfold f_X0_sumOf_7
  refine xm_blk (bs := [inb ((a1 * (5 : Int32)) + a2) 320]) (pc' := 10) (lv' := [(0, .ref 7), (1, .int a1), (2, .int a2)]) (st' := [.int (u.1 9 (Int32.toNatClampNeg ((a1 * (5 : Int32)) + a2)))]) (u' := (xU u)) [(.aload_n 0, (0, 0, 0), 0, 0), (.getfield 15, (0, 4, 149), 0, 0), (.iload_n 1, (0, 0, 0), 0, 0), (.iconst 5, (0, 0, 0), 5, 0), (.imul, (0, 0, 0), 0, 0), (.iload_n 2, (0, 0, 0), 0, 0), (.iadd, (0, 0, 0), 0, 0), (.iaload, (0, 0, 0), 0, 0)] (by decide +kernel) rfl ?_
  exact xm_iret (pc := 10) (by decide +kernel) rfl rfl
theorem ev_X0_sumOf_7 (a1 : Int32) (a2 : Int32) (u : xN) : ∀ r, f_X0_sumOf_7 a1 a2 u = some r → xEm md_X0_sumOf_7 yX0_sumOf [.ref 7, .int a1, .int a2] (xU u) (some (.int r), (xU u)) := xm_met (res := (rsI (xU u))) (as := [.ref 7, .int a1, .int a2]) (go_X0_sumOf_7 a1 a2 u) (by decide) rfl (Nat.le_of_ble_eq_true rfl)
theorem mw_X0_valueOf : xMv yX0_valueOf cX0_valueOf 3 (some .int) 2 := xMv_of (p1 := 438) (p2 := 436) (p3 := 95) (p4 := 437) (by decide +kernel)
/-! NeitherBare$Court.valueOf(II)I (7, None, None) -/
abbrev md_X0_valueOf_7 : xMd := (cX0_valueOf, RX0, 3, some .int, 2)
def f_X0_valueOf_7 (a1 : Int32) (a2 : Int32) (u : xN) : Option Int32 := Option.bind (f_X0_sumOf_7 a1 a2 u) (fun r4 => some (if r4 < (5 : Int32) then r4 else (5 : Int32)))
set_option maxRecDepth 20000 in
theorem go_X0_valueOf_7 (a1 : Int32) (a2 : Int32) (u : xN) : xGm md_X0_valueOf_7 (rsI (xU u)) (f_X0_valueOf_7 a1 a2 u) 0 [(0, .ref 7), (1, .int a1), (2, .int a2)] [] (xU u) := by
  unfold f_X0_valueOf_7
  refine xm_blk0 (pc' := 4) (lv' := [(0, .ref 7), (1, .int a1), (2, .int a2)]) (st' := [.int a2, .int a1, .ref 7, .int (5 : Int32)]) (u' := (xU u)) [(.iconst 5, (0, 0, 0), 5, 0), (.aload_n 0, (0, 0, 0), 0, 0), (.iload_n 1, (0, 0, 0), 0, 0), (.iload_n 2, (0, 0, 0), 0, 0)] (by decide +kernel) rfl ?_
  refine xm_Vi (pc := 4) (mz := md_X0_sumOf_7) (idx := 86) (p1 := 399) (a := 7) (as := [.int a1, .int a2]) (st := [.int (5 : Int32)]) (ev_X0_sumOf_7 a1 a2 u) mw_X0_sumOf (by decide +kernel) (by decide +kernel) (by decide) rfl rfl (by decide) rfl (Nat.le_of_ble_eq_true rfl) (fun r4 => ?_)
  refine xm_mmin (pc := 7) (idx := 89) (p1 := 439) (by decide +kernel) (by decide +kernel) (by decide) (Nat.le_of_ble_eq_true rfl) ?_
  exact xm_iret (pc := 10) (by decide +kernel) rfl rfl
theorem ev_X0_valueOf_7 (a1 : Int32) (a2 : Int32) (u : xN) : ∀ r, f_X0_valueOf_7 a1 a2 u = some r → xEm md_X0_valueOf_7 yX0_valueOf [.ref 7, .int a1, .int a2] (xU u) (some (.int r), (xU u)) := xm_met (res := (rsI (xU u))) (as := [.ref 7, .int a1, .int a2]) (go_X0_valueOf_7 a1 a2 u) (by decide) rfl (Nat.le_of_ble_eq_true rfl)
theorem mw_X0_secondOf : xMv yX0_secondOf cX0_secondOf 2 (some .int) 1 := xMv_of (p1 := 449) (p2 := 447) (p3 := 95) (p4 := 448) (by decide +kernel)
/-! NeitherBare$Court.secondOf(I)I (7, None) -/
abbrev md_X0_secondOf_7 : xMd := (cX0_secondOf, RX0, 2, some .int, 2)
def f_X0_secondOf_7_L31 (u : xN) (t0 : Int32) : Option Int32 := some t0
set_option maxRecDepth 20000 in
theorem go_X0_secondOf_7_L31 (u : xN) (t0 : Int32) : xGm md_X0_secondOf_7 (rsI (xU u)) (f_X0_secondOf_7_L31 u t0) 31 [] [.int t0] (xU u) := by
  unfold f_X0_secondOf_7_L31
  exact xm_iret (pc := 31) (by decide +kernel) rfl rfl
def f_X0_secondOf_7 (a1 : Int32) (u : xN) : Option Int32 := gdl [inb a1 8] (Option.bind (f_X3_isTrait (u.1 12 (Int32.toNatClampNeg a1))) (fun r6 => if r6 = (0 : Int32) then (gdl [inb a1 8, nzi (4 : Int32)] (f_X0_secondOf_7_L31 u (((u.1 11 (Int32.toNatClampNeg a1)) + (1 : Int32)) - ((u.1 11 (Int32.toNatClampNeg a1)) + (1 : Int32)) / (4 : Int32) * (4 : Int32)))) else gdl [inb a1 8] (f_X0_secondOf_7_L31 u (u.1 12 (Int32.toNatClampNeg a1)))))
set_option maxRecDepth 20000 in
theorem go_X0_secondOf_7 (a1 : Int32) (u : xN) : xGm md_X0_secondOf_7 (rsI (xU u)) (f_X0_secondOf_7 a1 u) 0 [(0, .ref 7), (1, .int a1)] [] (xU u) := by
  unfold f_X0_secondOf_7
  refine xm_blk (bs := [inb a1 8]) (pc' := 6) (lv' := [(0, .ref 7), (1, .int a1)]) (st' := [.int (u.1 12 (Int32.toNatClampNeg a1))]) (u' := (xU u)) [(.aload_n 0, (0, 0, 0), 0, 0), (.getfield 24, (0, 7, 154), 0, 0), (.iload_n 1, (0, 0, 0), 0, 0), (.iaload, (0, 0, 0), 0, 0)] (by decide +kernel) rfl ?_
  refine xm_Ni (pc := 6) (mz := md_X3_isTrait) (idx := 74) (as := [.int (u.1 12 (Int32.toNatClampNeg a1))]) (st := []) (ev_X3_isTrait (u.1 12 (Int32.toNatClampNeg a1)) u) mw_X3_isTrait (by decide +kernel) (fun _ h => h.1) (by decide) rfl (Nat.le_of_ble_eq_true rfl) (fun r6 => ?_)
  refine xm_if_eq (pc := 9) (off := 12) (tgt := 21) (by decide +kernel) (by decide) ?_ ?_
  · refine xm_blk (bs := [inb a1 8, nzi (4 : Int32)]) (pc' := 31) (lv' := [(0, .ref 7), (1, .int a1)]) (st' := [.int (((u.1 11 (Int32.toNatClampNeg a1)) + (1 : Int32)) - ((u.1 11 (Int32.toNatClampNeg a1)) + (1 : Int32)) / (4 : Int32) * (4 : Int32))]) (u' := (xU u)) [(.aload_n 0, (0, 0, 0), 0, 0), (.getfield 21, (0, 6, 152), 0, 0), (.iload_n 1, (0, 0, 0), 0, 0), (.iaload, (0, 0, 0), 0, 0), (.iconst 1, (0, 0, 0), 1, 0), (.iadd, (0, 0, 0), 0, 0), (.iconst 4, (0, 0, 0), 4, 0), (.irem, (0, 0, 0), 0, 0)] (by decide +kernel) rfl ?_
    refine xm_wk [] (lv' := []) rfl ?_
    exact go_X0_secondOf_7_L31 u (((u.1 11 (Int32.toNatClampNeg a1)) + (1 : Int32)) - ((u.1 11 (Int32.toNatClampNeg a1)) + (1 : Int32)) / (4 : Int32) * (4 : Int32))
  · refine xm_blk (bs := [inb a1 8]) (pc' := 18) (lv' := [(0, .ref 7), (1, .int a1)]) (st' := [.int (u.1 12 (Int32.toNatClampNeg a1))]) (u' := (xU u)) [(.aload_n 0, (0, 0, 0), 0, 0), (.getfield 24, (0, 7, 154), 0, 0), (.iload_n 1, (0, 0, 0), 0, 0), (.iaload, (0, 0, 0), 0, 0)] (by decide +kernel) rfl ?_
    refine xm_goto (pc := 18) (off := 13) (tgt := 31) (by decide +kernel) (by decide) ?_
    refine xm_wk [] (lv' := []) rfl ?_
    exact go_X0_secondOf_7_L31 u (u.1 12 (Int32.toNatClampNeg a1))
theorem ev_X0_secondOf_7 (a1 : Int32) (u : xN) : ∀ r, f_X0_secondOf_7 a1 u = some r → xEm md_X0_secondOf_7 yX0_secondOf [.ref 7, .int a1] (xU u) (some (.int r), (xU u)) := xm_met (res := (rsI (xU u))) (as := [.ref 7, .int a1]) (go_X0_secondOf_7 a1 u) (by decide) rfl (Nat.le_of_ble_eq_true rfl)
theorem mw_X0_isSecondLittle : xMv yX0_isSecondLittle cX0_isSecondLittle 5 (some .boolean) 3 := xMv_of (p1 := 453) (p2 := 452) (p3 := 95) (p4 := 14) (by decide +kernel)
/-! NeitherBare$Court.isSecondLittle(II[I)Z (7, None, None, 20) -/
abbrev md_X0_isSecondLittle_7_20 : xMd := (cX0_isSecondLittle, RX0, 5, some .boolean, 3)
def f_X0_isSecondLittle_7_20_L28 (u : xN) (t0 : Int32) : Option Int32 := gdl [isb t0] (some t0)
set_option maxRecDepth 20000 in
theorem go_X0_isSecondLittle_7_20_L28 (u : xN) (t0 : Int32) : xGm md_X0_isSecondLittle_7_20 (rsI (xU u)) (f_X0_isSecondLittle_7_20_L28 u t0) 28 [] [.int t0] (xU u) := by
  unfold f_X0_isSecondLittle_7_20_L28
  exact xm_zret (pc := 28) (by decide +kernel) rfl rfl
def f_X0_isSecondLittle_7_20 (a1 : Int32) (a2 : Int32) (u : xN) : Option Int32 := Option.bind (f_X0_secondOf_7 a1 u) (fun r2 => Option.bind (f_X0_valueOf_7 a2 r2 u) (fun r11 => gdl [inb ((2 : Int32) * r2) 8] (if (u.1 20 (Int32.toNatClampNeg ((2 : Int32) * r2))) < r11 then f_X0_isSecondLittle_7_20_L28 u (0 : Int32) else f_X0_isSecondLittle_7_20_L28 u (1 : Int32))))
set_option maxRecDepth 20000 in
theorem go_X0_isSecondLittle_7_20 (a1 : Int32) (a2 : Int32) (u : xN) : xGm md_X0_isSecondLittle_7_20 (rsI (xU u)) (f_X0_isSecondLittle_7_20 a1 a2 u) 0 [(0, .ref 7), (1, .int a1), (2, .int a2), (3, .ref 20)] [] (xU u) := by
  unfold f_X0_isSecondLittle_7_20
  refine xm_blk0 (pc' := 2) (lv' := [(0, .ref 7), (1, .int a1), (2, .int a2), (3, .ref 20)]) (st' := [.int a1, .ref 7]) (u' := (xU u)) [(.aload_n 0, (0, 0, 0), 0, 0), (.iload_n 1, (0, 0, 0), 0, 0)] (by decide +kernel) rfl ?_
  refine xm_Vi (pc := 2) (mz := md_X0_secondOf_7) (idx := 108) (p1 := 446) (a := 7) (as := [.int a1]) (st := []) (ev_X0_secondOf_7 a1 u) mw_X0_secondOf (by decide +kernel) (by decide +kernel) (by decide) rfl rfl (by decide) rfl (Nat.le_of_ble_eq_true rfl) (fun r2 => ?_)
  refine xm_blk0 (pc' := 11) (lv' := [(0, .ref 7), (1, .int a1), (2, .int a2), (3, .ref 20), (4, .int r2)]) (st' := [.int r2, .int a2, .ref 7]) (u' := (xU u)) [(.istore 4, (0, 0, 0), 0, 0), (.aload_n 0, (0, 0, 0), 0, 0), (.iload_n 2, (0, 0, 0), 0, 0), (.iload 4, (0, 0, 0), 0, 0)] (by decide +kernel) rfl ?_
  refine xm_Vi (pc := 11) (mz := md_X0_valueOf_7) (idx := 98) (p1 := 435) (a := 7) (as := [.int a2, .int r2]) (st := []) (ev_X0_valueOf_7 a2 r2 u) mw_X0_valueOf (by decide +kernel) (by decide +kernel) (by decide) rfl rfl (by decide) rfl (Nat.le_of_ble_eq_true rfl) (fun r11 => ?_)
  refine xm_blk (bs := [inb ((2 : Int32) * r2) 8]) (pc' := 20) (lv' := [(0, .ref 7), (1, .int a1), (2, .int a2), (3, .ref 20), (4, .int r2)]) (st' := [.int (u.1 20 (Int32.toNatClampNeg ((2 : Int32) * r2))), .int r11]) (u' := (xU u)) [(.aload_n 3, (0, 0, 0), 0, 0), (.iconst 2, (0, 0, 0), 2, 0), (.iload 4, (0, 0, 0), 0, 0), (.imul, (0, 0, 0), 0, 0), (.iaload, (0, 0, 0), 0, 0)] (by decide +kernel) rfl ?_
  refine xm_icmp_gt (pc := 20) (off := 7) (tgt := 27) (by decide +kernel) (by decide) ?_ ?_
  · refine xm_blk0 (pc' := 28) (lv' := [(0, .ref 7), (1, .int a1), (2, .int a2), (3, .ref 20), (4, .int r2)]) (st' := [.int (0 : Int32)]) (u' := (xU u)) [(.iconst 0, (0, 0, 0), 0, 0)] (by decide +kernel) rfl ?_
    refine xm_wk [] (lv' := []) rfl ?_
    exact go_X0_isSecondLittle_7_20_L28 u (0 : Int32)
  · refine xm_blk0 (pc' := 24) (lv' := [(0, .ref 7), (1, .int a1), (2, .int a2), (3, .ref 20), (4, .int r2)]) (st' := [.int (1 : Int32)]) (u' := (xU u)) [(.iconst 1, (0, 0, 0), 1, 0)] (by decide +kernel) rfl ?_
    refine xm_goto (pc := 24) (off := 4) (tgt := 28) (by decide +kernel) (by decide) ?_
    refine xm_wk [] (lv' := []) rfl ?_
    exact go_X0_isSecondLittle_7_20_L28 u (1 : Int32)
theorem ev_X0_isSecondLittle_7_20 (a1 : Int32) (a2 : Int32) (u : xN) : ∀ r, f_X0_isSecondLittle_7_20 a1 a2 u = some r → xEm md_X0_isSecondLittle_7_20 yX0_isSecondLittle [.ref 7, .int a1, .int a2, .ref 20] (xU u) (some (.int r), (xU u)) := xm_met (res := (rsI (xU u))) (as := [.ref 7, .int a1, .int a2, .ref 20]) (go_X0_isSecondLittle_7_20 a1 a2 u) (by decide) rfl (Nat.le_of_ble_eq_true rfl)
theorem mw_X0_isSecondMuch : xMv yX0_isSecondMuch cX0_isSecondMuch 5 (some .boolean) 3 := xMv_of (p1 := 445) (p2 := 444) (p3 := 95) (p4 := 13) (by decide +kernel)
/-! NeitherBare$Court.isSecondMuch(II[I)Z (7, None, None, 20) -/
abbrev md_X0_isSecondMuch_7_20 : xMd := (cX0_isSecondMuch, RX0, 5, some .boolean, 3)
def f_X0_isSecondMuch_7_20_L30 (u : xN) (t0 : Int32) : Option Int32 := gdl [isb t0] (some t0)
set_option maxRecDepth 20000 in
theorem go_X0_isSecondMuch_7_20_L30 (u : xN) (t0 : Int32) : xGm md_X0_isSecondMuch_7_20 (rsI (xU u)) (f_X0_isSecondMuch_7_20_L30 u t0) 30 [] [.int t0] (xU u) := by
  unfold f_X0_isSecondMuch_7_20_L30
  exact xm_zret (pc := 30) (by decide +kernel) rfl rfl
def f_X0_isSecondMuch_7_20 (a1 : Int32) (a2 : Int32) (u : xN) : Option Int32 := Option.bind (f_X0_secondOf_7 a1 u) (fun r2 => Option.bind (f_X0_valueOf_7 a2 r2 u) (fun r11 => gdl [inb (((2 : Int32) * r2) + (1 : Int32)) 8] (if r11 < (u.1 20 (Int32.toNatClampNeg (((2 : Int32) * r2) + (1 : Int32)))) then f_X0_isSecondMuch_7_20_L30 u (0 : Int32) else f_X0_isSecondMuch_7_20_L30 u (1 : Int32))))
set_option maxRecDepth 20000 in
theorem go_X0_isSecondMuch_7_20 (a1 : Int32) (a2 : Int32) (u : xN) : xGm md_X0_isSecondMuch_7_20 (rsI (xU u)) (f_X0_isSecondMuch_7_20 a1 a2 u) 0 [(0, .ref 7), (1, .int a1), (2, .int a2), (3, .ref 20)] [] (xU u) := by
  unfold f_X0_isSecondMuch_7_20
  refine xm_blk0 (pc' := 2) (lv' := [(0, .ref 7), (1, .int a1), (2, .int a2), (3, .ref 20)]) (st' := [.int a1, .ref 7]) (u' := (xU u)) [(.aload_n 0, (0, 0, 0), 0, 0), (.iload_n 1, (0, 0, 0), 0, 0)] (by decide +kernel) rfl ?_
  refine xm_Vi (pc := 2) (mz := md_X0_secondOf_7) (idx := 108) (p1 := 446) (a := 7) (as := [.int a1]) (st := []) (ev_X0_secondOf_7 a1 u) mw_X0_secondOf (by decide +kernel) (by decide +kernel) (by decide) rfl rfl (by decide) rfl (Nat.le_of_ble_eq_true rfl) (fun r2 => ?_)
  refine xm_blk0 (pc' := 11) (lv' := [(0, .ref 7), (1, .int a1), (2, .int a2), (3, .ref 20), (4, .int r2)]) (st' := [.int r2, .int a2, .ref 7]) (u' := (xU u)) [(.istore 4, (0, 0, 0), 0, 0), (.aload_n 0, (0, 0, 0), 0, 0), (.iload_n 2, (0, 0, 0), 0, 0), (.iload 4, (0, 0, 0), 0, 0)] (by decide +kernel) rfl ?_
  refine xm_Vi (pc := 11) (mz := md_X0_valueOf_7) (idx := 98) (p1 := 435) (a := 7) (as := [.int a2, .int r2]) (st := []) (ev_X0_valueOf_7 a2 r2 u) mw_X0_valueOf (by decide +kernel) (by decide +kernel) (by decide) rfl rfl (by decide) rfl (Nat.le_of_ble_eq_true rfl) (fun r11 => ?_)
  refine xm_blk (bs := [inb (((2 : Int32) * r2) + (1 : Int32)) 8]) (pc' := 22) (lv' := [(0, .ref 7), (1, .int a1), (2, .int a2), (3, .ref 20), (4, .int r2)]) (st' := [.int (u.1 20 (Int32.toNatClampNeg (((2 : Int32) * r2) + (1 : Int32)))), .int r11]) (u' := (xU u)) [(.aload_n 3, (0, 0, 0), 0, 0), (.iconst 2, (0, 0, 0), 2, 0), (.iload 4, (0, 0, 0), 0, 0), (.imul, (0, 0, 0), 0, 0), (.iconst 1, (0, 0, 0), 1, 0), (.iadd, (0, 0, 0), 0, 0), (.iaload, (0, 0, 0), 0, 0)] (by decide +kernel) rfl ?_
  refine xm_icmp_lt (pc := 22) (off := 7) (tgt := 29) (by decide +kernel) (by decide) ?_ ?_
  · refine xm_blk0 (pc' := 30) (lv' := [(0, .ref 7), (1, .int a1), (2, .int a2), (3, .ref 20), (4, .int r2)]) (st' := [.int (0 : Int32)]) (u' := (xU u)) [(.iconst 0, (0, 0, 0), 0, 0)] (by decide +kernel) rfl ?_
    refine xm_wk [] (lv' := []) rfl ?_
    exact go_X0_isSecondMuch_7_20_L30 u (0 : Int32)
  · refine xm_blk0 (pc' := 26) (lv' := [(0, .ref 7), (1, .int a1), (2, .int a2), (3, .ref 20), (4, .int r2)]) (st' := [.int (1 : Int32)]) (u' := (xU u)) [(.iconst 1, (0, 0, 0), 1, 0)] (by decide +kernel) rfl ?_
    refine xm_goto (pc := 26) (off := 4) (tgt := 30) (by decide +kernel) (by decide) ?_
    refine xm_wk [] (lv' := []) rfl ?_
    exact go_X0_isSecondMuch_7_20_L30 u (1 : Int32)
theorem ev_X0_isSecondMuch_7_20 (a1 : Int32) (a2 : Int32) (u : xN) : ∀ r, f_X0_isSecondMuch_7_20 a1 a2 u = some r → xEm md_X0_isSecondMuch_7_20 yX0_isSecondMuch [.ref 7, .int a1, .int a2, .ref 20] (xU u) (some (.int r), (xU u)) := xm_met (res := (rsI (xU u))) (as := [.ref 7, .int a1, .int a2, .ref 20]) (go_X0_isSecondMuch_7_20 a1 a2 u) (by decide) rfl (Nat.le_of_ble_eq_true rfl)
theorem mw_X0_isHeldAs : xMv yX0_isHeldAs cX0_isHeldAs 11 (some .boolean) 4 := xMv_of (p1 := 434) (p2 := 432) (p3 := 95) (p4 := 433) (by decide +kernel)
/-! NeitherBare$Court.isHeldAs(III[I)Z (7, None, None, None, 20) -/
abbrev md_X0_isHeldAs_7_20 : xMd := (cX0_isHeldAs, RX0, 11, some .boolean, 4)
def f_X0_isHeldAs_7_20_L135 (u : xN) (t0 : Int32) : Option Int32 := gdl [isb t0] (some t0)
set_option maxRecDepth 20000 in
theorem go_X0_isHeldAs_7_20_L135 (u : xN) (t0 : Int32) : xGm md_X0_isHeldAs_7_20 (rsI (xU u)) (f_X0_isHeldAs_7_20_L135 u t0) 135 [] [.int t0] (xU u) := by
  unfold f_X0_isHeldAs_7_20_L135
  exact xm_zret (pc := 135) (by decide +kernel) rfl rfl
def f_X0_isHeldAs_7_20_L134 (u : xN) : Option Int32 := f_X0_isHeldAs_7_20_L135 u (0 : Int32)
set_option maxRecDepth 20000 in
theorem go_X0_isHeldAs_7_20_L134 (u : xN) : xGm md_X0_isHeldAs_7_20 (rsI (xU u)) (f_X0_isHeldAs_7_20_L134 u) 134 [] [] (xU u) := by
  unfold f_X0_isHeldAs_7_20_L134
  refine xm_blk0 (pc' := 135) (lv' := []) (st' := [.int (0 : Int32)]) (u' := (xU u)) [(.iconst 0, (0, 0, 0), 0, 0)] (by decide +kernel) rfl ?_
  exact go_X0_isHeldAs_7_20_L135 u (0 : Int32)
def f_X0_isHeldAs_7_20_L146 (u : xN) (t0 : Int32) : Option Int32 := gdl [isb t0] (some t0)
set_option maxRecDepth 20000 in
theorem go_X0_isHeldAs_7_20_L146 (u : xN) (t0 : Int32) : xGm md_X0_isHeldAs_7_20 (rsI (xU u)) (f_X0_isHeldAs_7_20_L146 u t0) 146 [] [.int t0] (xU u) := by
  unfold f_X0_isHeldAs_7_20_L146
  exact xm_zret (pc := 146) (by decide +kernel) rfl rfl
def f_X0_isHeldAs_7_20_L169 (u : xN) (t0 : Int32) : Option Int32 := gdl [isb t0] (some t0)
set_option maxRecDepth 20000 in
theorem go_X0_isHeldAs_7_20_L169 (u : xN) (t0 : Int32) : xGm md_X0_isHeldAs_7_20 (rsI (xU u)) (f_X0_isHeldAs_7_20_L169 u t0) 169 [] [.int t0] (xU u) := by
  unfold f_X0_isHeldAs_7_20_L169
  exact xm_zret (pc := 169) (by decide +kernel) rfl rfl
def f_X0_isHeldAs_7_20_L168 (u : xN) : Option Int32 := f_X0_isHeldAs_7_20_L169 u (0 : Int32)
set_option maxRecDepth 20000 in
theorem go_X0_isHeldAs_7_20_L168 (u : xN) : xGm md_X0_isHeldAs_7_20 (rsI (xU u)) (f_X0_isHeldAs_7_20_L168 u) 168 [] [] (xU u) := by
  unfold f_X0_isHeldAs_7_20_L168
  refine xm_blk0 (pc' := 169) (lv' := []) (st' := [.int (0 : Int32)]) (u' := (xU u)) [(.iconst 0, (0, 0, 0), 0, 0)] (by decide +kernel) rfl ?_
  exact go_X0_isHeldAs_7_20_L169 u (0 : Int32)
def f_X0_isHeldAs_7_20_L191 (u : xN) (t0 : Int32) : Option Int32 := gdl [isb t0] (some t0)
set_option maxRecDepth 20000 in
theorem go_X0_isHeldAs_7_20_L191 (u : xN) (t0 : Int32) : xGm md_X0_isHeldAs_7_20 (rsI (xU u)) (f_X0_isHeldAs_7_20_L191 u t0) 191 [] [.int t0] (xU u) := by
  unfold f_X0_isHeldAs_7_20_L191
  exact xm_zret (pc := 191) (by decide +kernel) rfl rfl
def f_X0_isHeldAs_7_20_L190 (u : xN) : Option Int32 := f_X0_isHeldAs_7_20_L191 u (0 : Int32)
set_option maxRecDepth 20000 in
theorem go_X0_isHeldAs_7_20_L190 (u : xN) : xGm md_X0_isHeldAs_7_20 (rsI (xU u)) (f_X0_isHeldAs_7_20_L190 u) 190 [] [] (xU u) := by
  unfold f_X0_isHeldAs_7_20_L190
  refine xm_blk0 (pc' := 191) (lv' := []) (st' := [.int (0 : Int32)]) (u' := (xU u)) [(.iconst 0, (0, 0, 0), 0, 0)] (by decide +kernel) rfl ?_
  exact go_X0_isHeldAs_7_20_L191 u (0 : Int32)
def f_X0_isHeldAs_7_20_L70 (u : xN) (v1 : Int32) (v2 : Int32) (v3 : Int32) (v6 : Int32) (v7 : Int32) (v8 : Int32) (v9 : Int32) (t0 : Int32) : Option Int32 := if Int32.toInt v1 < 0 ∨ 4 < Int32.toInt v1 then (if v9 = (0 : Int32) then f_X0_isHeldAs_7_20_L190 u else Option.bind (f_X0_isSecondLittle_7_20 v2 v3 u) (fun r180 => if r180 = (0 : Int32) then f_X0_isHeldAs_7_20_L190 u else f_X0_isHeldAs_7_20_L191 u (1 : Int32))) else if v1 = (0 : Int32) then (gdl [isb v9] (some v9)) else if v1 = (1 : Int32) then (gdl [isb t0] (some t0)) else if v1 = (2 : Int32) then (if v9 = (0 : Int32) then f_X0_isHeldAs_7_20_L134 u else Option.bind (f_X0_isSecondMuch_7_20 v2 v3 u) (fun r124 => if r124 = (0 : Int32) then f_X0_isHeldAs_7_20_L134 u else f_X0_isHeldAs_7_20_L135 u (1 : Int32))) else if v1 = (3 : Int32) then (if v9 = (0 : Int32) then f_X0_isHeldAs_7_20_L146 u (1 : Int32) else f_X0_isHeldAs_7_20_L146 u (0 : Int32)) else if v1 = (4 : Int32) then (if t0 = (0 : Int32) then f_X0_isHeldAs_7_20_L168 u else gdl [nzi (2 : Int32)] (if v6 = ((v7 + v8) / (2 : Int32)) then f_X0_isHeldAs_7_20_L169 u (1 : Int32) else f_X0_isHeldAs_7_20_L168 u)) else none
set_option maxRecDepth 20000 in
theorem go_X0_isHeldAs_7_20_L70 (u : xN) (v1 : Int32) (v2 : Int32) (v3 : Int32) (v6 : Int32) (v7 : Int32) (v8 : Int32) (v9 : Int32) (t0 : Int32) : xGm md_X0_isHeldAs_7_20 (rsI (xU u)) (f_X0_isHeldAs_7_20_L70 u v1 v2 v3 v6 v7 v8 v9 t0) 70 [(0, .ref 7), (1, .int v1), (2, .int v2), (3, .int v3), (4, .ref 20), (6, .int v6), (7, .int v7), (8, .int v8), (9, .int v9)] [.int t0] (xU u) := by
  unfold f_X0_isHeldAs_7_20_L70
  refine xm_blk0 (pc' := 73) (lv' := [(0, .ref 7), (1, .int v1), (2, .int v2), (3, .int v3), (4, .ref 20), (6, .int v6), (7, .int v7), (8, .int v8), (9, .int v9), (10, .int t0)]) (st' := [.int v1]) (u' := (xU u)) [(.istore 10, (0, 0, 0), 0, 0), (.iload_n 1, (0, 0, 0), 0, 0)] (by decide +kernel) rfl ?_
  refine xm_tout (pc := 73) (tgt := 170) (dflt := 97) (lo := 0) (hi := 4) (offs := #[35, 38, 41, 63, 74]) (len := 35) (by decide +kernel) (by decide) ?_ ?_
  · refine xm_blk0 (pc' := 172) (lv' := [(0, .ref 7), (1, .int v1), (2, .int v2), (3, .int v3), (4, .ref 20), (6, .int v6), (7, .int v7), (8, .int v8), (9, .int v9), (10, .int t0)]) (st' := [.int v9]) (u' := (xU u)) [(.iload 9, (0, 0, 0), 0, 0)] (by decide +kernel) rfl ?_
    refine xm_if_eq (pc := 172) (off := 18) (tgt := 190) (by decide +kernel) (by decide) ?_ ?_
    · refine xm_wk [] (lv' := []) rfl ?_
      exact go_X0_isHeldAs_7_20_L190 u
    · refine xm_blk0 (pc' := 180) (lv' := [(0, .ref 7), (1, .int v1), (2, .int v2), (3, .int v3), (4, .ref 20), (6, .int v6), (7, .int v7), (8, .int v8), (9, .int v9), (10, .int t0)]) (st' := [.ref 20, .int v3, .int v2, .ref 7]) (u' := (xU u)) [(.aload_n 0, (0, 0, 0), 0, 0), (.iload_n 2, (0, 0, 0), 0, 0), (.iload_n 3, (0, 0, 0), 0, 0), (.aload 4, (0, 0, 0), 0, 0)] (by decide +kernel) rfl ?_
      refine xm_Vi (pc := 180) (mz := md_X0_isSecondLittle_7_20) (idx := 105) (p1 := 450) (a := 7) (as := [.int v2, .int v3, .ref 20]) (st := []) (ev_X0_isSecondLittle_7_20 v2 v3 u) mw_X0_isSecondLittle (by decide +kernel) (by decide +kernel) (by decide) rfl rfl (by decide) rfl (Nat.le_of_ble_eq_true rfl) (fun r180 => ?_)
      refine xm_if_eq (pc := 183) (off := 7) (tgt := 190) (by decide +kernel) (by decide) ?_ ?_
      · refine xm_wk [] (lv' := []) rfl ?_
        exact go_X0_isHeldAs_7_20_L190 u
      · refine xm_blk0 (pc' := 187) (lv' := [(0, .ref 7), (1, .int v1), (2, .int v2), (3, .int v3), (4, .ref 20), (6, .int v6), (7, .int v7), (8, .int v8), (9, .int v9), (10, .int t0)]) (st' := [.int (1 : Int32)]) (u' := (xU u)) [(.iconst 1, (0, 0, 0), 1, 0)] (by decide +kernel) rfl ?_
        refine xm_goto (pc := 187) (off := 4) (tgt := 191) (by decide +kernel) (by decide) ?_
        refine xm_wk [] (lv' := []) rfl ?_
        exact go_X0_isHeldAs_7_20_L191 u (1 : Int32)
  · refine xm_tin (pc := 73) (tgt := 108) (off := 35) (dflt := 97) (lo := 0) (hi := 4) (offs := #[35, 38, 41, 63, 74]) (len := 35) (0 : Int32) (by decide +kernel) (by decide) (by decide) (by decide) (by decide) ?_ ?_
    · refine xm_blk0 (pc' := 110) (lv' := [(0, .ref 7), (1, .int v1), (2, .int v2), (3, .int v3), (4, .ref 20), (6, .int v6), (7, .int v7), (8, .int v8), (9, .int v9), (10, .int t0)]) (st' := [.int v9]) (u' := (xU u)) [(.iload 9, (0, 0, 0), 0, 0)] (by decide +kernel) rfl ?_
      exact xm_zret (pc := 110) (by decide +kernel) rfl rfl
    refine xm_tin (pc := 73) (tgt := 111) (off := 38) (dflt := 97) (lo := 0) (hi := 4) (offs := #[35, 38, 41, 63, 74]) (len := 35) (1 : Int32) (by decide +kernel) (by decide) (by decide) (by decide) (by decide) ?_ ?_
    · refine xm_blk0 (pc' := 113) (lv' := [(0, .ref 7), (1, .int v1), (2, .int v2), (3, .int v3), (4, .ref 20), (6, .int v6), (7, .int v7), (8, .int v8), (9, .int v9), (10, .int t0)]) (st' := [.int t0]) (u' := (xU u)) [(.iload 10, (0, 0, 0), 0, 0)] (by decide +kernel) rfl ?_
      exact xm_zret (pc := 113) (by decide +kernel) rfl rfl
    refine xm_tin (pc := 73) (tgt := 114) (off := 41) (dflt := 97) (lo := 0) (hi := 4) (offs := #[35, 38, 41, 63, 74]) (len := 35) (2 : Int32) (by decide +kernel) (by decide) (by decide) (by decide) (by decide) ?_ ?_
    · refine xm_blk0 (pc' := 116) (lv' := [(0, .ref 7), (1, .int v1), (2, .int v2), (3, .int v3), (4, .ref 20), (6, .int v6), (7, .int v7), (8, .int v8), (9, .int v9), (10, .int t0)]) (st' := [.int v9]) (u' := (xU u)) [(.iload 9, (0, 0, 0), 0, 0)] (by decide +kernel) rfl ?_
      refine xm_if_eq (pc := 116) (off := 18) (tgt := 134) (by decide +kernel) (by decide) ?_ ?_
      · refine xm_wk [] (lv' := []) rfl ?_
        exact go_X0_isHeldAs_7_20_L134 u
      · refine xm_blk0 (pc' := 124) (lv' := [(0, .ref 7), (1, .int v1), (2, .int v2), (3, .int v3), (4, .ref 20), (6, .int v6), (7, .int v7), (8, .int v8), (9, .int v9), (10, .int t0)]) (st' := [.ref 20, .int v3, .int v2, .ref 7]) (u' := (xU u)) [(.aload_n 0, (0, 0, 0), 0, 0), (.iload_n 2, (0, 0, 0), 0, 0), (.iload_n 3, (0, 0, 0), 0, 0), (.aload 4, (0, 0, 0), 0, 0)] (by decide +kernel) rfl ?_
        refine xm_Vi (pc := 124) (mz := md_X0_isSecondMuch_7_20) (idx := 101) (p1 := 442) (a := 7) (as := [.int v2, .int v3, .ref 20]) (st := []) (ev_X0_isSecondMuch_7_20 v2 v3 u) mw_X0_isSecondMuch (by decide +kernel) (by decide +kernel) (by decide) rfl rfl (by decide) rfl (Nat.le_of_ble_eq_true rfl) (fun r124 => ?_)
        refine xm_if_eq (pc := 127) (off := 7) (tgt := 134) (by decide +kernel) (by decide) ?_ ?_
        · refine xm_wk [] (lv' := []) rfl ?_
          exact go_X0_isHeldAs_7_20_L134 u
        · refine xm_blk0 (pc' := 131) (lv' := [(0, .ref 7), (1, .int v1), (2, .int v2), (3, .int v3), (4, .ref 20), (6, .int v6), (7, .int v7), (8, .int v8), (9, .int v9), (10, .int t0)]) (st' := [.int (1 : Int32)]) (u' := (xU u)) [(.iconst 1, (0, 0, 0), 1, 0)] (by decide +kernel) rfl ?_
          refine xm_goto (pc := 131) (off := 4) (tgt := 135) (by decide +kernel) (by decide) ?_
          refine xm_wk [] (lv' := []) rfl ?_
          exact go_X0_isHeldAs_7_20_L135 u (1 : Int32)
    refine xm_tin (pc := 73) (tgt := 136) (off := 63) (dflt := 97) (lo := 0) (hi := 4) (offs := #[35, 38, 41, 63, 74]) (len := 35) (3 : Int32) (by decide +kernel) (by decide) (by decide) (by decide) (by decide) ?_ ?_
    · refine xm_blk0 (pc' := 138) (lv' := [(0, .ref 7), (1, .int v1), (2, .int v2), (3, .int v3), (4, .ref 20), (6, .int v6), (7, .int v7), (8, .int v8), (9, .int v9), (10, .int t0)]) (st' := [.int v9]) (u' := (xU u)) [(.iload 9, (0, 0, 0), 0, 0)] (by decide +kernel) rfl ?_
      refine xm_if_ne (pc := 138) (off := 7) (tgt := 145) (by decide +kernel) (by decide) ?_ ?_
      · refine xm_blk0 (pc' := 146) (lv' := [(0, .ref 7), (1, .int v1), (2, .int v2), (3, .int v3), (4, .ref 20), (6, .int v6), (7, .int v7), (8, .int v8), (9, .int v9), (10, .int t0)]) (st' := [.int (0 : Int32)]) (u' := (xU u)) [(.iconst 0, (0, 0, 0), 0, 0)] (by decide +kernel) rfl ?_
        refine xm_wk [] (lv' := []) rfl ?_
        exact go_X0_isHeldAs_7_20_L146 u (0 : Int32)
      · refine xm_blk0 (pc' := 142) (lv' := [(0, .ref 7), (1, .int v1), (2, .int v2), (3, .int v3), (4, .ref 20), (6, .int v6), (7, .int v7), (8, .int v8), (9, .int v9), (10, .int t0)]) (st' := [.int (1 : Int32)]) (u' := (xU u)) [(.iconst 1, (0, 0, 0), 1, 0)] (by decide +kernel) rfl ?_
        refine xm_goto (pc := 142) (off := 4) (tgt := 146) (by decide +kernel) (by decide) ?_
        refine xm_wk [] (lv' := []) rfl ?_
        exact go_X0_isHeldAs_7_20_L146 u (1 : Int32)
    refine xm_tin (pc := 73) (tgt := 147) (off := 74) (dflt := 97) (lo := 0) (hi := 4) (offs := #[35, 38, 41, 63, 74]) (len := 35) (4 : Int32) (by decide +kernel) (by decide) (by decide) (by decide) (by decide) ?_ ?_
    · refine xm_blk0 (pc' := 149) (lv' := [(0, .ref 7), (1, .int v1), (2, .int v2), (3, .int v3), (4, .ref 20), (6, .int v6), (7, .int v7), (8, .int v8), (9, .int v9), (10, .int t0)]) (st' := [.int t0]) (u' := (xU u)) [(.iload 10, (0, 0, 0), 0, 0)] (by decide +kernel) rfl ?_
      refine xm_if_eq (pc := 149) (off := 19) (tgt := 168) (by decide +kernel) (by decide) ?_ ?_
      · refine xm_wk [] (lv' := []) rfl ?_
        exact go_X0_isHeldAs_7_20_L168 u
      · refine xm_blk (bs := [nzi (2 : Int32)]) (pc' := 161) (lv' := [(0, .ref 7), (1, .int v1), (2, .int v2), (3, .int v3), (4, .ref 20), (6, .int v6), (7, .int v7), (8, .int v8), (9, .int v9), (10, .int t0)]) (st' := [.int ((v7 + v8) / (2 : Int32)), .int v6]) (u' := (xU u)) [(.iload 6, (0, 0, 0), 0, 0), (.iload 7, (0, 0, 0), 0, 0), (.iload 8, (0, 0, 0), 0, 0), (.iadd, (0, 0, 0), 0, 0), (.iconst 2, (0, 0, 0), 2, 0), (.idiv, (0, 0, 0), 0, 0)] (by decide +kernel) rfl ?_
        refine xm_icmp_ne (pc := 161) (off := 7) (tgt := 168) (by decide +kernel) (by decide) ?_ ?_
        · refine xm_wk [] (lv' := []) rfl ?_
          exact go_X0_isHeldAs_7_20_L168 u
        · refine xm_blk0 (pc' := 165) (lv' := [(0, .ref 7), (1, .int v1), (2, .int v2), (3, .int v3), (4, .ref 20), (6, .int v6), (7, .int v7), (8, .int v8), (9, .int v9), (10, .int t0)]) (st' := [.int (1 : Int32)]) (u' := (xU u)) [(.iconst 1, (0, 0, 0), 1, 0)] (by decide +kernel) rfl ?_
          refine xm_goto (pc := 165) (off := 4) (tgt := 169) (by decide +kernel) (by decide) ?_
          refine xm_wk [] (lv' := []) rfl ?_
          exact go_X0_isHeldAs_7_20_L169 u (1 : Int32)
    exact xm_none
def f_X0_isHeldAs_7_20_L69 (u : xN) (v1 : Int32) (v2 : Int32) (v3 : Int32) (v6 : Int32) (v7 : Int32) (v8 : Int32) (v9 : Int32) : Option Int32 := f_X0_isHeldAs_7_20_L70 u v1 v2 v3 v6 v7 v8 v9 (0 : Int32)
set_option maxRecDepth 20000 in
theorem go_X0_isHeldAs_7_20_L69 (u : xN) (v1 : Int32) (v2 : Int32) (v3 : Int32) (v6 : Int32) (v7 : Int32) (v8 : Int32) (v9 : Int32) : xGm md_X0_isHeldAs_7_20 (rsI (xU u)) (f_X0_isHeldAs_7_20_L69 u v1 v2 v3 v6 v7 v8 v9) 69 [(0, .ref 7), (1, .int v1), (2, .int v2), (3, .int v3), (4, .ref 20), (6, .int v6), (7, .int v7), (8, .int v8), (9, .int v9)] [] (xU u) := by
  unfold f_X0_isHeldAs_7_20_L69
  refine xm_blk0 (pc' := 70) (lv' := [(0, .ref 7), (1, .int v1), (2, .int v2), (3, .int v3), (4, .ref 20), (6, .int v6), (7, .int v7), (8, .int v8), (9, .int v9)]) (st' := [.int (0 : Int32)]) (u' := (xU u)) [(.iconst 0, (0, 0, 0), 0, 0)] (by decide +kernel) rfl ?_
  exact go_X0_isHeldAs_7_20_L70 u v1 v2 v3 v6 v7 v8 v9 (0 : Int32)
def f_X0_isHeldAs_7_20_L49 (u : xN) (v1 : Int32) (v2 : Int32) (v3 : Int32) (v6 : Int32) (v7 : Int32) (v8 : Int32) (t0 : Int32) : Option Int32 := if v6 ≤ v7 then f_X0_isHeldAs_7_20_L69 u v1 v2 v3 v6 v7 v8 t0 else if v8 ≤ v6 then f_X0_isHeldAs_7_20_L69 u v1 v2 v3 v6 v7 v8 t0 else f_X0_isHeldAs_7_20_L70 u v1 v2 v3 v6 v7 v8 t0 (1 : Int32)
set_option maxRecDepth 20000 in
theorem go_X0_isHeldAs_7_20_L49 (u : xN) (v1 : Int32) (v2 : Int32) (v3 : Int32) (v6 : Int32) (v7 : Int32) (v8 : Int32) (t0 : Int32) : xGm md_X0_isHeldAs_7_20 (rsI (xU u)) (f_X0_isHeldAs_7_20_L49 u v1 v2 v3 v6 v7 v8 t0) 49 [(0, .ref 7), (1, .int v1), (2, .int v2), (3, .int v3), (4, .ref 20), (6, .int v6), (7, .int v7), (8, .int v8)] [.int t0] (xU u) := by
  unfold f_X0_isHeldAs_7_20_L49
  refine xm_blk0 (pc' := 55) (lv' := [(0, .ref 7), (1, .int v1), (2, .int v2), (3, .int v3), (4, .ref 20), (6, .int v6), (7, .int v7), (8, .int v8), (9, .int t0)]) (st' := [.int v7, .int v6]) (u' := (xU u)) [(.istore 9, (0, 0, 0), 0, 0), (.iload 6, (0, 0, 0), 0, 0), (.iload 7, (0, 0, 0), 0, 0)] (by decide +kernel) rfl ?_
  refine xm_icmp_le (pc := 55) (off := 14) (tgt := 69) (by decide +kernel) (by decide) ?_ ?_
  · exact go_X0_isHeldAs_7_20_L69 u v1 v2 v3 v6 v7 v8 t0
  · refine xm_blk0 (pc' := 62) (lv' := [(0, .ref 7), (1, .int v1), (2, .int v2), (3, .int v3), (4, .ref 20), (6, .int v6), (7, .int v7), (8, .int v8), (9, .int t0)]) (st' := [.int v8, .int v6]) (u' := (xU u)) [(.iload 6, (0, 0, 0), 0, 0), (.iload 8, (0, 0, 0), 0, 0)] (by decide +kernel) rfl ?_
    refine xm_icmp_ge (pc := 62) (off := 7) (tgt := 69) (by decide +kernel) (by decide) ?_ ?_
    · exact go_X0_isHeldAs_7_20_L69 u v1 v2 v3 v6 v7 v8 t0
    · refine xm_blk0 (pc' := 66) (lv' := [(0, .ref 7), (1, .int v1), (2, .int v2), (3, .int v3), (4, .ref 20), (6, .int v6), (7, .int v7), (8, .int v8), (9, .int t0)]) (st' := [.int (1 : Int32)]) (u' := (xU u)) [(.iconst 1, (0, 0, 0), 1, 0)] (by decide +kernel) rfl ?_
      refine xm_goto (pc := 66) (off := 4) (tgt := 70) (by decide +kernel) (by decide) ?_
      exact go_X0_isHeldAs_7_20_L70 u v1 v2 v3 v6 v7 v8 t0 (1 : Int32)
def f_X0_isHeldAs_7_20 (a1 : Int32) (a2 : Int32) (a3 : Int32) (u : xN) : Option Int32 := gdl [inb a2 8] (Option.bind (f_X0_valueOf_7 a3 (u.1 11 (Int32.toNatClampNeg a2)) u) (fun r12 => gdl [inb ((2 : Int32) * (u.1 11 (Int32.toNatClampNeg a2))) 8, inb (((2 : Int32) * (u.1 11 (Int32.toNatClampNeg a2))) + (1 : Int32)) 8] (if r12 < (u.1 20 (Int32.toNatClampNeg (((2 : Int32) * (u.1 11 (Int32.toNatClampNeg a2))) + (1 : Int32)))) then f_X0_isHeldAs_7_20_L49 u a1 a2 a3 r12 (u.1 20 (Int32.toNatClampNeg ((2 : Int32) * (u.1 11 (Int32.toNatClampNeg a2))))) (u.1 20 (Int32.toNatClampNeg (((2 : Int32) * (u.1 11 (Int32.toNatClampNeg a2))) + (1 : Int32)))) (0 : Int32) else f_X0_isHeldAs_7_20_L49 u a1 a2 a3 r12 (u.1 20 (Int32.toNatClampNeg ((2 : Int32) * (u.1 11 (Int32.toNatClampNeg a2))))) (u.1 20 (Int32.toNatClampNeg (((2 : Int32) * (u.1 11 (Int32.toNatClampNeg a2))) + (1 : Int32)))) (1 : Int32))))
set_option maxRecDepth 20000 in
theorem go_X0_isHeldAs_7_20 (a1 : Int32) (a2 : Int32) (a3 : Int32) (u : xN) : xGm md_X0_isHeldAs_7_20 (rsI (xU u)) (f_X0_isHeldAs_7_20 a1 a2 a3 u) 0 [(0, .ref 7), (1, .int a1), (2, .int a2), (3, .int a3), (4, .ref 20)] [] (xU u) := by
  unfold f_X0_isHeldAs_7_20
  refine xm_blk (bs := [inb a2 8]) (pc' := 12) (lv' := [(0, .ref 7), (1, .int a1), (2, .int a2), (3, .int a3), (4, .ref 20), (5, .int (u.1 11 (Int32.toNatClampNeg a2)))]) (st' := [.int (u.1 11 (Int32.toNatClampNeg a2)), .int a3, .ref 7]) (u' := (xU u)) [(.aload_n 0, (0, 0, 0), 0, 0), (.getfield 21, (0, 6, 152), 0, 0), (.iload_n 2, (0, 0, 0), 0, 0), (.iaload, (0, 0, 0), 0, 0), (.istore 5, (0, 0, 0), 0, 0), (.aload_n 0, (0, 0, 0), 0, 0), (.iload_n 3, (0, 0, 0), 0, 0), (.iload 5, (0, 0, 0), 0, 0)] (by decide +kernel) rfl ?_
  refine xm_Vi (pc := 12) (mz := md_X0_valueOf_7) (idx := 98) (p1 := 435) (a := 7) (as := [.int a3, .int (u.1 11 (Int32.toNatClampNeg a2))]) (st := []) (ev_X0_valueOf_7 a3 (u.1 11 (Int32.toNatClampNeg a2)) u) mw_X0_valueOf (by decide +kernel) (by decide +kernel) (by decide) rfl rfl (by decide) rfl (Nat.le_of_ble_eq_true rfl) (fun r12 => ?_)
  refine xm_blk (bs := [inb ((2 : Int32) * (u.1 11 (Int32.toNatClampNeg a2))) 8, inb (((2 : Int32) * (u.1 11 (Int32.toNatClampNeg a2))) + (1 : Int32)) 8]) (pc' := 41) (lv' := [(0, .ref 7), (1, .int a1), (2, .int a2), (3, .int a3), (4, .ref 20), (5, .int (u.1 11 (Int32.toNatClampNeg a2))), (6, .int r12), (7, .int (u.1 20 (Int32.toNatClampNeg ((2 : Int32) * (u.1 11 (Int32.toNatClampNeg a2)))))), (8, .int (u.1 20 (Int32.toNatClampNeg (((2 : Int32) * (u.1 11 (Int32.toNatClampNeg a2))) + (1 : Int32)))))]) (st' := [.int (u.1 20 (Int32.toNatClampNeg (((2 : Int32) * (u.1 11 (Int32.toNatClampNeg a2))) + (1 : Int32)))), .int r12]) (u' := (xU u)) [(.istore 6, (0, 0, 0), 0, 0), (.aload 4, (0, 0, 0), 0, 0), (.iconst 2, (0, 0, 0), 2, 0), (.iload 5, (0, 0, 0), 0, 0), (.imul, (0, 0, 0), 0, 0), (.iaload, (0, 0, 0), 0, 0), (.istore 7, (0, 0, 0), 0, 0), (.aload 4, (0, 0, 0), 0, 0), (.iconst 2, (0, 0, 0), 2, 0), (.iload 5, (0, 0, 0), 0, 0), (.imul, (0, 0, 0), 0, 0), (.iconst 1, (0, 0, 0), 1, 0), (.iadd, (0, 0, 0), 0, 0), (.iaload, (0, 0, 0), 0, 0), (.istore 8, (0, 0, 0), 0, 0), (.iload 6, (0, 0, 0), 0, 0), (.iload 8, (0, 0, 0), 0, 0)] (by decide +kernel) rfl ?_
  refine xm_icmp_lt (pc := 41) (off := 7) (tgt := 48) (by decide +kernel) (by decide) ?_ ?_
  · refine xm_blk0 (pc' := 49) (lv' := [(0, .ref 7), (1, .int a1), (2, .int a2), (3, .int a3), (4, .ref 20), (5, .int (u.1 11 (Int32.toNatClampNeg a2))), (6, .int r12), (7, .int (u.1 20 (Int32.toNatClampNeg ((2 : Int32) * (u.1 11 (Int32.toNatClampNeg a2)))))), (8, .int (u.1 20 (Int32.toNatClampNeg (((2 : Int32) * (u.1 11 (Int32.toNatClampNeg a2))) + (1 : Int32)))))]) (st' := [.int (0 : Int32)]) (u' := (xU u)) [(.iconst 0, (0, 0, 0), 0, 0)] (by decide +kernel) rfl ?_
    refine xm_wk [0, 1, 2, 3, 4, 6, 7, 8] (lv' := [(0, .ref 7), (1, .int a1), (2, .int a2), (3, .int a3), (4, .ref 20), (6, .int r12), (7, .int (u.1 20 (Int32.toNatClampNeg ((2 : Int32) * (u.1 11 (Int32.toNatClampNeg a2)))))), (8, .int (u.1 20 (Int32.toNatClampNeg (((2 : Int32) * (u.1 11 (Int32.toNatClampNeg a2))) + (1 : Int32)))))]) rfl ?_
    exact go_X0_isHeldAs_7_20_L49 u a1 a2 a3 r12 (u.1 20 (Int32.toNatClampNeg ((2 : Int32) * (u.1 11 (Int32.toNatClampNeg a2))))) (u.1 20 (Int32.toNatClampNeg (((2 : Int32) * (u.1 11 (Int32.toNatClampNeg a2))) + (1 : Int32)))) (0 : Int32)
  · refine xm_blk0 (pc' := 45) (lv' := [(0, .ref 7), (1, .int a1), (2, .int a2), (3, .int a3), (4, .ref 20), (5, .int (u.1 11 (Int32.toNatClampNeg a2))), (6, .int r12), (7, .int (u.1 20 (Int32.toNatClampNeg ((2 : Int32) * (u.1 11 (Int32.toNatClampNeg a2)))))), (8, .int (u.1 20 (Int32.toNatClampNeg (((2 : Int32) * (u.1 11 (Int32.toNatClampNeg a2))) + (1 : Int32)))))]) (st' := [.int (1 : Int32)]) (u' := (xU u)) [(.iconst 1, (0, 0, 0), 1, 0)] (by decide +kernel) rfl ?_
    refine xm_goto (pc := 45) (off := 4) (tgt := 49) (by decide +kernel) (by decide) ?_
    refine xm_wk [0, 1, 2, 3, 4, 6, 7, 8] (lv' := [(0, .ref 7), (1, .int a1), (2, .int a2), (3, .int a3), (4, .ref 20), (6, .int r12), (7, .int (u.1 20 (Int32.toNatClampNeg ((2 : Int32) * (u.1 11 (Int32.toNatClampNeg a2)))))), (8, .int (u.1 20 (Int32.toNatClampNeg (((2 : Int32) * (u.1 11 (Int32.toNatClampNeg a2))) + (1 : Int32)))))]) rfl ?_
    exact go_X0_isHeldAs_7_20_L49 u a1 a2 a3 r12 (u.1 20 (Int32.toNatClampNeg ((2 : Int32) * (u.1 11 (Int32.toNatClampNeg a2))))) (u.1 20 (Int32.toNatClampNeg (((2 : Int32) * (u.1 11 (Int32.toNatClampNeg a2))) + (1 : Int32)))) (1 : Int32)
theorem ev_X0_isHeldAs_7_20 (a1 : Int32) (a2 : Int32) (a3 : Int32) (u : xN) : ∀ r, f_X0_isHeldAs_7_20 a1 a2 a3 u = some r → xEm md_X0_isHeldAs_7_20 yX0_isHeldAs [.ref 7, .int a1, .int a2, .int a3, .ref 20] (xU u) (some (.int r), (xU u)) := xm_met (res := (rsI (xU u))) (as := [.ref 7, .int a1, .int a2, .int a3, .ref 20]) (go_X0_isHeldAs_7_20 a1 a2 a3 u) (by decide) rfl (Nat.le_of_ble_eq_true rfl)
theorem mw_X3_waysHeld : xMv yX3_waysHeld cX3_waysHeld 5 (some .int) 2 := xMv_of (p1 := 429) (p2 := 428) (p3 := 92) (p4 := 12) (by decide +kernel)
/-! NeitherBare.waysHeld(II)I (0, None, None) -/
abbrev md_X3_waysHeld : xMd := (cX3_waysHeld, RX3, 5, some .int, 5)
def f_X3_waysHeld_L41 (N : Nat) (u : xN) (rec5 : Int32 → Int32 → Int32 → Int32 → Option Int32) (v1 : Int32) (v2 : Int32) (v3 : Int32) (v4 : Int32) : Option Int32 := rec5 v1 v2 v3 (v4 + (1 : Int32))
set_option maxRecDepth 20000 in
theorem go_X3_waysHeld_L41 (N : Nat) (u : xN) (rec5 : Int32 → Int32 → Int32 → Int32 → Option Int32) (h5 : ∀ (v1 : Int32) (v2 : Int32) (v3 : Int32) (v4 : Int32), xGm md_X3_waysHeld (rsI (xU u)) (rec5 v1 v2 v3 v4) 5 [(0, .ref 0), (1, .int v1), (2, .int v2), (3, .int v3), (4, .int v4)] [] (xU u)) (v1 : Int32) (v2 : Int32) (v3 : Int32) (v4 : Int32) : xGm md_X3_waysHeld (rsI (xU u)) (f_X3_waysHeld_L41 N u rec5 v1 v2 v3 v4) 41 [(0, .ref 0), (1, .int v1), (2, .int v2), (3, .int v3), (4, .int v4)] [] (xU u) := by
  unfold f_X3_waysHeld_L41
  refine xm_blk0 (pc' := 44) (lv' := [(0, .ref 0), (1, .int v1), (2, .int v2), (3, .int v3), (4, .int (v4 + (1 : Int32)))]) (st' := []) (u' := (xU u)) [(.iinc 4 1, (0, 0, 0), 1, 0)] (by decide +kernel) rfl ?_
  refine xm_goto (pc := 44) (off := -39) (tgt := 5) (by decide +kernel) (by decide) ?_
  exact h5 v1 v2 v3 (v4 + (1 : Int32))
def f_X3_waysHeld_L5b (N : Nat) (u : xN) (rec5 : Int32 → Int32 → Int32 → Int32 → Option Int32) (v1 : Int32) (v2 : Int32) (v3 : Int32) (v4 : Int32) : Option Int32 := Option.bind (f_X0_ways_7 u) (fun r11 => if r11 ≤ v4 then some v3 else Option.bind (f_X0_isHeldAs_7_20 v2 v1 v4 u) (fun r32 => if r32 = (0 : Int32) then f_X3_waysHeld_L41 N u rec5 v1 v2 v3 v4 else f_X3_waysHeld_L41 N u rec5 v1 v2 (v3 + (1 : Int32)) v4))
set_option maxRecDepth 20000 in
theorem go_X3_waysHeld_L5b (N : Nat) (u : xN) (rec5 : Int32 → Int32 → Int32 → Int32 → Option Int32) (h5 : ∀ (v1 : Int32) (v2 : Int32) (v3 : Int32) (v4 : Int32), xGm md_X3_waysHeld (rsI (xU u)) (rec5 v1 v2 v3 v4) 5 [(0, .ref 0), (1, .int v1), (2, .int v2), (3, .int v3), (4, .int v4)] [] (xU u)) (v1 : Int32) (v2 : Int32) (v3 : Int32) (v4 : Int32) : xGm md_X3_waysHeld (rsI (xU u)) (f_X3_waysHeld_L5b N u rec5 v1 v2 v3 v4) 5 [(0, .ref 0), (1, .int v1), (2, .int v2), (3, .int v3), (4, .int v4)] [] (xU u) := by
  unfold f_X3_waysHeld_L5b
  refine xm_blk0 (pc' := 11) (lv' := [(0, .ref 0), (1, .int v1), (2, .int v2), (3, .int v3), (4, .int v4)]) (st' := [.ref 7, .int v4]) (u' := (xU u)) [(.iload 4, (0, 0, 0), 0, 0), (.aload_n 0, (0, 0, 0), 0, 0), (.getfield 24, (3, 2, 208), 0, 0)] (by decide +kernel) rfl ?_
  refine xm_Vi (pc := 11) (mz := md_X0_ways_7) (idx := 231) (p1 := 430) (a := 7) (as := []) (st := [.int v4]) (ev_X0_ways_7 u) mw_X0_ways (by decide +kernel) (by decide +kernel) (by decide) rfl rfl (by decide) rfl (Nat.le_of_ble_eq_true rfl) (fun r11 => ?_)
  refine xm_icmp_ge (pc := 14) (off := 33) (tgt := 47) (by decide +kernel) (by decide) ?_ ?_
  · refine xm_blk0 (pc' := 48) (lv' := [(0, .ref 0), (1, .int v1), (2, .int v2), (3, .int v3), (4, .int v4)]) (st' := [.int v3]) (u' := (xU u)) [(.iload_n 3, (0, 0, 0), 0, 0)] (by decide +kernel) rfl ?_
    exact xm_iret (pc := 48) (by decide +kernel) rfl rfl
  · refine xm_blk0 (pc' := 32) (lv' := [(0, .ref 0), (1, .int v1), (2, .int v2), (3, .int v3), (4, .int v4)]) (st' := [.ref 20, .int v4, .int v1, .int v2, .ref 7]) (u' := (xU u)) [(.aload_n 0, (0, 0, 0), 0, 0), (.getfield 24, (3, 2, 208), 0, 0), (.iload_n 2, (0, 0, 0), 0, 0), (.iload_n 1, (0, 0, 0), 0, 0), (.iload 4, (0, 0, 0), 0, 0), (.aload_n 0, (0, 0, 0), 0, 0), (.getfield 34, (3, 4, 210), 0, 0), (.getfield 170, (2, 3, 185), 0, 0)] (by decide +kernel) rfl ?_
    refine xm_Vi (pc := 32) (mz := md_X0_isHeldAs_7_20) (idx := 335) (p1 := 431) (a := 7) (as := [.int v2, .int v1, .int v4, .ref 20]) (st := []) (ev_X0_isHeldAs_7_20 v2 v1 v4 u) mw_X0_isHeldAs (by decide +kernel) (by decide +kernel) (by decide) rfl rfl (by decide) rfl (Nat.le_of_ble_eq_true rfl) (fun r32 => ?_)
    refine xm_if_eq (pc := 35) (off := 6) (tgt := 41) (by decide +kernel) (by decide) ?_ ?_
    · exact go_X3_waysHeld_L41 N u rec5 h5 v1 v2 v3 v4
    · refine xm_blk0 (pc' := 41) (lv' := [(0, .ref 0), (1, .int v1), (2, .int v2), (3, .int (v3 + (1 : Int32))), (4, .int v4)]) (st' := []) (u' := (xU u)) [(.iinc 3 1, (0, 0, 0), 1, 0)] (by decide +kernel) rfl ?_
      exact go_X3_waysHeld_L41 N u rec5 h5 v1 v2 (v3 + (1 : Int32)) v4
def f_X3_waysHeld_L5 (N : Nat) (u : xN) : Nat → Int32 → Int32 → Int32 → Int32 → Option Int32
  | 0 => fun _ _ _ _ => none
  | n + 1 => fun v1 v2 v3 v4 => f_X3_waysHeld_L5b N u (f_X3_waysHeld_L5 N u n) v1 v2 v3 v4
theorem go_X3_waysHeld_L5 (N : Nat) (u : xN) : ∀ (n : Nat) (v1 : Int32) (v2 : Int32) (v3 : Int32) (v4 : Int32), xGm md_X3_waysHeld (rsI (xU u)) (f_X3_waysHeld_L5 N u n v1 v2 v3 v4) 5 [(0, .ref 0), (1, .int v1), (2, .int v2), (3, .int v3), (4, .int v4)] [] (xU u) := by
  intro n
  induction n with
  | zero => intro v1 v2 v3 v4; exact xm_none
  | succ n ih => intro v1 v2 v3 v4; exact go_X3_waysHeld_L5b N u _ ih v1 v2 v3 v4
def f_X3_waysHeld (N : Nat) (a1 : Int32) (a2 : Int32) (u : xN) : Option Int32 := f_X3_waysHeld_L5 N u N a1 a2 (0 : Int32) (0 : Int32)
set_option maxRecDepth 20000 in
theorem go_X3_waysHeld (N : Nat) (a1 : Int32) (a2 : Int32) (u : xN) : xGm md_X3_waysHeld (rsI (xU u)) (f_X3_waysHeld N a1 a2 u) 0 [(0, .ref 0), (1, .int a1), (2, .int a2)] [] (xU u) := by
  unfold f_X3_waysHeld
  refine xm_blk0 (pc' := 5) (lv' := [(0, .ref 0), (1, .int a1), (2, .int a2), (3, .int (0 : Int32)), (4, .int (0 : Int32))]) (st' := []) (u' := (xU u)) [(.iconst 0, (0, 0, 0), 0, 0), (.istore_n 3, (0, 0, 0), 0, 0), (.iconst 0, (0, 0, 0), 0, 0), (.istore 4, (0, 0, 0), 0, 0)] (by decide +kernel) rfl ?_
  exact go_X3_waysHeld_L5 N u N a1 a2 (0 : Int32) (0 : Int32)
theorem ev_X3_waysHeld (N : Nat) (a1 : Int32) (a2 : Int32) (u : xN) : ∀ r, f_X3_waysHeld N a1 a2 u = some r → xEm md_X3_waysHeld yX3_waysHeld [.ref 0, .int a1, .int a2] (xU u) (some (.int r), (xU u)) := xm_met (res := (rsI (xU u))) (as := [.ref 0, .int a1, .int a2]) (go_X3_waysHeld N a1 a2 u) (by decide) rfl (Nat.le_of_ble_eq_true rfl)
theorem mw_X3_hasBit : xMs yX3_hasBit cX3_hasBit 2 (some .boolean) 2 := xMs_of (p1 := 425) (p2 := 424) (p3 := 92) (by decide +kernel)
/-! NeitherBare.hasBit(II)Z  -/
abbrev md_X3_hasBit : xMd := (cX3_hasBit, RX3, 2, some .boolean, 1)
def f_X3_hasBit_L14 (t0 : Int32) : Option Int32 := gdl [isb t0] (some t0)
set_option maxRecDepth 20000 in
theorem go_X3_hasBit_L14 (u : xN) (t0 : Int32) : xGm md_X3_hasBit (rsI (xU u)) (f_X3_hasBit_L14 t0) 14 [] [.int t0] (xU u) := by
  unfold f_X3_hasBit_L14
  exact xm_zret (pc := 14) (by decide +kernel) rfl rfl
def f_X3_hasBit (a0 : Int32) (a1 : Int32) : Option Int32 := if ((a0 >>> (a1 &&& 31)) &&& (1 : Int32)) = (1 : Int32) then f_X3_hasBit_L14 (1 : Int32) else f_X3_hasBit_L14 (0 : Int32)
set_option maxRecDepth 20000 in
theorem go_X3_hasBit (a0 : Int32) (a1 : Int32) (u : xN) : xGm md_X3_hasBit (rsI (xU u)) (f_X3_hasBit a0 a1) 0 [(0, .int a0), (1, .int a1)] [] (xU u) := by
  unfold f_X3_hasBit
  refine xm_blk0 (pc' := 6) (lv' := [(0, .int a0), (1, .int a1)]) (st' := [.int (1 : Int32), .int ((a0 >>> (a1 &&& 31)) &&& (1 : Int32))]) (u' := (xU u)) [(.iload_n 0, (0, 0, 0), 0, 0), (.iload_n 1, (0, 0, 0), 0, 0), (.ishr, (0, 0, 0), 0, 0), (.iconst 1, (0, 0, 0), 1, 0), (.iand, (0, 0, 0), 0, 0), (.iconst 1, (0, 0, 0), 1, 0)] (by decide +kernel) rfl ?_
  refine xm_icmp_ne (pc := 6) (off := 7) (tgt := 13) (by decide +kernel) (by decide) ?_ ?_
  · refine xm_blk0 (pc' := 14) (lv' := [(0, .int a0), (1, .int a1)]) (st' := [.int (0 : Int32)]) (u' := (xU u)) [(.iconst 0, (0, 0, 0), 0, 0)] (by decide +kernel) rfl ?_
    refine xm_wk [] (lv' := []) rfl ?_
    exact go_X3_hasBit_L14 u (0 : Int32)
  · refine xm_blk0 (pc' := 10) (lv' := [(0, .int a0), (1, .int a1)]) (st' := [.int (1 : Int32)]) (u' := (xU u)) [(.iconst 1, (0, 0, 0), 1, 0)] (by decide +kernel) rfl ?_
    refine xm_goto (pc := 10) (off := 4) (tgt := 14) (by decide +kernel) (by decide) ?_
    refine xm_wk [] (lv' := []) rfl ?_
    exact go_X3_hasBit_L14 u (1 : Int32)
theorem ev_X3_hasBit (a0 : Int32) (a1 : Int32) (u : xN) : ∀ r, f_X3_hasBit a0 a1 = some r → xEm md_X3_hasBit yX3_hasBit [.int a0, .int a1] (xU u) (some (.int r), (xU u)) := xm_met (res := (rsI (xU u))) (as := [.int a0, .int a1]) (go_X3_hasBit a0 a1 u) (by decide) rfl (Nat.le_of_ble_eq_true rfl)
theorem mw_X2_isOn : xMv yX2_isOn cX2_isOn 2 (some .boolean) 1 := xMv_of (p1 := 422) (p2 := 420) (p3 := 96) (p4 := 421) (by decide +kernel)
/-! NeitherBare$Standing.isOn(I)Z (19, None) -/
abbrev md_X2_isOn_19 : xMd := (cX2_isOn, RX2, 2, some .boolean, 2)
def f_X2_isOn_19 (a1 : Int32) (u : xN) : Option Int32 := Option.bind (f_X3_hasBit (u.1 19 1) a1) (fun r5 => gdl [isb r5] (some r5))
set_option maxRecDepth 20000 in
theorem go_X2_isOn_19 (a1 : Int32) (u : xN) : xGm md_X2_isOn_19 (rsI (xU u)) (f_X2_isOn_19 a1 u) 0 [(0, .ref 19), (1, .int a1)] [] (xU u) := by
  unfold f_X2_isOn_19
  refine xm_blk0 (pc' := 5) (lv' := [(0, .ref 19), (1, .int a1)]) (st' := [.int a1, .int (u.1 19 1)]) (u' := (xU u)) [(.aload_n 0, (0, 0, 0), 0, 0), (.getfield 21, (2, 1, 180), 0, 0), (.iload_n 1, (0, 0, 0), 0, 0)] (by decide +kernel) rfl ?_
  refine xm_Ni (pc := 5) (mz := md_X3_hasBit) (idx := 28) (as := [.int (u.1 19 1), .int a1]) (st := []) (ev_X3_hasBit (u.1 19 1) a1 u) mw_X3_hasBit (by decide +kernel) (fun _ h => h.2.2.2.1) (by decide) rfl (Nat.le_of_ble_eq_true rfl) (fun r5 => ?_)
  exact xm_zret (pc := 8) (by decide +kernel) rfl rfl
theorem ev_X2_isOn_19 (a1 : Int32) (u : xN) : ∀ r, f_X2_isOn_19 a1 u = some r → xEm md_X2_isOn_19 yX2_isOn [.ref 19, .int a1] (xU u) (some (.int r), (xU u)) := xm_met (res := (rsI (xU u))) (as := [.ref 19, .int a1]) (go_X2_isOn_19 a1 u) (by decide) rfl (Nat.le_of_ble_eq_true rfl)
theorem mw_X3_clauseNumber : xMv yX3_clauseNumber cX3_clauseNumber 3 (some .int) 2 := xMv_of (p1 := 418) (p2 := 417) (p3 := 92) (p4 := 11) (by decide +kernel)
/-! NeitherBare.clauseNumber(II)I (0, None, None) -/
abbrev md_X3_clauseNumber : xMd := (cX3_clauseNumber, RX3, 3, some .int, 6)
def f_X3_clauseNumber_L78 (N : Nat) (u : xN) (t0 : Int32) : Option Int32 := some t0
set_option maxRecDepth 20000 in
theorem go_X3_clauseNumber_L78 (N : Nat) (u : xN) (t0 : Int32) : xGm md_X3_clauseNumber (rsI (xU u)) (f_X3_clauseNumber_L78 N u t0) 78 [] [.int t0] (xU u) := by
  unfold f_X3_clauseNumber_L78
  exact xm_iret (pc := 78) (by decide +kernel) rfl rfl
def f_X3_clauseNumber (N : Nat) (a1 : Int32) (a2 : Int32) (u : xN) : Option Int32 := if Int32.toInt a2 < 0 ∨ 3 < Int32.toInt a2 then (gdl [inb a1 8] (Option.bind (f_X3_waysHeld N a1 (u.1 10 (Int32.toNatClampNeg a1)) u) (fun r90 => some r90))) else if a2 = (0 : Int32) then (gdl [inb a1 8] (some (u.1 10 (Int32.toNatClampNeg a1)))) else if a2 = (1 : Int32) then (gdl [inb a1 8] (some (u.1 11 (Int32.toNatClampNeg a1)))) else if a2 = (2 : Int32) then (gdl [inb a1 8] (some (u.1 12 (Int32.toNatClampNeg a1)))) else if a2 = (3 : Int32) then (Option.bind (f_X2_isOn_19 a1 u) (fun r67 => if r67 = (0 : Int32) then f_X3_clauseNumber_L78 N u (0 : Int32) else f_X3_clauseNumber_L78 N u (1 : Int32))) else none
set_option maxRecDepth 20000 in
theorem go_X3_clauseNumber (N : Nat) (a1 : Int32) (a2 : Int32) (u : xN) : xGm md_X3_clauseNumber (rsI (xU u)) (f_X3_clauseNumber N a1 a2 u) 0 [(0, .ref 0), (1, .int a1), (2, .int a2)] [] (xU u) := by
  unfold f_X3_clauseNumber
  refine xm_blk0 (pc' := 1) (lv' := [(0, .ref 0), (1, .int a1), (2, .int a2)]) (st' := [.int a2]) (u' := (xU u)) [(.iload_n 2, (0, 0, 0), 0, 0)] (by decide +kernel) rfl ?_
  refine xm_tout (pc := 1) (tgt := 79) (dflt := 78) (lo := 0) (hi := 3) (offs := #[31, 41, 51, 61]) (len := 31) (by decide +kernel) (by decide) ?_ ?_
  · refine xm_blk (bs := [inb a1 8]) (pc' := 90) (lv' := [(0, .ref 0), (1, .int a1), (2, .int a2)]) (st' := [.int (u.1 10 (Int32.toNatClampNeg a1)), .int a1, .ref 0]) (u' := (xU u)) [(.aload_n 0, (0, 0, 0), 0, 0), (.iload_n 1, (0, 0, 0), 0, 0), (.aload_n 0, (0, 0, 0), 0, 0), (.getfield 24, (3, 2, 208), 0, 0), (.getfield 131, (0, 5, 151), 0, 0), (.iload_n 1, (0, 0, 0), 0, 0), (.iaload, (0, 0, 0), 0, 0)] (by decide +kernel) rfl ?_
    refine xm_Vi (pc := 90) (mz := md_X3_waysHeld) (idx := 284) (p1 := 426) (a := 0) (as := [.int a1, .int (u.1 10 (Int32.toNatClampNeg a1))]) (st := []) (ev_X3_waysHeld N a1 (u.1 10 (Int32.toNatClampNeg a1)) u) mw_X3_waysHeld (by decide +kernel) (by decide +kernel) (by decide) rfl rfl (by decide) rfl (Nat.le_of_ble_eq_true rfl) (fun r90 => ?_)
    exact xm_iret (pc := 93) (by decide +kernel) rfl rfl
  · refine xm_tin (pc := 1) (tgt := 32) (off := 31) (dflt := 78) (lo := 0) (hi := 3) (offs := #[31, 41, 51, 61]) (len := 31) (0 : Int32) (by decide +kernel) (by decide) (by decide) (by decide) (by decide) ?_ ?_
    · refine xm_blk (bs := [inb a1 8]) (pc' := 41) (lv' := [(0, .ref 0), (1, .int a1), (2, .int a2)]) (st' := [.int (u.1 10 (Int32.toNatClampNeg a1))]) (u' := (xU u)) [(.aload_n 0, (0, 0, 0), 0, 0), (.getfield 24, (3, 2, 208), 0, 0), (.getfield 131, (0, 5, 151), 0, 0), (.iload_n 1, (0, 0, 0), 0, 0), (.iaload, (0, 0, 0), 0, 0)] (by decide +kernel) rfl ?_
      exact xm_iret (pc := 41) (by decide +kernel) rfl rfl
    refine xm_tin (pc := 1) (tgt := 42) (off := 41) (dflt := 78) (lo := 0) (hi := 3) (offs := #[31, 41, 51, 61]) (len := 31) (1 : Int32) (by decide +kernel) (by decide) (by decide) (by decide) (by decide) ?_ ?_
    · refine xm_blk (bs := [inb a1 8]) (pc' := 51) (lv' := [(0, .ref 0), (1, .int a1), (2, .int a2)]) (st' := [.int (u.1 11 (Int32.toNatClampNeg a1))]) (u' := (xU u)) [(.aload_n 0, (0, 0, 0), 0, 0), (.getfield 24, (3, 2, 208), 0, 0), (.getfield 138, (0, 6, 153), 0, 0), (.iload_n 1, (0, 0, 0), 0, 0), (.iaload, (0, 0, 0), 0, 0)] (by decide +kernel) rfl ?_
      exact xm_iret (pc := 51) (by decide +kernel) rfl rfl
    refine xm_tin (pc := 1) (tgt := 52) (off := 51) (dflt := 78) (lo := 0) (hi := 3) (offs := #[31, 41, 51, 61]) (len := 31) (2 : Int32) (by decide +kernel) (by decide) (by decide) (by decide) (by decide) ?_ ?_
    · refine xm_blk (bs := [inb a1 8]) (pc' := 61) (lv' := [(0, .ref 0), (1, .int a1), (2, .int a2)]) (st' := [.int (u.1 12 (Int32.toNatClampNeg a1))]) (u' := (xU u)) [(.aload_n 0, (0, 0, 0), 0, 0), (.getfield 24, (3, 2, 208), 0, 0), (.getfield 332, (0, 7, 155), 0, 0), (.iload_n 1, (0, 0, 0), 0, 0), (.iaload, (0, 0, 0), 0, 0)] (by decide +kernel) rfl ?_
      exact xm_iret (pc := 61) (by decide +kernel) rfl rfl
    refine xm_tin (pc := 1) (tgt := 62) (off := 61) (dflt := 78) (lo := 0) (hi := 3) (offs := #[31, 41, 51, 61]) (len := 31) (3 : Int32) (by decide +kernel) (by decide) (by decide) (by decide) (by decide) ?_ ?_
    · refine xm_blk0 (pc' := 67) (lv' := [(0, .ref 0), (1, .int a1), (2, .int a2)]) (st' := [.int a1, .ref 19]) (u' := (xU u)) [(.aload_n 0, (0, 0, 0), 0, 0), (.getfield 34, (3, 4, 210), 0, 0), (.iload_n 1, (0, 0, 0), 0, 0)] (by decide +kernel) rfl ?_
      refine xm_Vi (pc := 67) (mz := md_X2_isOn_19) (idx := 173) (p1 := 419) (a := 19) (as := [.int a1]) (st := []) (ev_X2_isOn_19 a1 u) mw_X2_isOn (by decide +kernel) (by decide +kernel) (by decide) rfl rfl (by decide) rfl (Nat.le_of_ble_eq_true rfl) (fun r67 => ?_)
      refine xm_if_eq (pc := 70) (off := 7) (tgt := 77) (by decide +kernel) (by decide) ?_ ?_
      · refine xm_blk0 (pc' := 78) (lv' := [(0, .ref 0), (1, .int a1), (2, .int a2)]) (st' := [.int (0 : Int32)]) (u' := (xU u)) [(.iconst 0, (0, 0, 0), 0, 0)] (by decide +kernel) rfl ?_
        refine xm_wk [] (lv' := []) rfl ?_
        exact go_X3_clauseNumber_L78 N u (0 : Int32)
      · refine xm_blk0 (pc' := 74) (lv' := [(0, .ref 0), (1, .int a1), (2, .int a2)]) (st' := [.int (1 : Int32)]) (u' := (xU u)) [(.iconst 1, (0, 0, 0), 1, 0)] (by decide +kernel) rfl ?_
        refine xm_goto (pc := 74) (off := 4) (tgt := 78) (by decide +kernel) (by decide) ?_
        refine xm_wk [] (lv' := []) rfl ?_
        exact go_X3_clauseNumber_L78 N u (1 : Int32)
    exact xm_none
theorem ev_X3_clauseNumber (N : Nat) (a1 : Int32) (a2 : Int32) (u : xN) : ∀ r, f_X3_clauseNumber N a1 a2 u = some r → xEm md_X3_clauseNumber yX3_clauseNumber [.ref 0, .int a1, .int a2] (xU u) (some (.int r), (xU u)) := xm_met (res := (rsI (xU u))) (as := [.ref 0, .int a1, .int a2]) (go_X3_clauseNumber N a1 a2 u) (by decide) rfl (Nat.le_of_ble_eq_true rfl)
