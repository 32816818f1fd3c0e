/-! ===== the law's loop ===== -/
theorem z_dsw : decode code 33 = .ok (.tableswitch 1545 0 50 #[219, 252, 295, 328, 351, 414, 437, 470, 513, 536, 559, 592, 625, 658, 691, 724, 767, 790, 813, 836, 869, 892, 915, 928, 941, 954, 967, 990, 1013, 1026, 1039, 1052, 1075, 1098, 1121, 1144, 1187, 1220, 1243, 1286, 1319, 1352, 1385, 1398, 1431, 1444, 1458, 1472, 1495, 1508, 1531], 219) := by decide +kernel
set_option maxHeartbeats 4000000 in
theorem z_disp {p : Program} {l : Launch} {e : Env} {s : State} {m : MethodId} {below : List Frame} {meth : Method} {c : Code} {G : xG} {b L : Nat} {xs : Nat → Int32} {k : Nat} {n : xN} (Z : zCx p s m meth c G b L xs) (hk : k + 6 ≤ L) (hI : Inv n) (next : zN p l e s m below meth c b L xs k) {v : Int32} : zG p l e s m below meth c b G 33 (zLv k) [.int v] (xU n) := by
  by_cases ho : v.toInt < 0 ∨ 50 < v.toInt
  · exact xg_tout (tgt := 1578) Z.1 z_dsw ho (by decide) (next G n Z hI)
  · obtain ⟨j, hj, rfl⟩ := i32_of (a := v) (k := 51) (by omega) (by omega)
    match j, hj with
    | 0, _ => exact xg_tin (tgt := 252) (off := 219) Z.1 z_dsw (by decide) (by decide) (by decide) (by decide) (zc_0 Z hk hI next)
    | 1, _ => exact xg_tin (tgt := 285) (off := 252) Z.1 z_dsw (by decide) (by decide) (by decide) (by decide) (zc_1 Z hk hI next)
    | 2, _ => exact xg_tin (tgt := 328) (off := 295) Z.1 z_dsw (by decide) (by decide) (by decide) (by decide) (zc_2 Z hk hI next)
    | 3, _ => exact xg_tin (tgt := 361) (off := 328) Z.1 z_dsw (by decide) (by decide) (by decide) (by decide) (zc_3 Z hk hI next)
    | 4, _ => exact xg_tin (tgt := 384) (off := 351) Z.1 z_dsw (by decide) (by decide) (by decide) (by decide) (zc_4 Z hk hI next)
    | 5, _ => exact xg_tin (tgt := 447) (off := 414) Z.1 z_dsw (by decide) (by decide) (by decide) (by decide) (zc_5 Z hk hI next)
    | 6, _ => exact xg_tin (tgt := 470) (off := 437) Z.1 z_dsw (by decide) (by decide) (by decide) (by decide) (zc_6 Z hk hI next)
    | 7, _ => exact xg_tin (tgt := 503) (off := 470) Z.1 z_dsw (by decide) (by decide) (by decide) (by decide) (zc_7 Z hk hI next)
    | 8, _ => exact xg_tin (tgt := 546) (off := 513) Z.1 z_dsw (by decide) (by decide) (by decide) (by decide) (zc_8 Z hk hI next)
    | 9, _ => exact xg_tin (tgt := 569) (off := 536) Z.1 z_dsw (by decide) (by decide) (by decide) (by decide) (zc_9 Z hk hI next)
    | 10, _ => exact xg_tin (tgt := 592) (off := 559) Z.1 z_dsw (by decide) (by decide) (by decide) (by decide) (zc_10 Z hk hI next)
    | 11, _ => exact xg_tin (tgt := 625) (off := 592) Z.1 z_dsw (by decide) (by decide) (by decide) (by decide) (zc_11 Z hk hI next)
    | 12, _ => exact xg_tin (tgt := 658) (off := 625) Z.1 z_dsw (by decide) (by decide) (by decide) (by decide) (zc_12 Z hk hI next)
    | 13, _ => exact xg_tin (tgt := 691) (off := 658) Z.1 z_dsw (by decide) (by decide) (by decide) (by decide) (zc_13 Z hk hI next)
    | 14, _ => exact xg_tin (tgt := 724) (off := 691) Z.1 z_dsw (by decide) (by decide) (by decide) (by decide) (zc_14 Z hk hI next)
    | 15, _ => exact xg_tin (tgt := 757) (off := 724) Z.1 z_dsw (by decide) (by decide) (by decide) (by decide) (zc_15 Z hk hI next)
    | 16, _ => exact xg_tin (tgt := 800) (off := 767) Z.1 z_dsw (by decide) (by decide) (by decide) (by decide) (zc_16 Z hk hI next)
    | 17, _ => exact xg_tin (tgt := 823) (off := 790) Z.1 z_dsw (by decide) (by decide) (by decide) (by decide) (zc_17 Z hk hI next)
    | 18, _ => exact xg_tin (tgt := 846) (off := 813) Z.1 z_dsw (by decide) (by decide) (by decide) (by decide) (zc_18 Z hk hI next)
    | 19, _ => exact xg_tin (tgt := 869) (off := 836) Z.1 z_dsw (by decide) (by decide) (by decide) (by decide) (zc_19 Z hk hI next)
    | 20, _ => exact xg_tin (tgt := 902) (off := 869) Z.1 z_dsw (by decide) (by decide) (by decide) (by decide) (zc_20 Z hk hI next)
    | 21, _ => exact xg_tin (tgt := 925) (off := 892) Z.1 z_dsw (by decide) (by decide) (by decide) (by decide) (zc_21 Z hk hI next)
    | 22, _ => exact xg_tin (tgt := 948) (off := 915) Z.1 z_dsw (by decide) (by decide) (by decide) (by decide) (zc_22 Z hk hI next)
    | 23, _ => exact xg_tin (tgt := 961) (off := 928) Z.1 z_dsw (by decide) (by decide) (by decide) (by decide) (zc_23 Z hk hI next)
    | 24, _ => exact xg_tin (tgt := 974) (off := 941) Z.1 z_dsw (by decide) (by decide) (by decide) (by decide) (zc_24 Z hk hI next)
    | 25, _ => exact xg_tin (tgt := 987) (off := 954) Z.1 z_dsw (by decide) (by decide) (by decide) (by decide) (zc_25 Z hk hI next)
    | 26, _ => exact xg_tin (tgt := 1000) (off := 967) Z.1 z_dsw (by decide) (by decide) (by decide) (by decide) (zc_26 Z hk hI next)
    | 27, _ => exact xg_tin (tgt := 1023) (off := 990) Z.1 z_dsw (by decide) (by decide) (by decide) (by decide) (zc_27 Z hk hI next)
    | 28, _ => exact xg_tin (tgt := 1046) (off := 1013) Z.1 z_dsw (by decide) (by decide) (by decide) (by decide) (zc_28 Z hk hI next)
    | 29, _ => exact xg_tin (tgt := 1059) (off := 1026) Z.1 z_dsw (by decide) (by decide) (by decide) (by decide) (zc_29 Z hk hI next)
    | 30, _ => exact xg_tin (tgt := 1072) (off := 1039) Z.1 z_dsw (by decide) (by decide) (by decide) (by decide) (zc_30 Z hk hI next)
    | 31, _ => exact xg_tin (tgt := 1085) (off := 1052) Z.1 z_dsw (by decide) (by decide) (by decide) (by decide) (zc_31 Z hk hI next)
    | 32, _ => exact xg_tin (tgt := 1108) (off := 1075) Z.1 z_dsw (by decide) (by decide) (by decide) (by decide) (zc_32 Z hk hI next)
    | 33, _ => exact xg_tin (tgt := 1131) (off := 1098) Z.1 z_dsw (by decide) (by decide) (by decide) (by decide) (zc_33 Z hk hI next)
    | 34, _ => exact xg_tin (tgt := 1154) (off := 1121) Z.1 z_dsw (by decide) (by decide) (by decide) (by decide) (zc_34 Z hk hI next)
    | 35, _ => exact xg_tin (tgt := 1177) (off := 1144) Z.1 z_dsw (by decide) (by decide) (by decide) (by decide) (zc_35 Z hk hI next)
    | 36, _ => exact xg_tin (tgt := 1220) (off := 1187) Z.1 z_dsw (by decide) (by decide) (by decide) (by decide) (zc_36 Z hk hI next)
    | 37, _ => exact xg_tin (tgt := 1253) (off := 1220) Z.1 z_dsw (by decide) (by decide) (by decide) (by decide) (zc_37 Z hk hI next)
    | 38, _ => exact xg_tin (tgt := 1276) (off := 1243) Z.1 z_dsw (by decide) (by decide) (by decide) (by decide) (zc_38 Z hk hI next)
    | 39, _ => exact xg_tin (tgt := 1319) (off := 1286) Z.1 z_dsw (by decide) (by decide) (by decide) (by decide) (zc_39 Z hk hI next)
    | 40, _ => exact xg_tin (tgt := 1352) (off := 1319) Z.1 z_dsw (by decide) (by decide) (by decide) (by decide) (zc_40 Z hk hI next)
    | 41, _ => exact xg_tin (tgt := 1385) (off := 1352) Z.1 z_dsw (by decide) (by decide) (by decide) (by decide) (zc_41 Z hk hI next)
    | 42, _ => exact xg_tin (tgt := 1418) (off := 1385) Z.1 z_dsw (by decide) (by decide) (by decide) (by decide) (zc_42 Z hk hI next)
    | 43, _ => exact xg_tin (tgt := 1431) (off := 1398) Z.1 z_dsw (by decide) (by decide) (by decide) (by decide) (zc_43 Z hk hI next)
    | 44, _ => exact xg_tin (tgt := 1464) (off := 1431) Z.1 z_dsw (by decide) (by decide) (by decide) (by decide) (zc_44 Z hk hI next)
    | 45, _ => exact xg_tin (tgt := 1477) (off := 1444) Z.1 z_dsw (by decide) (by decide) (by decide) (by decide) (zc_45 Z hk hI next)
    | 46, _ => exact xg_tin (tgt := 1491) (off := 1458) Z.1 z_dsw (by decide) (by decide) (by decide) (by decide) (zc_46 Z hk hI next)
    | 47, _ => exact xg_tin (tgt := 1505) (off := 1472) Z.1 z_dsw (by decide) (by decide) (by decide) (by decide) (zc_47 Z hk hI next)
    | 48, _ => exact xg_tin (tgt := 1528) (off := 1495) Z.1 z_dsw (by decide) (by decide) (by decide) (by decide) (zc_48 Z hk hI next)
    | 49, _ => exact xg_tin (tgt := 1541) (off := 1508) Z.1 z_dsw (by decide) (by decide) (by decide) (by decide) (zc_49 Z hk hI next)
    | 50, _ => exact xg_tin (tgt := 1564) (off := 1531) Z.1 z_dsw (by decide) (by decide) (by decide) (by decide) (zc_50 Z hk hI next)
    | j + 51, h => exact absurd h (by omega)
theorem z_end {p : Program} {l : Launch} {e : Env} {s : State} {m : MethodId} {below : List Frame} {meth : Method} {c : Code} {b L : Nat} {xs : Nat → Int32} {G : xG} {n : xN} {k : Nat} (Z : zCx p s m meth c G b L xs) : zG p l e s m below meth c b G 1584 (zLv k) [] (xU n) := by
  refine xRun_ok Z.1 [(.iconst 1, (0, 0, 0), 1, 0)] (by decide +kernel) (bs := []) (pc' := 1585) (lv' := zLv k) (st' := [.int 1]) (u' := xU n) rfl (fun _ h => absurd h List.not_mem_nil) ?_
  obtain ⟨C, hG, hX, hbl, hA, hL, hr, hlk⟩ := Z
  intro H locs ls hl hP hS
  refine va_forget (fun q hq => hA _ (hS.2.2 q hq)) ?_
  refine W.widen (k := 600000) (n := 7302250) (by decide) (by decide) ?_
  exact lw_ret C.1 C.2.1 hr hlk (by decide +kernel)
theorem z_slen {p : Program} {l : Launch} {e : Env} {s : State} {m : MethodId} {below : List Frame} {meth : Method} {c : Code} {b L : Nat} {xs : Nat → Int32} {G : xG} {lv : List (Nat × Value)} {st : List Value} {u : xM} {pc : Nat} (Z : zCx p s m meth c G b L xs) (hd : decode code pc = .ok (.arraylength, 1)) (kk : zG p l e s m below meth c b G (pc + 1) lv (.int (nI L) :: st) u) : zG p l e s m below meth c b G pc lv (.ref 57 :: st) u := by
  intro H locs ls hl hP hS
  have hb := z_bA Z
  obtain ⟨C, hG, hX, hbl, -, hL, -⟩ := Z
  show W p l e room_1 s m #[Value.ref b] below meth c H locs 54 36771 (lw_Z below #[Value.ref b] s) (F0 m pc ls (.ref (G.1 57) :: st.map (xc G)))
  rw [hG]
  exact va_slen C.1 C.2.1 hX hbl hb hS hd (kk H locs ls hl hP hS)
theorem z_next {p : Program} {l : Launch} {e : Env} {s : State} {m : MethodId} {below : List Frame} {meth : Method} {c : Code} {b L : Nat} {xs : Nat → Int32} {G : xG} {n : xN} {k : Nat} (Z : zCx p s m meth c G b L xs) (kk : zG p l e s m below meth c b G 18 (zLv (k + 6)) [] (xU n)) : zG p l e s m below meth c b G 1578 (zLv k) [] (xU n) := by
  have e1 : nI k + 6 = nI (k + 6) := nI_add k 6
  refine xRun_ok Z.1 [(.iinc 3 6, (0, 0, 0), 6, 0)] (by decide +kernel) (bs := []) (pc' := 1581) (lv' := zLv (k + 6)) (st' := []) (u' := xU n) ?_ (fun _ h => absurd h List.not_mem_nil) ?_
  · show _ = some (([] : List Bool), 1581, [(0, Value.ref 57), (1, Value.ref 0), (2, Value.ref 39), (3, Value.int (nI (k + 6)))], ([] : List Value), xU n)
    rw [← e1]
    rfl
  · exact xg_goto (tgt := 18) (off := -1563) Z.1 (by decide +kernel) (by decide) kk
theorem z_head {p : Program} {l : Launch} {e : Env} {s : State} {m : MethodId} {below : List Frame} {meth : Method} {c : Code} {b L : Nat} {xs : Nat → Int32} {G : xG} {n : xN} {k : Nat} (Z : zCx p s m meth c G b L xs) (hI : Inv n) (hkL : k ≤ L + 6) (next : k + 6 ≤ L → zN p l e s m below meth c b L xs k) : zG p l e s m below meth c b G 18 (zLv k) [] (xU n) := by
  have hL : L ≤ 3072 := Z.2.2.2.2.2.1
  refine xRun_ok Z.1 [(.iload_n 3, (0, 0, 0), 0, 0), (.aload_n 0, (0, 0, 0), 0, 0)] (by decide +kernel) (bs := []) (pc' := 20) (lv' := zLv k) (st' := [.ref 57, .int (nI k)]) (u' := xU n) rfl (fun _ h => absurd h List.not_mem_nil) ?_
  refine z_slen (pc := 20) Z (by decide +kernel) ?_
  refine xRun_ok Z.1 [(.bipush 6, (0, 0, 0), 6, 0), (.isub, (0, 0, 0), 0, 0)] (by decide +kernel) (bs := []) (pc' := 24) (lv' := zLv k) (st' := [.int (nI L - 6), .int (nI k)]) (u' := xU n) rfl (fun _ h => absurd h List.not_mem_nil) ?_
  have h6 : (6 : Int32).toInt = 6 := by decide
  have hLi : (nI L).toInt = L := nI_toInt (by omega)
  have hki : (nI k).toInt = k := nI_toInt (by omega)
  have hs : (nI L - 6).toInt = L - 6 := by
    rw [i32_sub (by rw [hLi, h6]; omega) (by rw [hLi, h6]; omega), hLi, h6]
  refine xg_icmp_gt (tgt := 1584) (off := 1560) Z.1 (by decide +kernel) (by decide) (fun _ => z_end Z) (fun h => ?_)
  have hk : k + 6 ≤ L := by
    rw [i32_lt, hs, hki] at h
    omega
  refine xRun_ok Z.1 [(.aload_n 0, (0, 0, 0), 0, 0), (.iload_n 3, (0, 0, 0), 0, 0)] (by decide +kernel) (bs := []) (pc' := 29) (lv' := zLv k) (st' := [.int (nI k), .ref 57]) (u' := xU n) rfl (fun _ h => absurd h List.not_mem_nil) ?_
  refine z_sld (pc := 29) Z (by omega) (by decide +kernel) ?_
  refine xRun_ok Z.1 [(.bipush 63, (0, 0, 0), 63, 0), (.iand, (0, 0, 0), 0, 0)] (by decide +kernel) (bs := []) (pc' := 33) (lv' := zLv k) (st' := [.int (xs k &&& 63)]) (u' := xU n) rfl (fun _ h => absurd h List.not_mem_nil) ?_
  exact z_disp Z hk hI (next hk)
theorem z_loop {p : Program} {l : Launch} {e : Env} {s : State} {m : MethodId} {below : List Frame} {meth : Method} {c : Code} {b L : Nat} {xs : Nat → Int32} : ∀ (f k : Nat), L < k + f → k ≤ L + 6 → ∀ (G : xG) (n : xN), zCx p s m meth c G b L xs → Inv n → zG p l e s m below meth c b G 18 (zLv k) [] (xU n) := by
  intro f
  induction f with
  | zero =>
    intro k h1 h2 G n Z hI
    have hL : L ≤ 3072 := Z.2.2.2.2.2.1
    exact z_head Z hI (by omega) (fun h => absurd h (by omega))
  | succ f ih =>
    intro k h1 h2 G n Z hI
    refine z_head Z hI (by omega) (fun h => ?_)
    exact fun G' n' Z' hI' => z_next Z' (ih (k + 6) (by omega) (by omega) G' n' Z' hI')
