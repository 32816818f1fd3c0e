/-! ===== the law's cases ===== -/
/-- what follows a call that was answered alike -/
abbrev zN (p : Program) (l : Launch) (e : Env) (s : State) (m : MethodId) (below : List Frame) (meth : Method) (c : Code) (b L : Nat) (xs : Nat → Int32) (k : Nat) : Prop := ∀ (G : xG) (n : xN), zCx p s m meth c G b L xs → Inv n → zG p l e s m below meth c b G 1578 (zLv k) [] (xU n)
theorem zc_0 {p : Program} {l : Launch} {e : Env} {s : State} {m : MethodId} {below : List Frame} {meth : Method} {c : Code} {G : xG} {b L : Nat} {xs : Nat → Int32} {k : Nat} {n : xN} (Z : zCx p s m meth c G b L xs) (hk : k + 6 ≤ L) (hI : Inv n) (next : zN p l e s m below meth c b L xs k) : zG p l e s m below meth c b G 252 (zLv k) [] (xU n) := by
  obtain ⟨r, n1, n2, h1, h2, h3⟩ := op_row 20000 (by decide) (xs (k + 1)) (xs (k + 2)) n hI
  refine z_a1 (pc := 252) Z (by decide +kernel) ?_
  refine z_arg (pc := 253) (j := 1) (ji := 1) Z (by decide +kernel) (by omega) (by decide +kernel) ?_
  refine z_arg (pc := 258) (j := 2) (ji := 2) Z (by decide +kernel) (by omega) (by decide +kernel) ?_
  refine z_ci (pc := 263) (idx := 13) (p1 := 246) (ci := 3) (as := [.int (xs (k + 1)), .int (xs (k + 2))]) (st := []) Z (ev_X3_row 20000 (xs (k + 1)) (xs (k + 2)) n (r, n1) h1) mw_X3_row (by decide +kernel) (by decide +kernel) (by decide) rfl rfl (by decide) rfl (Nat.le_of_ble_eq_true rfl) ?_
  refine z_a2 (pc := 266) Z (by decide +kernel) ?_
  refine z_arg (pc := 267) (j := 1) (ji := 1) Z (by decide +kernel) (by omega) (by decide +kernel) ?_
  refine z_arg (pc := 272) (j := 2) (ji := 2) Z (by decide +kernel) (by omega) (by decide +kernel) ?_
  refine z_ci (pc := 277) (idx := 17) (p1 := 897) (ci := 4) (as := [.int (xs (k + 1)), .int (xs (k + 2))]) (st := [.int r]) Z (ev_X4_row 20000 (xs (k + 1)) (xs (k + 2)) n1 (r, n2) h2) mw_X4_row (by decide +kernel) (by decide +kernel) (by decide) rfl rfl (by decide) rfl (Nat.le_of_ble_eq_true rfl) ?_
  exact z_eq (pc := 280) (off := 1298) Z (by decide +kernel) (by decide) (next G n2 Z h3)
theorem zc_1 {p : Program} {l : Launch} {e : Env} {s : State} {m : MethodId} {below : List Frame} {meth : Method} {c : Code} {G : xG} {b L : Nat} {xs : Nat → Int32} {k : Nat} {n : xN} (Z : zCx p s m meth c G b L xs) (hk : k + 6 ≤ L) (hI : Inv n) (next : zN p l e s m below meth c b L xs k) : zG p l e s m below meth c b G 285 (zLv k) [] (xU n) := by
  obtain ⟨r, n1, n2, h1, h2, h3⟩ := op_lay (xs (k + 1)) (xs (k + 2)) (xs (k + 3)) n hI
  refine z_a1 (pc := 285) Z (by decide +kernel) ?_
  refine z_arg (pc := 286) (j := 1) (ji := 1) Z (by decide +kernel) (by omega) (by decide +kernel) ?_
  refine z_arg (pc := 291) (j := 2) (ji := 2) Z (by decide +kernel) (by omega) (by decide +kernel) ?_
  refine z_arg (pc := 296) (j := 3) (ji := 3) Z (by decide +kernel) (by omega) (by decide +kernel) ?_
  refine z_ci (pc := 301) (idx := 18) (p1 := 272) (ci := 3) (as := [.int (xs (k + 1)), .int (xs (k + 2)), .int (xs (k + 3))]) (st := []) Z (ev_X3_lay (xs (k + 1)) (xs (k + 2)) (xs (k + 3)) n (r, n1) h1) mw_X3_lay (by decide +kernel) (by decide +kernel) (by decide) rfl rfl (by decide) rfl (Nat.le_of_ble_eq_true rfl) ?_
  refine z_a2 (pc := 304) Z (by decide +kernel) ?_
  refine z_arg (pc := 305) (j := 1) (ji := 1) Z (by decide +kernel) (by omega) (by decide +kernel) ?_
  refine z_arg (pc := 310) (j := 2) (ji := 2) Z (by decide +kernel) (by omega) (by decide +kernel) ?_
  refine z_arg (pc := 315) (j := 3) (ji := 3) Z (by decide +kernel) (by omega) (by decide +kernel) ?_
  refine z_ci (pc := 320) (idx := 22) (p1 := 916) (ci := 4) (as := [.int (xs (k + 1)), .int (xs (k + 2)), .int (xs (k + 3))]) (st := [.int r]) Z (ev_X4_lay (xs (k + 1)) (xs (k + 2)) (xs (k + 3)) n1 (r, n2) h2) mw_X4_lay (by decide +kernel) (by decide +kernel) (by decide) rfl rfl (by decide) rfl (Nat.le_of_ble_eq_true rfl) ?_
  exact z_eq (pc := 323) (off := 1255) Z (by decide +kernel) (by decide) (next G n2 Z h3)
theorem zc_2 {p : Program} {l : Launch} {e : Env} {s : State} {m : MethodId} {below : List Frame} {meth : Method} {c : Code} {G : xG} {b L : Nat} {xs : Nat → Int32} {k : Nat} {n : xN} (Z : zCx p s m meth c G b L xs) (hk : k + 6 ≤ L) (hI : Inv n) (next : zN p l e s m below meth c b L xs k) : zG p l e s m below meth c b G 328 (zLv k) [] (xU n) := by
  obtain ⟨r, n1, n2, h1, h2, h3⟩ := op_at (xs (k + 1)) (xs (k + 2)) n hI
  refine z_a1 (pc := 328) Z (by decide +kernel) ?_
  refine z_arg (pc := 329) (j := 1) (ji := 1) Z (by decide +kernel) (by omega) (by decide +kernel) ?_
  refine z_arg (pc := 334) (j := 2) (ji := 2) Z (by decide +kernel) (by omega) (by decide +kernel) ?_
  refine z_ci (pc := 339) (idx := 23) (p1 := 300) (ci := 3) (as := [.int (xs (k + 1)), .int (xs (k + 2))]) (st := []) Z (ev_X3_at (xs (k + 1)) (xs (k + 2)) n (r, n1) h1) mw_X3_at (by decide +kernel) (by decide +kernel) (by decide) rfl rfl (by decide) rfl (Nat.le_of_ble_eq_true rfl) ?_
  refine z_a2 (pc := 342) Z (by decide +kernel) ?_
  refine z_arg (pc := 343) (j := 1) (ji := 1) Z (by decide +kernel) (by omega) (by decide +kernel) ?_
  refine z_arg (pc := 348) (j := 2) (ji := 2) Z (by decide +kernel) (by omega) (by decide +kernel) ?_
  refine z_ci (pc := 353) (idx := 26) (p1 := 928) (ci := 4) (as := [.int (xs (k + 1)), .int (xs (k + 2))]) (st := [.int r]) Z (ev_X4_at (xs (k + 1)) (xs (k + 2)) n1 (r, n2) h2) mw_X4_at (by decide +kernel) (by decide +kernel) (by decide) rfl rfl (by decide) rfl (Nat.le_of_ble_eq_true rfl) ?_
  exact z_eq (pc := 356) (off := 1222) Z (by decide +kernel) (by decide) (next G n2 Z h3)
theorem zc_3 {p : Program} {l : Launch} {e : Env} {s : State} {m : MethodId} {below : List Frame} {meth : Method} {c : Code} {G : xG} {b L : Nat} {xs : Nat → Int32} {k : Nat} {n : xN} (Z : zCx p s m meth c G b L xs) (hk : k + 6 ≤ L) (hI : Inv n) (next : zN p l e s m below meth c b L xs k) : zG p l e s m below meth c b G 361 (zLv k) [] (xU n) := by
  obtain ⟨r, n1, n2, h1, h2, h3⟩ := op_tear (xs (k + 1)) n hI
  refine z_a1 (pc := 361) Z (by decide +kernel) ?_
  refine z_arg (pc := 362) (j := 1) (ji := 1) Z (by decide +kernel) (by omega) (by decide +kernel) ?_
  refine z_ci (pc := 367) (idx := 27) (p1 := 304) (ci := 3) (as := [.int (xs (k + 1))]) (st := []) Z (ev_X3_tear (xs (k + 1)) n (r, n1) h1) mw_X3_tear (by decide +kernel) (by decide +kernel) (by decide) rfl rfl (by decide) rfl (Nat.le_of_ble_eq_true rfl) ?_
  refine z_a2 (pc := 370) Z (by decide +kernel) ?_
  refine z_arg (pc := 371) (j := 1) (ji := 1) Z (by decide +kernel) (by omega) (by decide +kernel) ?_
  refine z_ci (pc := 376) (idx := 31) (p1 := 932) (ci := 4) (as := [.int (xs (k + 1))]) (st := [.int r]) Z (ev_X4_tear (xs (k + 1)) n1 (r, n2) h2) mw_X4_tear (by decide +kernel) (by decide +kernel) (by decide) rfl rfl (by decide) rfl (Nat.le_of_ble_eq_true rfl) ?_
  exact z_eq (pc := 379) (off := 1199) Z (by decide +kernel) (by decide) (next G n2 Z h3)
theorem zc_4 {p : Program} {l : Launch} {e : Env} {s : State} {m : MethodId} {below : List Frame} {meth : Method} {c : Code} {G : xG} {b L : Nat} {xs : Nat → Int32} {k : Nat} {n : xN} (Z : zCx p s m meth c G b L xs) (hk : k + 6 ≤ L) (hI : Inv n) (next : zN p l e s m below meth c b L xs k) : zG p l e s m below meth c b G 384 (zLv k) [] (xU n) := by
  obtain ⟨r, n1, n2, h1, h2, h3⟩ := op_copy 20000 (by decide) (xs (k + 1)) (xs (k + 2)) (xs (k + 3)) (xs (k + 4)) (xs (k + 5)) n hI
  refine z_a1 (pc := 384) Z (by decide +kernel) ?_
  refine z_arg (pc := 385) (j := 1) (ji := 1) Z (by decide +kernel) (by omega) (by decide +kernel) ?_
  refine z_arg (pc := 390) (j := 2) (ji := 2) Z (by decide +kernel) (by omega) (by decide +kernel) ?_
  refine z_arg (pc := 395) (j := 3) (ji := 3) Z (by decide +kernel) (by omega) (by decide +kernel) ?_
  refine z_arg (pc := 400) (j := 4) (ji := 4) Z (by decide +kernel) (by omega) (by decide +kernel) ?_
  refine z_arg (pc := 405) (j := 5) (ji := 5) Z (by decide +kernel) (by omega) (by decide +kernel) ?_
  refine z_ci (pc := 410) (idx := 32) (p1 := 312) (ci := 3) (as := [.int (xs (k + 1)), .int (xs (k + 2)), .int (xs (k + 3)), .int (xs (k + 4)), .int (xs (k + 5))]) (st := []) Z (ev_X3_copy (xs (k + 1)) (xs (k + 2)) (xs (k + 3)) (xs (k + 4)) (xs (k + 5)) n (r, n1) h1) mw_X3_copy (by decide +kernel) (by decide +kernel) (by decide) rfl rfl (by decide) rfl (Nat.le_of_ble_eq_true rfl) ?_
  refine z_a2 (pc := 413) Z (by decide +kernel) ?_
  refine z_arg (pc := 414) (j := 1) (ji := 1) Z (by decide +kernel) (by omega) (by decide +kernel) ?_
  refine z_arg (pc := 419) (j := 2) (ji := 2) Z (by decide +kernel) (by omega) (by decide +kernel) ?_
  refine z_arg (pc := 424) (j := 3) (ji := 3) Z (by decide +kernel) (by omega) (by decide +kernel) ?_
  refine z_arg (pc := 429) (j := 4) (ji := 4) Z (by decide +kernel) (by omega) (by decide +kernel) ?_
  refine z_arg (pc := 434) (j := 5) (ji := 5) Z (by decide +kernel) (by omega) (by decide +kernel) ?_
  refine z_ci (pc := 439) (idx := 36) (p1 := 936) (ci := 4) (as := [.int (xs (k + 1)), .int (xs (k + 2)), .int (xs (k + 3)), .int (xs (k + 4)), .int (xs (k + 5))]) (st := [.int r]) Z (ev_X4_copy 20000 (xs (k + 1)) (xs (k + 2)) (xs (k + 3)) (xs (k + 4)) (xs (k + 5)) n1 (r, n2) h2) mw_X4_copy (by decide +kernel) (by decide +kernel) (by decide) rfl rfl (by decide) rfl (Nat.le_of_ble_eq_true rfl) ?_
  exact z_eq (pc := 442) (off := 1136) Z (by decide +kernel) (by decide) (next G n2 Z h3)
theorem zc_5 {p : Program} {l : Launch} {e : Env} {s : State} {m : MethodId} {below : List Frame} {meth : Method} {c : Code} {G : xG} {b L : Nat} {xs : Nat → Int32} {k : Nat} {n : xN} (Z : zCx p s m meth c G b L xs) (hk : k + 6 ≤ L) (hI : Inv n) (next : zN p l e s m below meth c b L xs k) : zG p l e s m below meth c b G 447 (zLv k) [] (xU n) := by
  obtain ⟨r, n1, n2, h1, h2, h3⟩ := op_mean 20000 (by decide) (xs (k + 1)) n hI
  refine z_a1 (pc := 447) Z (by decide +kernel) ?_
  refine z_arg (pc := 448) (j := 1) (ji := 1) Z (by decide +kernel) (by omega) (by decide +kernel) ?_
  refine z_ci (pc := 453) (idx := 37) (p1 := 323) (ci := 3) (as := [.int (xs (k + 1))]) (st := []) Z (ev_X3_mean 20000 (xs (k + 1)) n (r, n1) h1) mw_X3_mean (by decide +kernel) (by decide +kernel) (by decide) rfl rfl (by decide) rfl (Nat.le_of_ble_eq_true rfl) ?_
  refine z_a2 (pc := 456) Z (by decide +kernel) ?_
  refine z_arg (pc := 457) (j := 1) (ji := 1) Z (by decide +kernel) (by omega) (by decide +kernel) ?_
  refine z_ci (pc := 462) (idx := 40) (p1 := 944) (ci := 4) (as := [.int (xs (k + 1))]) (st := [.int r]) Z (ev_X4_mean 20000 (xs (k + 1)) n1 (r, n2) h2) mw_X4_mean (by decide +kernel) (by decide +kernel) (by decide) rfl rfl (by decide) rfl (Nat.le_of_ble_eq_true rfl) ?_
  exact z_eq (pc := 465) (off := 1113) Z (by decide +kernel) (by decide) (next G n2 Z h3)
theorem zc_6 {p : Program} {l : Launch} {e : Env} {s : State} {m : MethodId} {below : List Frame} {meth : Method} {c : Code} {G : xG} {b L : Nat} {xs : Nat → Int32} {k : Nat} {n : xN} (Z : zCx p s m meth c G b L xs) (hk : k + 6 ≤ L) (hI : Inv n) (next : zN p l e s m below meth c b L xs k) : zG p l e s m below meth c b G 470 (zLv k) [] (xU n) := by
  obtain ⟨r, n1, n2, h1, h2, h3⟩ := op_text 20000 (by decide) (xs (k + 1)) (xs (k + 2)) n hI
  refine z_a1 (pc := 470) Z (by decide +kernel) ?_
  refine z_arg (pc := 471) (j := 1) (ji := 1) Z (by decide +kernel) (by omega) (by decide +kernel) ?_
  refine z_arg (pc := 476) (j := 2) (ji := 2) Z (by decide +kernel) (by omega) (by decide +kernel) ?_
  refine z_ci (pc := 481) (idx := 41) (p1 := 331) (ci := 3) (as := [.int (xs (k + 1)), .int (xs (k + 2))]) (st := []) Z (ev_X3_text 20000 (xs (k + 1)) (xs (k + 2)) n (r, n1) h1) mw_X3_text (by decide +kernel) (by decide +kernel) (by decide) rfl rfl (by decide) rfl (Nat.le_of_ble_eq_true rfl) ?_
  refine z_a2 (pc := 484) Z (by decide +kernel) ?_
  refine z_arg (pc := 485) (j := 1) (ji := 1) Z (by decide +kernel) (by omega) (by decide +kernel) ?_
  refine z_arg (pc := 490) (j := 2) (ji := 2) Z (by decide +kernel) (by omega) (by decide +kernel) ?_
  refine z_ci (pc := 495) (idx := 44) (p1 := 948) (ci := 4) (as := [.int (xs (k + 1)), .int (xs (k + 2))]) (st := [.int r]) Z (ev_X4_text 20000 (xs (k + 1)) (xs (k + 2)) n1 (r, n2) h2) mw_X4_text (by decide +kernel) (by decide +kernel) (by decide) rfl rfl (by decide) rfl (Nat.le_of_ble_eq_true rfl) ?_
  exact z_eq (pc := 498) (off := 1080) Z (by decide +kernel) (by decide) (next G n2 Z h3)
theorem zc_7 {p : Program} {l : Launch} {e : Env} {s : State} {m : MethodId} {below : List Frame} {meth : Method} {c : Code} {G : xG} {b L : Nat} {xs : Nat → Int32} {k : Nat} {n : xN} (Z : zCx p s m meth c G b L xs) (hk : k + 6 ≤ L) (hI : Inv n) (next : zN p l e s m below meth c b L xs k) : zG p l e s m below meth c b G 503 (zLv k) [] (xU n) := by
  obtain ⟨r, n1, n2, h1, h2, h3⟩ := op_put (xs (k + 1)) (xs (k + 2)) (xs (k + 3)) n hI
  refine z_a1 (pc := 503) Z (by decide +kernel) ?_
  refine z_arg (pc := 504) (j := 1) (ji := 1) Z (by decide +kernel) (by omega) (by decide +kernel) ?_
  refine z_arg (pc := 509) (j := 2) (ji := 2) Z (by decide +kernel) (by omega) (by decide +kernel) ?_
  refine z_arg (pc := 514) (j := 3) (ji := 3) Z (by decide +kernel) (by omega) (by decide +kernel) ?_
  refine z_ci (pc := 519) (idx := 45) (p1 := 335) (ci := 3) (as := [.int (xs (k + 1)), .int (xs (k + 2)), .int (xs (k + 3))]) (st := []) Z (ev_X3_put (xs (k + 1)) (xs (k + 2)) (xs (k + 3)) n (r, n1) h1) mw_X3_put (by decide +kernel) (by decide +kernel) (by decide) rfl rfl (by decide) rfl (Nat.le_of_ble_eq_true rfl) ?_
  refine z_a2 (pc := 522) Z (by decide +kernel) ?_
  refine z_arg (pc := 523) (j := 1) (ji := 1) Z (by decide +kernel) (by omega) (by decide +kernel) ?_
  refine z_arg (pc := 528) (j := 2) (ji := 2) Z (by decide +kernel) (by omega) (by decide +kernel) ?_
  refine z_arg (pc := 533) (j := 3) (ji := 3) Z (by decide +kernel) (by omega) (by decide +kernel) ?_
  refine z_ci (pc := 538) (idx := 48) (p1 := 956) (ci := 4) (as := [.int (xs (k + 1)), .int (xs (k + 2)), .int (xs (k + 3))]) (st := [.int r]) Z (ev_X4_put (xs (k + 1)) (xs (k + 2)) (xs (k + 3)) n1 (r, n2) h2) mw_X4_put (by decide +kernel) (by decide +kernel) (by decide) rfl rfl (by decide) rfl (Nat.le_of_ble_eq_true rfl) ?_
  exact z_eq (pc := 541) (off := 1037) Z (by decide +kernel) (by decide) (next G n2 Z h3)
theorem zc_8 {p : Program} {l : Launch} {e : Env} {s : State} {m : MethodId} {below : List Frame} {meth : Method} {c : Code} {G : xG} {b L : Nat} {xs : Nat → Int32} {k : Nat} {n : xN} (Z : zCx p s m meth c G b L xs) (hk : k + 6 ≤ L) (hI : Inv n) (next : zN p l e s m below meth c b L xs k) : zG p l e s m below meth c b G 546 (zLv k) [] (xU n) := by
  obtain ⟨r, n1, n2, h1, h2, h3⟩ := op_fault 20000 (by decide) (xs (k + 1)) n hI
  refine z_a1 (pc := 546) Z (by decide +kernel) ?_
  refine z_arg (pc := 547) (j := 1) (ji := 1) Z (by decide +kernel) (by omega) (by decide +kernel) ?_
  refine z_ci (pc := 552) (idx := 49) (p1 := 339) (ci := 3) (as := [.int (xs (k + 1))]) (st := []) Z (ev_X3_fault 20000 (xs (k + 1)) n (r, n1) h1) mw_X3_fault (by decide +kernel) (by decide +kernel) (by decide) rfl rfl (by decide) rfl (Nat.le_of_ble_eq_true rfl) ?_
  refine z_a2 (pc := 555) Z (by decide +kernel) ?_
  refine z_arg (pc := 556) (j := 1) (ji := 1) Z (by decide +kernel) (by omega) (by decide +kernel) ?_
  refine z_ci (pc := 561) (idx := 52) (p1 := 960) (ci := 4) (as := [.int (xs (k + 1))]) (st := [.int r]) Z (ev_X4_fault 20000 (xs (k + 1)) n1 (r, n2) h2) mw_X4_fault (by decide +kernel) (by decide +kernel) (by decide) rfl rfl (by decide) rfl (Nat.le_of_ble_eq_true rfl) ?_
  exact z_eq (pc := 564) (off := 1014) Z (by decide +kernel) (by decide) (next G n2 Z h3)
theorem zc_9 {p : Program} {l : Launch} {e : Env} {s : State} {m : MethodId} {below : List Frame} {meth : Method} {c : Code} {G : xG} {b L : Nat} {xs : Nat → Int32} {k : Nat} {n : xN} (Z : zCx p s m meth c G b L xs) (hk : k + 6 ≤ L) (hI : Inv n) (next : zN p l e s m below meth c b L xs k) : zG p l e s m below meth c b G 569 (zLv k) [] (xU n) := by
  obtain ⟨r, n1, bb, n2, h1, h2, h3⟩ := op_court 20000 (by decide) (xs (k + 1)) n hI
  refine z_a1 (pc := 569) Z (by decide +kernel) ?_
  refine z_arg (pc := 570) (j := 1) (ji := 1) Z (by decide +kernel) (by omega) (by decide +kernel) ?_
  refine z_ci (pc := 575) (idx := 53) (p1 := 383) (ci := 3) (r := r) (u1 := if bb = true then xU1 n1 else xU n1) (as := [.int (xs (k + 1))]) (st := []) Z (ev_X3_court 20000 (xs (k + 1)) n (r, n1, bb) h1) mw_X3_court (by decide +kernel) (by decide +kernel) (by decide) rfl rfl (by decide) rfl (Nat.le_of_ble_eq_true rfl) ?_
  cases bb with
  | true =>
    rw [if_pos rfl] at h2 ⊢
    refine z_sw ?_
    refine z_a2 (pc := 578) (sG_Z Z) (by decide +kernel) ?_
    refine z_arg (pc := 579) (j := 1) (ji := 1) (sG_Z Z) (by decide +kernel) (by omega) (by decide +kernel) ?_
    refine z_ci (pc := 584) (idx := 56) (p1 := 995) (ci := 4) (as := [.int (xs (k + 1))]) (st := [.int r]) (sG_Z Z) (ev_X4_court 20000 (xs (k + 1)) (swp n1) (r, n2) h2) mw_X4_court (by decide +kernel) (by decide +kernel) (by decide) rfl rfl (by decide) rfl (Nat.le_of_ble_eq_true rfl) ?_
    exact z_eq (pc := 587) (off := 991) (sG_Z Z) (by decide +kernel) (by decide) (next (sG G) n2 (sG_Z Z) h3)
  | false =>
    rw [if_neg (by decide)] at h2 ⊢
    refine z_a2 (pc := 578) Z (by decide +kernel) ?_
    refine z_arg (pc := 579) (j := 1) (ji := 1) Z (by decide +kernel) (by omega) (by decide +kernel) ?_
    refine z_ci (pc := 584) (idx := 56) (p1 := 995) (ci := 4) (as := [.int (xs (k + 1))]) (st := [.int r]) Z (ev_X4_court 20000 (xs (k + 1)) n1 (r, n2) h2) mw_X4_court (by decide +kernel) (by decide +kernel) (by decide) rfl rfl (by decide) rfl (Nat.le_of_ble_eq_true rfl) ?_
    exact z_eq (pc := 587) (off := 991) Z (by decide +kernel) (by decide) (next G n2 Z h3)
theorem zc_10 {p : Program} {l : Launch} {e : Env} {s : State} {m : MethodId} {below : List Frame} {meth : Method} {c : Code} {G : xG} {b L : Nat} {xs : Nat → Int32} {k : Nat} {n : xN} (Z : zCx p s m meth c G b L xs) (hk : k + 6 ≤ L) (hI : Inv n) (next : zN p l e s m below meth c b L xs k) : zG p l e s m below meth c b G 592 (zLv k) [] (xU n) := by
  obtain ⟨r, n1, n2, h1, h2, h3⟩ := op_thing (xs (k + 1)) (xs (k + 2)) n hI
  refine z_a1 (pc := 592) Z (by decide +kernel) ?_
  refine z_arg (pc := 593) (j := 1) (ji := 1) Z (by decide +kernel) (by omega) (by decide +kernel) ?_
  refine z_arg (pc := 598) (j := 2) (ji := 2) Z (by decide +kernel) (by omega) (by decide +kernel) ?_
  refine z_ci (pc := 603) (idx := 57) (p1 := 403) (ci := 3) (as := [.int (xs (k + 1)), .int (xs (k + 2))]) (st := []) Z (ev_X3_thing (xs (k + 1)) (xs (k + 2)) n (r, n1) h1) mw_X3_thing (by decide +kernel) (by decide +kernel) (by decide) rfl rfl (by decide) rfl (Nat.le_of_ble_eq_true rfl) ?_
  refine z_a2 (pc := 606) Z (by decide +kernel) ?_
  refine z_arg (pc := 607) (j := 1) (ji := 1) Z (by decide +kernel) (by omega) (by decide +kernel) ?_
  refine z_arg (pc := 612) (j := 2) (ji := 2) Z (by decide +kernel) (by omega) (by decide +kernel) ?_
  refine z_ci (pc := 617) (idx := 60) (p1 := 999) (ci := 4) (as := [.int (xs (k + 1)), .int (xs (k + 2))]) (st := [.int r]) Z (ev_X4_thing (xs (k + 1)) (xs (k + 2)) n1 (r, n2) h2) mw_X4_thing (by decide +kernel) (by decide +kernel) (by decide) rfl rfl (by decide) rfl (Nat.le_of_ble_eq_true rfl) ?_
  exact z_eq (pc := 620) (off := 958) Z (by decide +kernel) (by decide) (next G n2 Z h3)
theorem zc_11 {p : Program} {l : Launch} {e : Env} {s : State} {m : MethodId} {below : List Frame} {meth : Method} {c : Code} {G : xG} {b L : Nat} {xs : Nat → Int32} {k : Nat} {n : xN} (Z : zCx p s m meth c G b L xs) (hk : k + 6 ≤ L) (hI : Inv n) (next : zN p l e s m below meth c b L xs k) : zG p l e s m below meth c b G 625 (zLv k) [] (xU n) := by
  obtain ⟨r, n1, n2, h1, h2, h3⟩ := op_clause 20000 (by decide) (xs (k + 1)) (xs (k + 2)) n hI
  refine z_a1 (pc := 625) Z (by decide +kernel) ?_
  refine z_arg (pc := 626) (j := 1) (ji := 1) Z (by decide +kernel) (by omega) (by decide +kernel) ?_
  refine z_arg (pc := 631) (j := 2) (ji := 2) Z (by decide +kernel) (by omega) (by decide +kernel) ?_
  refine z_ci (pc := 636) (idx := 61) (p1 := 407) (ci := 3) (as := [.int (xs (k + 1)), .int (xs (k + 2))]) (st := []) Z (ev_X3_clause 20000 (xs (k + 1)) (xs (k + 2)) n (r, n1) h1) mw_X3_clause (by decide +kernel) (by decide +kernel) (by decide) rfl rfl (by decide) rfl (Nat.le_of_ble_eq_true rfl) ?_
  refine z_a2 (pc := 639) Z (by decide +kernel) ?_
  refine z_arg (pc := 640) (j := 1) (ji := 1) Z (by decide +kernel) (by omega) (by decide +kernel) ?_
  refine z_arg (pc := 645) (j := 2) (ji := 2) Z (by decide +kernel) (by omega) (by decide +kernel) ?_
  refine z_ci (pc := 650) (idx := 64) (p1 := 1004) (ci := 4) (as := [.int (xs (k + 1)), .int (xs (k + 2))]) (st := [.int r]) Z (ev_X4_clause 20000 (xs (k + 1)) (xs (k + 2)) n1 (r, n2) h2) mw_X4_clause (by decide +kernel) (by decide +kernel) (by decide) rfl rfl (by decide) rfl (Nat.le_of_ble_eq_true rfl) ?_
  exact z_eq (pc := 653) (off := 925) Z (by decide +kernel) (by decide) (next G n2 Z h3)
theorem zc_12 {p : Program} {l : Launch} {e : Env} {s : State} {m : MethodId} {below : List Frame} {meth : Method} {c : Code} {G : xG} {b L : Nat} {xs : Nat → Int32} {k : Nat} {n : xN} (Z : zCx p s m meth c G b L xs) (hk : k + 6 ≤ L) (hI : Inv n) (next : zN p l e s m below meth c b L xs k) : zG p l e s m below meth c b G 658 (zLv k) [] (xU n) := by
  obtain ⟨r, n1, n2, h1, h2, h3⟩ := op_mark 20000 (by decide) (xs (k + 1)) (xs (k + 2)) n hI
  refine z_a1 (pc := 658) Z (by decide +kernel) ?_
  refine z_arg (pc := 659) (j := 1) (ji := 1) Z (by decide +kernel) (by omega) (by decide +kernel) ?_
  refine z_arg (pc := 664) (j := 2) (ji := 2) Z (by decide +kernel) (by omega) (by decide +kernel) ?_
  refine z_ci (pc := 669) (idx := 65) (p1 := 454) (ci := 3) (as := [.int (xs (k + 1)), .int (xs (k + 2))]) (st := []) Z (ev_X3_mark 20000 (xs (k + 1)) (xs (k + 2)) n (r, n1) h1) mw_X3_mark (by decide +kernel) (by decide +kernel) (by decide) rfl rfl (by decide) rfl (Nat.le_of_ble_eq_true rfl) ?_
  refine z_a2 (pc := 672) Z (by decide +kernel) ?_
  refine z_arg (pc := 673) (j := 1) (ji := 1) Z (by decide +kernel) (by omega) (by decide +kernel) ?_
  refine z_arg (pc := 678) (j := 2) (ji := 2) Z (by decide +kernel) (by omega) (by decide +kernel) ?_
  refine z_ci (pc := 683) (idx := 68) (p1 := 1059) (ci := 4) (as := [.int (xs (k + 1)), .int (xs (k + 2))]) (st := [.int r]) Z (ev_X4_mark 20000 (xs (k + 1)) (xs (k + 2)) n1 (r, n2) h2) mw_X4_mark (by decide +kernel) (by decide +kernel) (by decide) rfl rfl (by decide) rfl (Nat.le_of_ble_eq_true rfl) ?_
  exact z_eq (pc := 686) (off := 892) Z (by decide +kernel) (by decide) (next G n2 Z h3)
theorem zc_13 {p : Program} {l : Launch} {e : Env} {s : State} {m : MethodId} {below : List Frame} {meth : Method} {c : Code} {G : xG} {b L : Nat} {xs : Nat → Int32} {k : Nat} {n : xN} (Z : zCx p s m meth c G b L xs) (hk : k + 6 ≤ L) (hI : Inv n) (next : zN p l e s m below meth c b L xs k) : zG p l e s m below meth c b G 691 (zLv k) [] (xU n) := by
  obtain ⟨r, h1, h2⟩ := op_border (xs (k + 1)) (xs (k + 2)) n hI
  refine z_a1 (pc := 691) Z (by decide +kernel) ?_
  refine z_arg (pc := 692) (j := 1) (ji := 1) Z (by decide +kernel) (by omega) (by decide +kernel) ?_
  refine z_arg (pc := 697) (j := 2) (ji := 2) Z (by decide +kernel) (by omega) (by decide +kernel) ?_
  refine z_ci (pc := 702) (idx := 69) (p1 := 484) (ci := 3) (as := [.int (xs (k + 1)), .int (xs (k + 2))]) (st := []) Z (ev_X3_border (xs (k + 1)) (xs (k + 2)) n r h1) mw_X3_border (by decide +kernel) (by decide +kernel) (by decide) rfl rfl (by decide) rfl (Nat.le_of_ble_eq_true rfl) ?_
  refine z_a2 (pc := 705) Z (by decide +kernel) ?_
  refine z_arg (pc := 706) (j := 1) (ji := 1) Z (by decide +kernel) (by omega) (by decide +kernel) ?_
  refine z_arg (pc := 711) (j := 2) (ji := 2) Z (by decide +kernel) (by omega) (by decide +kernel) ?_
  refine z_ci (pc := 716) (idx := 72) (p1 := 1075) (ci := 4) (as := [.int (xs (k + 1)), .int (xs (k + 2))]) (st := [.int r]) Z (ev_X4_border (xs (k + 1)) (xs (k + 2)) n r h2) mw_X4_border (by decide +kernel) (by decide +kernel) (by decide) rfl rfl (by decide) rfl (Nat.le_of_ble_eq_true rfl) ?_
  exact z_eq (pc := 719) (off := 859) Z (by decide +kernel) (by decide) (next G n Z hI)
theorem zc_14 {p : Program} {l : Launch} {e : Env} {s : State} {m : MethodId} {below : List Frame} {meth : Method} {c : Code} {G : xG} {b L : Nat} {xs : Nat → Int32} {k : Nat} {n : xN} (Z : zCx p s m meth c G b L xs) (hk : k + 6 ≤ L) (hI : Inv n) (next : zN p l e s m below meth c b L xs k) : zG p l e s m below meth c b G 724 (zLv k) [] (xU n) := by
  obtain ⟨r, n1, n2, h1, h2, h3⟩ := op_strike 20000 (by decide) (xs (k + 1)) (xs (k + 2)) n hI
  refine z_a1 (pc := 724) Z (by decide +kernel) ?_
  refine z_arg (pc := 725) (j := 1) (ji := 1) Z (by decide +kernel) (by omega) (by decide +kernel) ?_
  refine z_arg (pc := 730) (j := 2) (ji := 2) Z (by decide +kernel) (by omega) (by decide +kernel) ?_
  refine z_ci (pc := 735) (idx := 73) (p1 := 492) (ci := 3) (as := [.int (xs (k + 1)), .int (xs (k + 2))]) (st := []) Z (ev_X3_strike (xs (k + 1)) (xs (k + 2)) n (r, n1) h1) mw_X3_strike (by decide +kernel) (by decide +kernel) (by decide) rfl rfl (by decide) rfl (Nat.le_of_ble_eq_true rfl) ?_
  refine z_a2 (pc := 738) Z (by decide +kernel) ?_
  refine z_arg (pc := 739) (j := 1) (ji := 1) Z (by decide +kernel) (by omega) (by decide +kernel) ?_
  refine z_arg (pc := 744) (j := 2) (ji := 2) Z (by decide +kernel) (by omega) (by decide +kernel) ?_
  refine z_ci (pc := 749) (idx := 76) (p1 := 1082) (ci := 4) (as := [.int (xs (k + 1)), .int (xs (k + 2))]) (st := [.int r]) Z (ev_X4_strike 20000 (xs (k + 1)) (xs (k + 2)) n1 (r, n2) h2) mw_X4_strike (by decide +kernel) (by decide +kernel) (by decide) rfl rfl (by decide) rfl (Nat.le_of_ble_eq_true rfl) ?_
  exact z_eq (pc := 752) (off := 826) Z (by decide +kernel) (by decide) (next G n2 Z h3)
theorem zc_15 {p : Program} {l : Launch} {e : Env} {s : State} {m : MethodId} {below : List Frame} {meth : Method} {c : Code} {G : xG} {b L : Nat} {xs : Nat → Int32} {k : Nat} {n : xN} (Z : zCx p s m meth c G b L xs) (hk : k + 6 ≤ L) (hI : Inv n) (next : zN p l e s m below meth c b L xs k) : zG p l e s m below meth c b G 757 (zLv k) [] (xU n) := by
  obtain ⟨r, n1, n2, h1, h2, h3⟩ := op_move 20000 (by decide) (xs (k + 1)) (xs (k + 2)) (xs (k + 3)) n hI
  refine z_a1 (pc := 757) Z (by decide +kernel) ?_
  refine z_arg (pc := 758) (j := 1) (ji := 1) Z (by decide +kernel) (by omega) (by decide +kernel) ?_
  refine z_arg (pc := 763) (j := 2) (ji := 2) Z (by decide +kernel) (by omega) (by decide +kernel) ?_
  refine z_arg (pc := 768) (j := 3) (ji := 3) Z (by decide +kernel) (by omega) (by decide +kernel) ?_
  refine z_ci (pc := 773) (idx := 77) (p1 := 515) (ci := 3) (as := [.int (xs (k + 1)), .int (xs (k + 2)), .int (xs (k + 3))]) (st := []) Z (ev_X3_move (xs (k + 1)) (xs (k + 2)) (xs (k + 3)) n (r, n1) h1) mw_X3_move (by decide +kernel) (by decide +kernel) (by decide) rfl rfl (by decide) rfl (Nat.le_of_ble_eq_true rfl) ?_
  refine z_a2 (pc := 776) Z (by decide +kernel) ?_
  refine z_arg (pc := 777) (j := 1) (ji := 1) Z (by decide +kernel) (by omega) (by decide +kernel) ?_
  refine z_arg (pc := 782) (j := 2) (ji := 2) Z (by decide +kernel) (by omega) (by decide +kernel) ?_
  refine z_arg (pc := 787) (j := 3) (ji := 3) Z (by decide +kernel) (by omega) (by decide +kernel) ?_
  refine z_ci (pc := 792) (idx := 80) (p1 := 1093) (ci := 4) (as := [.int (xs (k + 1)), .int (xs (k + 2)), .int (xs (k + 3))]) (st := [.int r]) Z (ev_X4_move 20000 (xs (k + 1)) (xs (k + 2)) (xs (k + 3)) n1 (r, n2) h2) mw_X4_move (by decide +kernel) (by decide +kernel) (by decide) rfl rfl (by decide) rfl (Nat.le_of_ble_eq_true rfl) ?_
  exact z_eq (pc := 795) (off := 783) Z (by decide +kernel) (by decide) (next G n2 Z h3)
theorem zc_16 {p : Program} {l : Launch} {e : Env} {s : State} {m : MethodId} {below : List Frame} {meth : Method} {c : Code} {G : xG} {b L : Nat} {xs : Nat → Int32} {k : Nat} {n : xN} (Z : zCx p s m meth c G b L xs) (hk : k + 6 ≤ L) (hI : Inv n) (next : zN p l e s m below meth c b L xs k) : zG p l e s m below meth c b G 800 (zLv k) [] (xU n) := by
  obtain ⟨r, n1, n2, h1, h2, h3⟩ := op_undo 20000 (by decide) (xs (k + 1)) n hI
  refine z_a1 (pc := 800) Z (by decide +kernel) ?_
  refine z_arg (pc := 801) (j := 1) (ji := 1) Z (by decide +kernel) (by omega) (by decide +kernel) ?_
  refine z_ci (pc := 806) (idx := 81) (p1 := 530) (ci := 3) (as := [.int (xs (k + 1))]) (st := []) Z (ev_X3_undo 20000 (xs (k + 1)) n (r, n1) h1) mw_X3_undo (by decide +kernel) (by decide +kernel) (by decide) rfl rfl (by decide) rfl (Nat.le_of_ble_eq_true rfl) ?_
  refine z_a2 (pc := 809) Z (by decide +kernel) ?_
  refine z_arg (pc := 810) (j := 1) (ji := 1) Z (by decide +kernel) (by omega) (by decide +kernel) ?_
  refine z_ci (pc := 815) (idx := 84) (p1 := 1104) (ci := 4) (as := [.int (xs (k + 1))]) (st := [.int r]) Z (ev_X4_undo 20000 (xs (k + 1)) n1 (r, n2) h2) mw_X4_undo (by decide +kernel) (by decide +kernel) (by decide) rfl rfl (by decide) rfl (Nat.le_of_ble_eq_true rfl) ?_
  exact z_eq (pc := 818) (off := 760) Z (by decide +kernel) (by decide) (next G n2 Z h3)
