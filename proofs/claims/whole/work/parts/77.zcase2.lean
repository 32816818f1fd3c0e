/-! ===== the law's cases, on ===== -/
theorem zc_17 {p : Program} {l : Launch} {e : Env} {s : State} {m : MethodId} {below : List Frame} {meth : Method} {c : Code} {G : xG} {b L : Nat} {xs : Nat → Int32} {k : Nat} {n : xN} (Z : zCx p s m meth c G b L xs) (hk : k + 6 ≤ L) (hI : Inv n) (next : zN p l e s m below meth c b L xs k) : zG p l e s m below meth c b G 823 (zLv k) [] (xU n) := by
  obtain ⟨r, n1, n2, h1, h2, h3⟩ := op_keep 20000 (by decide) (xs (k + 1)) n hI
  refine z_a1 (pc := 823) Z (by decide +kernel) ?_
  refine z_arg (pc := 824) (j := 1) (ji := 1) Z (by decide +kernel) (by omega) (by decide +kernel) ?_
  refine z_ci (pc := 829) (idx := 85) (p1 := 538) (ci := 3) (as := [.int (xs (k + 1))]) (st := []) Z (ev_X3_keep (xs (k + 1)) n (r, n1) h1) mw_X3_keep (by decide +kernel) (by decide +kernel) (by decide) rfl rfl (by decide) rfl (Nat.le_of_ble_eq_true rfl) ?_
  refine z_a2 (pc := 832) Z (by decide +kernel) ?_
  refine z_arg (pc := 833) (j := 1) (ji := 1) Z (by decide +kernel) (by omega) (by decide +kernel) ?_
  refine z_ci (pc := 838) (idx := 88) (p1 := 1108) (ci := 4) (as := [.int (xs (k + 1))]) (st := [.int r]) Z (ev_X4_keep 20000 (xs (k + 1)) n1 (r, n2) h2) mw_X4_keep (by decide +kernel) (by decide +kernel) (by decide) rfl rfl (by decide) rfl (Nat.le_of_ble_eq_true rfl) ?_
  exact z_eq (pc := 841) (off := 737) Z (by decide +kernel) (by decide) (next G n2 Z h3)
theorem zc_18 {p : Program} {l : Launch} {e : Env} {s : State} {m : MethodId} {below : List Frame} {meth : Method} {c : Code} {G : xG} {b L : Nat} {xs : Nat → Int32} {k : Nat} {n : xN} (Z : zCx p s m meth c G b L xs) (hk : k + 6 ≤ L) (hI : Inv n) (next : zN p l e s m below meth c b L xs k) : zG p l e s m below meth c b G 846 (zLv k) [] (xU n) := by
  obtain ⟨r, n1, n2, h1, h2, h3⟩ := op_on 20000 (by decide) (xs (k + 1)) n hI
  refine z_a1 (pc := 846) Z (by decide +kernel) ?_
  refine z_arg (pc := 847) (j := 1) (ji := 1) Z (by decide +kernel) (by omega) (by decide +kernel) ?_
  refine z_ci (pc := 852) (idx := 89) (p1 := 550) (ci := 3) (as := [.int (xs (k + 1))]) (st := []) Z (ev_X3_on (xs (k + 1)) n (r, n1) h1) mw_X3_on (by decide +kernel) (by decide +kernel) (by decide) rfl rfl (by decide) rfl (Nat.le_of_ble_eq_true rfl) ?_
  refine z_a2 (pc := 855) Z (by decide +kernel) ?_
  refine z_arg (pc := 856) (j := 1) (ji := 1) Z (by decide +kernel) (by omega) (by decide +kernel) ?_
  refine z_ci (pc := 861) (idx := 92) (p1 := 1117) (ci := 4) (as := [.int (xs (k + 1))]) (st := [.int r]) Z (ev_X4_on 20000 (xs (k + 1)) n1 (r, n2) h2) mw_X4_on (by decide +kernel) (by decide +kernel) (by decide) rfl rfl (by decide) rfl (Nat.le_of_ble_eq_true rfl) ?_
  exact z_eq (pc := 864) (off := 714) Z (by decide +kernel) (by decide) (next G n2 Z h3)
theorem zc_19 {p : Program} {l : Launch} {e : Env} {s : State} {m : MethodId} {below : List Frame} {meth : Method} {c : Code} {G : xG} {b L : Nat} {xs : Nat → Int32} {k : Nat} {n : xN} (Z : zCx p s m meth c G b L xs) (hk : k + 6 ≤ L) (hI : Inv n) (next : zN p l e s m below meth c b L xs k) : zG p l e s m below meth c b G 869 (zLv k) [] (xU n) := by
  obtain ⟨r, h1, h2⟩ := op_value 20000 (by decide) (xs (k + 1)) (xs (k + 2)) n hI
  refine z_a1 (pc := 869) Z (by decide +kernel) ?_
  refine z_arg (pc := 870) (j := 1) (ji := 1) Z (by decide +kernel) (by omega) (by decide +kernel) ?_
  refine z_arg (pc := 875) (j := 2) (ji := 2) Z (by decide +kernel) (by omega) (by decide +kernel) ?_
  refine z_ci (pc := 880) (idx := 93) (p1 := 554) (ci := 3) (as := [.int (xs (k + 1)), .int (xs (k + 2))]) (st := []) Z (ev_X3_value (xs (k + 1)) (xs (k + 2)) n r h1) mw_X3_value (by decide +kernel) (by decide +kernel) (by decide) rfl rfl (by decide) rfl (Nat.le_of_ble_eq_true rfl) ?_
  refine z_a2 (pc := 883) Z (by decide +kernel) ?_
  refine z_arg (pc := 884) (j := 1) (ji := 1) Z (by decide +kernel) (by omega) (by decide +kernel) ?_
  refine z_arg (pc := 889) (j := 2) (ji := 2) Z (by decide +kernel) (by omega) (by decide +kernel) ?_
  refine z_ci (pc := 894) (idx := 96) (p1 := 1121) (ci := 4) (as := [.int (xs (k + 1)), .int (xs (k + 2))]) (st := [.int r]) Z (ev_X4_value 20000 (xs (k + 1)) (xs (k + 2)) n r h2) mw_X4_value (by decide +kernel) (by decide +kernel) (by decide) rfl rfl (by decide) rfl (Nat.le_of_ble_eq_true rfl) ?_
  exact z_eq (pc := 897) (off := 681) Z (by decide +kernel) (by decide) (next G n Z hI)
theorem zc_20 {p : Program} {l : Launch} {e : Env} {s : State} {m : MethodId} {below : List Frame} {meth : Method} {c : Code} {G : xG} {b L : Nat} {xs : Nat → Int32} {k : Nat} {n : xN} (Z : zCx p s m meth c G b L xs) (hk : k + 6 ≤ L) (hI : Inv n) (next : zN p l e s m below meth c b L xs k) : zG p l e s m below meth c b G 902 (zLv k) [] (xU n) := by
  obtain ⟨r, h1, h2⟩ := op_cost 20000 (by decide) (xs (k + 1)) n hI
  refine z_a1 (pc := 902) Z (by decide +kernel) ?_
  refine z_arg (pc := 903) (j := 1) (ji := 1) Z (by decide +kernel) (by omega) (by decide +kernel) ?_
  refine z_ci (pc := 908) (idx := 97) (p1 := 562) (ci := 3) (as := [.int (xs (k + 1))]) (st := []) Z (ev_X3_cost (xs (k + 1)) n r h1) mw_X3_cost (by decide +kernel) (by decide +kernel) (by decide) rfl rfl (by decide) rfl (Nat.le_of_ble_eq_true rfl) ?_
  refine z_a2 (pc := 911) Z (by decide +kernel) ?_
  refine z_arg (pc := 912) (j := 1) (ji := 1) Z (by decide +kernel) (by omega) (by decide +kernel) ?_
  refine z_ci (pc := 917) (idx := 100) (p1 := 1129) (ci := 4) (as := [.int (xs (k + 1))]) (st := [.int r]) Z (ev_X4_cost 20000 (xs (k + 1)) n r h2) mw_X4_cost (by decide +kernel) (by decide +kernel) (by decide) rfl rfl (by decide) rfl (Nat.le_of_ble_eq_true rfl) ?_
  exact z_eq (pc := 920) (off := 658) Z (by decide +kernel) (by decide) (next G n Z hI)
theorem zc_21 {p : Program} {l : Launch} {e : Env} {s : State} {m : MethodId} {below : List Frame} {meth : Method} {c : Code} {G : xG} {b L : Nat} {xs : Nat → Int32} {k : Nat} {n : xN} (Z : zCx p s m meth c G b L xs) (hk : k + 6 ≤ L) (hI : Inv n) (next : zN p l e s m below meth c b L xs k) : zG p l e s m below meth c b G 925 (zLv k) [] (xU n) := by
  obtain ⟨r, n1, n2, h1, h2, h3⟩ := op_holds 20000 (by decide) (xs (k + 1)) n hI
  refine z_a1 (pc := 925) Z (by decide +kernel) ?_
  refine z_arg (pc := 926) (j := 1) (ji := 1) Z (by decide +kernel) (by omega) (by decide +kernel) ?_
  refine z_ci (pc := 931) (idx := 101) (p1 := 567) (ci := 3) (as := [.int (xs (k + 1))]) (st := []) Z (ev_X3_holds 20000 (xs (k + 1)) n (r, n1) h1) mw_X3_holds (by decide +kernel) (by decide +kernel) (by decide) rfl rfl (by decide) rfl (Nat.le_of_ble_eq_true rfl) ?_
  refine z_a2 (pc := 934) Z (by decide +kernel) ?_
  refine z_arg (pc := 935) (j := 1) (ji := 1) Z (by decide +kernel) (by omega) (by decide +kernel) ?_
  refine z_ci (pc := 940) (idx := 104) (p1 := 1137) (ci := 4) (as := [.int (xs (k + 1))]) (st := [.int r]) Z (ev_X4_holds 20000 (xs (k + 1)) n1 (r, n2) h2) mw_X4_holds (by decide +kernel) (by decide +kernel) (by decide) rfl rfl (by decide) rfl (Nat.le_of_ble_eq_true rfl) ?_
  exact z_eq (pc := 943) (off := 635) Z (by decide +kernel) (by decide) (next G n2 Z h3)
theorem zc_22 {p : Program} {l : Launch} {e : Env} {s : State} {m : MethodId} {below : List Frame} {meth : Method} {c : Code} {G : xG} {b L : Nat} {xs : Nat → Int32} {k : Nat} {n : xN} (Z : zCx p s m meth c G b L xs) (hk : k + 6 ≤ L) (hI : Inv n) (next : zN p l e s m below meth c b L xs k) : zG p l e s m below meth c b G 948 (zLv k) [] (xU n) := by
  obtain ⟨r, n1, n2, h1, h2, h3⟩ := op_good 20000 (by decide) n hI
  refine z_a1 (pc := 948) Z (by decide +kernel) ?_
  refine z_ci (pc := 949) (idx := 105) (p1 := 579) (ci := 3) (as := []) (st := []) Z (ev_X3_good 20000 n (r, n1) h1) mw_X3_good (by decide +kernel) (by decide +kernel) (by decide) rfl rfl (by decide) rfl (Nat.le_of_ble_eq_true rfl) ?_
  refine z_a2 (pc := 952) Z (by decide +kernel) ?_
  refine z_ci (pc := 953) (idx := 109) (p1 := 1153) (ci := 4) (as := []) (st := [.int r]) Z (ev_X4_good 20000 n1 (r, n2) h2) mw_X4_good (by decide +kernel) (by decide +kernel) (by decide) rfl rfl (by decide) rfl (Nat.le_of_ble_eq_true rfl) ?_
  exact z_eq (pc := 956) (off := 622) Z (by decide +kernel) (by decide) (next G n2 Z h3)
theorem zc_23 {p : Program} {l : Launch} {e : Env} {s : State} {m : MethodId} {below : List Frame} {meth : Method} {c : Code} {G : xG} {b L : Nat} {xs : Nat → Int32} {k : Nat} {n : xN} (Z : zCx p s m meth c G b L xs) (hk : k + 6 ≤ L) (hI : Inv n) (next : zN p l e s m below meth c b L xs k) : zG p l e s m below meth c b G 961 (zLv k) [] (xU n) := by
  obtain ⟨r, n1, n2, h1, h2, h3⟩ := op_cheapest 20000 (by decide) n hI
  refine z_a1 (pc := 961) Z (by decide +kernel) ?_
  refine z_ci (pc := 962) (idx := 110) (p1 := 587) (ci := 3) (as := []) (st := []) Z (ev_X3_cheapest 20000 n (r, n1) h1) mw_X3_cheapest (by decide +kernel) (by decide +kernel) (by decide) rfl rfl (by decide) rfl (Nat.le_of_ble_eq_true rfl) ?_
  refine z_a2 (pc := 965) Z (by decide +kernel) ?_
  refine z_ci (pc := 966) (idx := 113) (p1 := 1161) (ci := 4) (as := []) (st := [.int r]) Z (ev_X4_cheapest 20000 n1 (r, n2) h2) mw_X4_cheapest (by decide +kernel) (by decide +kernel) (by decide) rfl rfl (by decide) rfl (Nat.le_of_ble_eq_true rfl) ?_
  exact z_eq (pc := 969) (off := 609) Z (by decide +kernel) (by decide) (next G n2 Z h3)
theorem zc_24 {p : Program} {l : Launch} {e : Env} {s : State} {m : MethodId} {below : List Frame} {meth : Method} {c : Code} {G : xG} {b L : Nat} {xs : Nat → Int32} {k : Nat} {n : xN} (Z : zCx p s m meth c G b L xs) (hk : k + 6 ≤ L) (hI : Inv n) (next : zN p l e s m below meth c b L xs k) : zG p l e s m below meth c b G 974 (zLv k) [] (xU n) := by
  obtain ⟨r, n1, n2, h1, h2, h3⟩ := op_fewest 20000 (by decide) n hI
  refine z_a1 (pc := 974) Z (by decide +kernel) ?_
  refine z_ci (pc := 975) (idx := 114) (p1 := 596) (ci := 3) (as := []) (st := []) Z (ev_X3_fewest 20000 n (r, n1) h1) mw_X3_fewest (by decide +kernel) (by decide +kernel) (by decide) rfl rfl (by decide) rfl (Nat.le_of_ble_eq_true rfl) ?_
  refine z_a2 (pc := 978) Z (by decide +kernel) ?_
  refine z_ci (pc := 979) (idx := 117) (p1 := 1169) (ci := 4) (as := []) (st := [.int r]) Z (ev_X4_fewest 20000 n1 (r, n2) h2) mw_X4_fewest (by decide +kernel) (by decide +kernel) (by decide) rfl rfl (by decide) rfl (Nat.le_of_ble_eq_true rfl) ?_
  exact z_eq (pc := 982) (off := 596) Z (by decide +kernel) (by decide) (next G n2 Z h3)
theorem zc_25 {p : Program} {l : Launch} {e : Env} {s : State} {m : MethodId} {below : List Frame} {meth : Method} {c : Code} {G : xG} {b L : Nat} {xs : Nat → Int32} {k : Nat} {n : xN} (Z : zCx p s m meth c G b L xs) (hk : k + 6 ≤ L) (hI : Inv n) (next : zN p l e s m below meth c b L xs k) : zG p l e s m below meth c b G 987 (zLv k) [] (xU n) := by
  obtain ⟨r, n1, n2, h1, h2, h3⟩ := op_nearest 20000 (by decide) n hI
  refine z_a1 (pc := 987) Z (by decide +kernel) ?_
  refine z_ci (pc := 988) (idx := 118) (p1 := 600) (ci := 3) (as := []) (st := []) Z (ev_X3_nearest 20000 n (r, n1) h1) mw_X3_nearest (by decide +kernel) (by decide +kernel) (by decide) rfl rfl (by decide) rfl (Nat.le_of_ble_eq_true rfl) ?_
  refine z_a2 (pc := 991) Z (by decide +kernel) ?_
  refine z_ci (pc := 992) (idx := 121) (p1 := 1173) (ci := 4) (as := []) (st := [.int r]) Z (ev_X4_nearest 20000 n1 (r, n2) h2) mw_X4_nearest (by decide +kernel) (by decide +kernel) (by decide) rfl rfl (by decide) rfl (Nat.le_of_ble_eq_true rfl) ?_
  exact z_eq (pc := 995) (off := 583) Z (by decide +kernel) (by decide) (next G n2 Z h3)
theorem zc_26 {p : Program} {l : Launch} {e : Env} {s : State} {m : MethodId} {below : List Frame} {meth : Method} {c : Code} {G : xG} {b L : Nat} {xs : Nat → Int32} {k : Nat} {n : xN} (Z : zCx p s m meth c G b L xs) (hk : k + 6 ≤ L) (hI : Inv n) (next : zN p l e s m below meth c b L xs k) : zG p l e s m below meth c b G 1000 (zLv k) [] (xU n) := by
  obtain ⟨r, h1, h2⟩ := op_tight 20000 (by decide) (xs (k + 1)) n hI
  refine z_a1 (pc := 1000) Z (by decide +kernel) ?_
  refine z_arg (pc := 1001) (j := 1) (ji := 1) Z (by decide +kernel) (by omega) (by decide +kernel) ?_
  refine z_ci (pc := 1006) (idx := 122) (p1 := 604) (ci := 3) (as := [.int (xs (k + 1))]) (st := []) Z (ev_X3_tight 20000 (xs (k + 1)) n r h1) mw_X3_tight (by decide +kernel) (by decide +kernel) (by decide) rfl rfl (by decide) rfl (Nat.le_of_ble_eq_true rfl) ?_
  refine z_a2 (pc := 1009) Z (by decide +kernel) ?_
  refine z_arg (pc := 1010) (j := 1) (ji := 1) Z (by decide +kernel) (by omega) (by decide +kernel) ?_
  refine z_ci (pc := 1015) (idx := 125) (p1 := 1177) (ci := 4) (as := [.int (xs (k + 1))]) (st := [.int r]) Z (ev_X4_tight 20000 (xs (k + 1)) n r h2) mw_X4_tight (by decide +kernel) (by decide +kernel) (by decide) rfl rfl (by decide) rfl (Nat.le_of_ble_eq_true rfl) ?_
  exact z_eq (pc := 1018) (off := 560) Z (by decide +kernel) (by decide) (next G n Z hI)
theorem zc_27 {p : Program} {l : Launch} {e : Env} {s : State} {m : MethodId} {below : List Frame} {meth : Method} {c : Code} {G : xG} {b L : Nat} {xs : Nat → Int32} {k : Nat} {n : xN} (Z : zCx p s m meth c G b L xs) (hk : k + 6 ≤ L) (hI : Inv n) (next : zN p l e s m below meth c b L xs k) : zG p l e s m below meth c b G 1023 (zLv k) [] (xU n) := by
  obtain ⟨r, n1, h1, h2, h3⟩ := op_clash 20000 (by decide) (xs (k + 1)) n hI
  refine z_a1 (pc := 1023) Z (by decide +kernel) ?_
  refine z_arg (pc := 1024) (j := 1) (ji := 1) Z (by decide +kernel) (by omega) (by decide +kernel) ?_
  refine z_ci (pc := 1029) (idx := 126) (p1 := 613) (ci := 3) (as := [.int (xs (k + 1))]) (st := []) Z (ev_X3_clash 20000 (xs (k + 1)) n (r, n1) h1) mw_X3_clash (by decide +kernel) (by decide +kernel) (by decide) rfl rfl (by decide) rfl (Nat.le_of_ble_eq_true rfl) ?_
  refine z_a2 (pc := 1032) Z (by decide +kernel) ?_
  refine z_arg (pc := 1033) (j := 1) (ji := 1) Z (by decide +kernel) (by omega) (by decide +kernel) ?_
  refine z_ci (pc := 1038) (idx := 129) (p1 := 1181) (ci := 4) (as := [.int (xs (k + 1))]) (st := [.int r]) Z (ev_X4_clash 20000 (xs (k + 1)) n1 r h2) mw_X4_clash (by decide +kernel) (by decide +kernel) (by decide) rfl rfl (by decide) rfl (Nat.le_of_ble_eq_true rfl) ?_
  exact z_eq (pc := 1041) (off := 537) Z (by decide +kernel) (by decide) (next G n1 Z h3)
theorem zc_28 {p : Program} {l : Launch} {e : Env} {s : State} {m : MethodId} {below : List Frame} {meth : Method} {c : Code} {G : xG} {b L : Nat} {xs : Nat → Int32} {k : Nat} {n : xN} (Z : zCx p s m meth c G b L xs) (hk : k + 6 ≤ L) (hI : Inv n) (next : zN p l e s m below meth c b L xs k) : zG p l e s m below meth c b G 1046 (zLv k) [] (xU n) := by
  obtain ⟨r, n1, n2, h1, h2, h3⟩ := op_two 20000 (by decide) n hI
  refine z_a1 (pc := 1046) Z (by decide +kernel) ?_
  refine z_ci (pc := 1047) (idx := 130) (p1 := 625) (ci := 3) (as := []) (st := []) Z (ev_X3_two 20000 n (r, n1) h1) mw_X3_two (by decide +kernel) (by decide +kernel) (by decide) rfl rfl (by decide) rfl (Nat.le_of_ble_eq_true rfl) ?_
  refine z_a2 (pc := 1050) Z (by decide +kernel) ?_
  refine z_ci (pc := 1051) (idx := 133) (p1 := 1189) (ci := 4) (as := []) (st := [.int r]) Z (ev_X4_two 20000 n1 (r, n2) h2) mw_X4_two (by decide +kernel) (by decide +kernel) (by decide) rfl rfl (by decide) rfl (Nat.le_of_ble_eq_true rfl) ?_
  exact z_eq (pc := 1054) (off := 524) Z (by decide +kernel) (by decide) (next G n2 Z h3)
theorem zc_29 {p : Program} {l : Launch} {e : Env} {s : State} {m : MethodId} {below : List Frame} {meth : Method} {c : Code} {G : xG} {b L : Nat} {xs : Nat → Int32} {k : Nat} {n : xN} (Z : zCx p s m meth c G b L xs) (hk : k + 6 ≤ L) (hI : Inv n) (next : zN p l e s m below meth c b L xs k) : zG p l e s m below meth c b G 1059 (zLv k) [] (xU n) := by
  obtain ⟨r, n1, n2, h1, h2, h3⟩ := op_least 20000 (by decide) n hI
  refine z_a1 (pc := 1059) Z (by decide +kernel) ?_
  refine z_ci (pc := 1060) (idx := 134) (p1 := 629) (ci := 3) (as := []) (st := []) Z (ev_X3_least 20000 n (r, n1) h1) mw_X3_least (by decide +kernel) (by decide +kernel) (by decide) rfl rfl (by decide) rfl (Nat.le_of_ble_eq_true rfl) ?_
  refine z_a2 (pc := 1063) Z (by decide +kernel) ?_
  refine z_ci (pc := 1064) (idx := 137) (p1 := 1193) (ci := 4) (as := []) (st := [.int r]) Z (ev_X4_least 20000 n1 (r, n2) h2) mw_X4_least (by decide +kernel) (by decide +kernel) (by decide) rfl rfl (by decide) rfl (Nat.le_of_ble_eq_true rfl) ?_
  exact z_eq (pc := 1067) (off := 511) Z (by decide +kernel) (by decide) (next G n2 Z h3)
theorem zc_30 {p : Program} {l : Launch} {e : Env} {s : State} {m : MethodId} {below : List Frame} {meth : Method} {c : Code} {G : xG} {b L : Nat} {xs : Nat → Int32} {k : Nat} {n : xN} (Z : zCx p s m meth c G b L xs) (hk : k + 6 ≤ L) (hI : Inv n) (next : zN p l e s m below meth c b L xs k) : zG p l e s m below meth c b G 1072 (zLv k) [] (xU n) := by
  obtain ⟨r, n1, n2, h1, h2, h3⟩ := op_relent 20000 (by decide) n hI
  refine z_a1 (pc := 1072) Z (by decide +kernel) ?_
  refine z_ci (pc := 1073) (idx := 138) (p1 := 633) (ci := 3) (as := []) (st := []) Z (ev_X3_relent 20000 n (r, n1) h1) mw_X3_relent (by decide +kernel) (by decide +kernel) (by decide) rfl rfl (by decide) rfl (Nat.le_of_ble_eq_true rfl) ?_
  refine z_a2 (pc := 1076) Z (by decide +kernel) ?_
  refine z_ci (pc := 1077) (idx := 141) (p1 := 1197) (ci := 4) (as := []) (st := [.int r]) Z (ev_X4_relent 20000 n1 (r, n2) h2) mw_X4_relent (by decide +kernel) (by decide +kernel) (by decide) rfl rfl (by decide) rfl (Nat.le_of_ble_eq_true rfl) ?_
  exact z_eq (pc := 1080) (off := 498) Z (by decide +kernel) (by decide) (next G n2 Z h3)
theorem zc_31 {p : Program} {l : Launch} {e : Env} {s : State} {m : MethodId} {below : List Frame} {meth : Method} {c : Code} {G : xG} {b L : Nat} {xs : Nat → Int32} {k : Nat} {n : xN} (Z : zCx p s m meth c G b L xs) (hk : k + 6 ≤ L) (hI : Inv n) (next : zN p l e s m below meth c b L xs k) : zG p l e s m below meth c b G 1085 (zLv k) [] (xU n) := by
  obtain ⟨r, n1, n2, h1, h2, h3⟩ := op_game 20000 (by decide) (xs (k + 1)) n hI
  refine z_a1 (pc := 1085) Z (by decide +kernel) ?_
  refine z_arg (pc := 1086) (j := 1) (ji := 1) Z (by decide +kernel) (by omega) (by decide +kernel) ?_
  refine z_ci (pc := 1091) (idx := 142) (p1 := 644) (ci := 3) (as := [.int (xs (k + 1))]) (st := []) Z (ev_X3_game 20000 (xs (k + 1)) n (r, n1) h1) mw_X3_game (by decide +kernel) (by decide +kernel) (by decide) rfl rfl (by decide) rfl (Nat.le_of_ble_eq_true rfl) ?_
  refine z_a2 (pc := 1094) Z (by decide +kernel) ?_
  refine z_arg (pc := 1095) (j := 1) (ji := 1) Z (by decide +kernel) (by omega) (by decide +kernel) ?_
  refine z_ci (pc := 1100) (idx := 145) (p1 := 1201) (ci := 4) (as := [.int (xs (k + 1))]) (st := [.int r]) Z (ev_X4_game 20000 (xs (k + 1)) n1 (r, n2) h2) mw_X4_game (by decide +kernel) (by decide +kernel) (by decide) rfl rfl (by decide) rfl (Nat.le_of_ble_eq_true rfl) ?_
  exact z_eq (pc := 1103) (off := 475) Z (by decide +kernel) (by decide) (next G n2 Z h3)
theorem zc_32 {p : Program} {l : Launch} {e : Env} {s : State} {m : MethodId} {below : List Frame} {meth : Method} {c : Code} {G : xG} {b L : Nat} {xs : Nat → Int32} {k : Nat} {n : xN} (Z : zCx p s m meth c G b L xs) (hk : k + 6 ≤ L) (hI : Inv n) (next : zN p l e s m below meth c b L xs k) : zG p l e s m below meth c b G 1108 (zLv k) [] (xU n) := by
  obtain ⟨r, n1, n2, h1, h2, h3⟩ := op_names 20000 (by decide) (xs (k + 1)) n hI
  refine z_a1 (pc := 1108) Z (by decide +kernel) ?_
  refine z_arg (pc := 1109) (j := 1) (ji := 1) Z (by decide +kernel) (by omega) (by decide +kernel) ?_
  refine z_ci (pc := 1114) (idx := 146) (p1 := 666) (ci := 3) (as := [.int (xs (k + 1))]) (st := []) Z (ev_X3_names 20000 (xs (k + 1)) n (r, n1) h1) mw_X3_names (by decide +kernel) (by decide +kernel) (by decide) rfl rfl (by decide) rfl (Nat.le_of_ble_eq_true rfl) ?_
  refine z_a2 (pc := 1117) Z (by decide +kernel) ?_
  refine z_arg (pc := 1118) (j := 1) (ji := 1) Z (by decide +kernel) (by omega) (by decide +kernel) ?_
  refine z_ci (pc := 1123) (idx := 149) (p1 := 1221) (ci := 4) (as := [.int (xs (k + 1))]) (st := [.int r]) Z (ev_X4_names 20000 (xs (k + 1)) n1 (r, n2) h2) mw_X4_names (by decide +kernel) (by decide +kernel) (by decide) rfl rfl (by decide) rfl (Nat.le_of_ble_eq_true rfl) ?_
  exact z_eq (pc := 1126) (off := 452) Z (by decide +kernel) (by decide) (next G n2 Z h3)
theorem zc_33 {p : Program} {l : Launch} {e : Env} {s : State} {m : MethodId} {below : List Frame} {meth : Method} {c : Code} {G : xG} {b L : Nat} {xs : Nat → Int32} {k : Nat} {n : xN} (Z : zCx p s m meth c G b L xs) (hk : k + 6 ≤ L) (hI : Inv n) (next : zN p l e s m below meth c b L xs k) : zG p l e s m below meth c b G 1131 (zLv k) [] (xU n) := by
  obtain ⟨r, n1, n2, h1, h2, h3⟩ := op_contradict 20000 (by decide) (xs (k + 1)) n hI
  refine z_a1 (pc := 1131) Z (by decide +kernel) ?_
  refine z_arg (pc := 1132) (j := 1) (ji := 1) Z (by decide +kernel) (by omega) (by decide +kernel) ?_
  refine z_ci (pc := 1137) (idx := 150) (p1 := 670) (ci := 3) (as := [.int (xs (k + 1))]) (st := []) Z (ev_X3_contradict 20000 (xs (k + 1)) n (r, n1) h1) mw_X3_contradict (by decide +kernel) (by decide +kernel) (by decide) rfl rfl (by decide) rfl (Nat.le_of_ble_eq_true rfl) ?_
  refine z_a2 (pc := 1140) Z (by decide +kernel) ?_
  refine z_arg (pc := 1141) (j := 1) (ji := 1) Z (by decide +kernel) (by omega) (by decide +kernel) ?_
  refine z_ci (pc := 1146) (idx := 153) (p1 := 1225) (ci := 4) (as := [.int (xs (k + 1))]) (st := [.int r]) Z (ev_X4_contradict 20000 (xs (k + 1)) n1 (r, n2) h2) mw_X4_contradict (by decide +kernel) (by decide +kernel) (by decide) rfl rfl (by decide) rfl (Nat.le_of_ble_eq_true rfl) ?_
  exact z_eq (pc := 1149) (off := 429) Z (by decide +kernel) (by decide) (next G n2 Z h3)
