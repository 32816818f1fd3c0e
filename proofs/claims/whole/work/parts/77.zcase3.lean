/-! ===== the law's cases, on ===== -/
theorem zc_34 {p : Program} {l : Launch} {e : Env} {s : State} {m : MethodId} {below : List Frame} {meth : Method} {c : Code} {G : xG} {b L : Nat} {xs : Nat → Int32} {k : Nat} {n : xN} (Z : zCx p s m meth c G b L xs) (hk : k + 6 ≤ L) (hI : Inv n) (next : zN p l e s m below meth c b L xs k) : zG p l e s m below meth c b G 1154 (zLv k) [] (xU n) := by
  obtain ⟨r, n1, n2, h1, h2, h3⟩ := op_fix 20000 (by decide) (xs (k + 1)) n hI
  refine z_a1 (pc := 1154) Z (by decide +kernel) ?_
  refine z_arg (pc := 1155) (j := 1) (ji := 1) Z (by decide +kernel) (by omega) (by decide +kernel) ?_
  refine z_ci (pc := 1160) (idx := 154) (p1 := 685) (ci := 3) (as := [.int (xs (k + 1))]) (st := []) Z (ev_X3_fix 20000 (xs (k + 1)) n (r, n1) h1) mw_X3_fix (by decide +kernel) (by decide +kernel) (by decide) rfl rfl (by decide) rfl (Nat.le_of_ble_eq_true rfl) ?_
  refine z_a2 (pc := 1163) Z (by decide +kernel) ?_
  refine z_arg (pc := 1164) (j := 1) (ji := 1) Z (by decide +kernel) (by omega) (by decide +kernel) ?_
  refine z_ci (pc := 1169) (idx := 157) (p1 := 1241) (ci := 4) (as := [.int (xs (k + 1))]) (st := [.int r]) Z (ev_X4_fix 20000 (xs (k + 1)) n1 (r, n2) h2) mw_X4_fix (by decide +kernel) (by decide +kernel) (by decide) rfl rfl (by decide) rfl (Nat.le_of_ble_eq_true rfl) ?_
  exact z_eq (pc := 1172) (off := 406) Z (by decide +kernel) (by decide) (next G n2 Z h3)
theorem zc_35 {p : Program} {l : Launch} {e : Env} {s : State} {m : MethodId} {below : List Frame} {meth : Method} {c : Code} {G : xG} {b L : Nat} {xs : Nat → Int32} {k : Nat} {n : xN} (Z : zCx p s m meth c G b L xs) (hk : k + 6 ≤ L) (hI : Inv n) (next : zN p l e s m below meth c b L xs k) : zG p l e s m below meth c b G 1177 (zLv k) [] (xU n) := by
  obtain ⟨r, n1, n2, h1, h2, h3⟩ := op_follows 20000 (by decide) (xs (k + 1)) (xs (k + 2)) (xs (k + 3)) n hI
  refine z_a1 (pc := 1177) Z (by decide +kernel) ?_
  refine z_arg (pc := 1178) (j := 1) (ji := 1) Z (by decide +kernel) (by omega) (by decide +kernel) ?_
  refine z_arg (pc := 1183) (j := 2) (ji := 2) Z (by decide +kernel) (by omega) (by decide +kernel) ?_
  refine z_arg (pc := 1188) (j := 3) (ji := 3) Z (by decide +kernel) (by omega) (by decide +kernel) ?_
  refine z_ci (pc := 1193) (idx := 158) (p1 := 697) (ci := 3) (as := [.int (xs (k + 1)), .int (xs (k + 2)), .int (xs (k + 3))]) (st := []) Z (ev_X3_follows 20000 (xs (k + 1)) (xs (k + 2)) (xs (k + 3)) n (r, n1) h1) mw_X3_follows (by decide +kernel) (by decide +kernel) (by decide) rfl rfl (by decide) rfl (Nat.le_of_ble_eq_true rfl) ?_
  refine z_a2 (pc := 1196) Z (by decide +kernel) ?_
  refine z_arg (pc := 1197) (j := 1) (ji := 1) Z (by decide +kernel) (by omega) (by decide +kernel) ?_
  refine z_arg (pc := 1202) (j := 2) (ji := 2) Z (by decide +kernel) (by omega) (by decide +kernel) ?_
  refine z_arg (pc := 1207) (j := 3) (ji := 3) Z (by decide +kernel) (by omega) (by decide +kernel) ?_
  refine z_ci (pc := 1212) (idx := 161) (p1 := 1249) (ci := 4) (as := [.int (xs (k + 1)), .int (xs (k + 2)), .int (xs (k + 3))]) (st := [.int r]) Z (ev_X4_follows 20000 (xs (k + 1)) (xs (k + 2)) (xs (k + 3)) n1 (r, n2) h2) mw_X4_follows (by decide +kernel) (by decide +kernel) (by decide) rfl rfl (by decide) rfl (Nat.le_of_ble_eq_true rfl) ?_
  exact z_eq (pc := 1215) (off := 363) Z (by decide +kernel) (by decide) (next G n2 Z h3)
theorem zc_36 {p : Program} {l : Launch} {e : Env} {s : State} {m : MethodId} {below : List Frame} {meth : Method} {c : Code} {G : xG} {b L : Nat} {xs : Nat → Int32} {k : Nat} {n : xN} (Z : zCx p s m meth c G b L xs) (hk : k + 6 ≤ L) (hI : Inv n) (next : zN p l e s m below meth c b L xs k) : zG p l e s m below meth c b G 1220 (zLv k) [] (xU n) := by
  obtain ⟨r, n1, n2, h1, h2, h3⟩ := op_borders 20000 (by decide) (xs (k + 1)) (xs (k + 2)) n hI
  refine z_a1 (pc := 1220) Z (by decide +kernel) ?_
  refine z_arg (pc := 1221) (j := 1) (ji := 1) Z (by decide +kernel) (by omega) (by decide +kernel) ?_
  refine z_arg (pc := 1226) (j := 2) (ji := 2) Z (by decide +kernel) (by omega) (by decide +kernel) ?_
  refine z_ci (pc := 1231) (idx := 162) (p1 := 701) (ci := 3) (as := [.int (xs (k + 1)), .int (xs (k + 2))]) (st := []) Z (ev_X3_borders 20000 (xs (k + 1)) (xs (k + 2)) n (r, n1) h1) mw_X3_borders (by decide +kernel) (by decide +kernel) (by decide) rfl rfl (by decide) rfl (Nat.le_of_ble_eq_true rfl) ?_
  refine z_a2 (pc := 1234) Z (by decide +kernel) ?_
  refine z_arg (pc := 1235) (j := 1) (ji := 1) Z (by decide +kernel) (by omega) (by decide +kernel) ?_
  refine z_arg (pc := 1240) (j := 2) (ji := 2) Z (by decide +kernel) (by omega) (by decide +kernel) ?_
  refine z_ci (pc := 1245) (idx := 165) (p1 := 1253) (ci := 4) (as := [.int (xs (k + 1)), .int (xs (k + 2))]) (st := [.int r]) Z (ev_X4_borders 20000 (xs (k + 1)) (xs (k + 2)) n1 (r, n2) h2) mw_X4_borders (by decide +kernel) (by decide +kernel) (by decide) rfl rfl (by decide) rfl (Nat.le_of_ble_eq_true rfl) ?_
  exact z_eq (pc := 1248) (off := 330) Z (by decide +kernel) (by decide) (next G n2 Z h3)
theorem zc_37 {p : Program} {l : Launch} {e : Env} {s : State} {m : MethodId} {below : List Frame} {meth : Method} {c : Code} {G : xG} {b L : Nat} {xs : Nat → Int32} {k : Nat} {n : xN} (Z : zCx p s m meth c G b L xs) (hk : k + 6 ≤ L) (hI : Inv n) (next : zN p l e s m below meth c b L xs k) : zG p l e s m below meth c b G 1253 (zLv k) [] (xU n) := by
  obtain ⟨r, n1, n2, h1, h2, h3⟩ := op_worth 20000 (by decide) (xs (k + 1)) n hI
  refine z_a1 (pc := 1253) Z (by decide +kernel) ?_
  refine z_arg (pc := 1254) (j := 1) (ji := 1) Z (by decide +kernel) (by omega) (by decide +kernel) ?_
  refine z_ci (pc := 1259) (idx := 166) (p1 := 705) (ci := 3) (as := [.int (xs (k + 1))]) (st := []) Z (ev_X3_worth 20000 (xs (k + 1)) n (r, n1) h1) mw_X3_worth (by decide +kernel) (by decide +kernel) (by decide) rfl rfl (by decide) rfl (Nat.le_of_ble_eq_true rfl) ?_
  refine z_a2 (pc := 1262) Z (by decide +kernel) ?_
  refine z_arg (pc := 1263) (j := 1) (ji := 1) Z (by decide +kernel) (by omega) (by decide +kernel) ?_
  refine z_ci (pc := 1268) (idx := 169) (p1 := 1257) (ci := 4) (as := [.int (xs (k + 1))]) (st := [.int r]) Z (ev_X4_worth 20000 (xs (k + 1)) n1 (r, n2) h2) mw_X4_worth (by decide +kernel) (by decide +kernel) (by decide) rfl rfl (by decide) rfl (Nat.le_of_ble_eq_true rfl) ?_
  exact z_eq (pc := 1271) (off := 307) Z (by decide +kernel) (by decide) (next G n2 Z h3)
theorem zc_38 {p : Program} {l : Launch} {e : Env} {s : State} {m : MethodId} {below : List Frame} {meth : Method} {c : Code} {G : xG} {b L : Nat} {xs : Nat → Int32} {k : Nat} {n : xN} (Z : zCx p s m meth c G b L xs) (hk : k + 6 ≤ L) (hI : Inv n) (next : zN p l e s m below meth c b L xs k) : zG p l e s m below meth c b G 1276 (zLv k) [] (xU n) := by
  obtain ⟨r, n1, n2, h1, h2, h3⟩ := op_falls 20000 (by decide) (xs (k + 1)) (xs (k + 2)) (xs (k + 3)) n hI
  refine z_a1 (pc := 1276) Z (by decide +kernel) ?_
  refine z_arg (pc := 1277) (j := 1) (ji := 1) Z (by decide +kernel) (by omega) (by decide +kernel) ?_
  refine z_arg (pc := 1282) (j := 2) (ji := 2) Z (by decide +kernel) (by omega) (by decide +kernel) ?_
  refine z_arg (pc := 1287) (j := 3) (ji := 3) Z (by decide +kernel) (by omega) (by decide +kernel) ?_
  refine z_ci (pc := 1292) (idx := 170) (p1 := 709) (ci := 3) (as := [.int (xs (k + 1)), .int (xs (k + 2)), .int (xs (k + 3))]) (st := []) Z (ev_X3_falls 20000 (xs (k + 1)) (xs (k + 2)) (xs (k + 3)) n (r, n1) h1) mw_X3_falls (by decide +kernel) (by decide +kernel) (by decide) rfl rfl (by decide) rfl (Nat.le_of_ble_eq_true rfl) ?_
  refine z_a2 (pc := 1295) Z (by decide +kernel) ?_
  refine z_arg (pc := 1296) (j := 1) (ji := 1) Z (by decide +kernel) (by omega) (by decide +kernel) ?_
  refine z_arg (pc := 1301) (j := 2) (ji := 2) Z (by decide +kernel) (by omega) (by decide +kernel) ?_
  refine z_arg (pc := 1306) (j := 3) (ji := 3) Z (by decide +kernel) (by omega) (by decide +kernel) ?_
  refine z_ci (pc := 1311) (idx := 173) (p1 := 1261) (ci := 4) (as := [.int (xs (k + 1)), .int (xs (k + 2)), .int (xs (k + 3))]) (st := [.int r]) Z (ev_X4_falls 20000 (xs (k + 1)) (xs (k + 2)) (xs (k + 3)) n1 (r, n2) h2) mw_X4_falls (by decide +kernel) (by decide +kernel) (by decide) rfl rfl (by decide) rfl (Nat.le_of_ble_eq_true rfl) ?_
  exact z_eq (pc := 1314) (off := 264) Z (by decide +kernel) (by decide) (next G n2 Z h3)
theorem zc_39 {p : Program} {l : Launch} {e : Env} {s : State} {m : MethodId} {below : List Frame} {meth : Method} {c : Code} {G : xG} {b L : Nat} {xs : Nat → Int32} {k : Nat} {n : xN} (Z : zCx p s m meth c G b L xs) (hk : k + 6 ≤ L) (hI : Inv n) (next : zN p l e s m below meth c b L xs k) : zG p l e s m below meth c b G 1319 (zLv k) [] (xU n) := by
  obtain ⟨r, h1, h2⟩ := op_kinds 20000 (by decide) (xs (k + 1)) (xs (k + 2)) n hI
  refine z_a1 (pc := 1319) Z (by decide +kernel) ?_
  refine z_arg (pc := 1320) (j := 1) (ji := 1) Z (by decide +kernel) (by omega) (by decide +kernel) ?_
  refine z_arg (pc := 1325) (j := 2) (ji := 2) Z (by decide +kernel) (by omega) (by decide +kernel) ?_
  refine z_ci (pc := 1330) (idx := 174) (p1 := 718) (ci := 3) (as := [.int (xs (k + 1)), .int (xs (k + 2))]) (st := []) Z (ev_X3_kinds 20000 (xs (k + 1)) (xs (k + 2)) n r h1) mw_X3_kinds (by decide +kernel) (by decide +kernel) (by decide) rfl rfl (by decide) rfl (Nat.le_of_ble_eq_true rfl) ?_
  refine z_a2 (pc := 1333) Z (by decide +kernel) ?_
  refine z_arg (pc := 1334) (j := 1) (ji := 1) Z (by decide +kernel) (by omega) (by decide +kernel) ?_
  refine z_arg (pc := 1339) (j := 2) (ji := 2) Z (by decide +kernel) (by omega) (by decide +kernel) ?_
  refine z_ci (pc := 1344) (idx := 177) (p1 := 1265) (ci := 4) (as := [.int (xs (k + 1)), .int (xs (k + 2))]) (st := [.int r]) Z (ev_X4_kinds 20000 (xs (k + 1)) (xs (k + 2)) n r h2) mw_X4_kinds (by decide +kernel) (by decide +kernel) (by decide) rfl rfl (by decide) rfl (Nat.le_of_ble_eq_true rfl) ?_
  exact z_eq (pc := 1347) (off := 231) Z (by decide +kernel) (by decide) (next G n Z hI)
theorem zc_40 {p : Program} {l : Launch} {e : Env} {s : State} {m : MethodId} {below : List Frame} {meth : Method} {c : Code} {G : xG} {b L : Nat} {xs : Nat → Int32} {k : Nat} {n : xN} (Z : zCx p s m meth c G b L xs) (hk : k + 6 ≤ L) (hI : Inv n) (next : zN p l e s m below meth c b L xs k) : zG p l e s m below meth c b G 1352 (zLv k) [] (xU n) := by
  obtain ⟨r, n1, n2, h1, h2, h3⟩ := op_judged 20000 (by decide) (xs (k + 1)) (xs (k + 2)) n hI
  refine z_a1 (pc := 1352) Z (by decide +kernel) ?_
  refine z_arg (pc := 1353) (j := 1) (ji := 1) Z (by decide +kernel) (by omega) (by decide +kernel) ?_
  refine z_arg (pc := 1358) (j := 2) (ji := 2) Z (by decide +kernel) (by omega) (by decide +kernel) ?_
  refine z_ci (pc := 1363) (idx := 178) (p1 := 722) (ci := 3) (as := [.int (xs (k + 1)), .int (xs (k + 2))]) (st := []) Z (ev_X3_judged 20000 (xs (k + 1)) (xs (k + 2)) n (r, n1) h1) mw_X3_judged (by decide +kernel) (by decide +kernel) (by decide) rfl rfl (by decide) rfl (Nat.le_of_ble_eq_true rfl) ?_
  refine z_a2 (pc := 1366) Z (by decide +kernel) ?_
  refine z_arg (pc := 1367) (j := 1) (ji := 1) Z (by decide +kernel) (by omega) (by decide +kernel) ?_
  refine z_arg (pc := 1372) (j := 2) (ji := 2) Z (by decide +kernel) (by omega) (by decide +kernel) ?_
  refine z_ci (pc := 1377) (idx := 181) (p1 := 1270) (ci := 4) (as := [.int (xs (k + 1)), .int (xs (k + 2))]) (st := [.int r]) Z (ev_X4_judged 20000 (xs (k + 1)) (xs (k + 2)) n1 (r, n2) h2) mw_X4_judged (by decide +kernel) (by decide +kernel) (by decide) rfl rfl (by decide) rfl (Nat.le_of_ble_eq_true rfl) ?_
  exact z_eq (pc := 1380) (off := 198) Z (by decide +kernel) (by decide) (next G n2 Z h3)
theorem zc_41 {p : Program} {l : Launch} {e : Env} {s : State} {m : MethodId} {below : List Frame} {meth : Method} {c : Code} {G : xG} {b L : Nat} {xs : Nat → Int32} {k : Nat} {n : xN} (Z : zCx p s m meth c G b L xs) (hk : k + 6 ≤ L) (hI : Inv n) (next : zN p l e s m below meth c b L xs k) : zG p l e s m below meth c b G 1385 (zLv k) [] (xU n) := by
  obtain ⟨r, n1, n2, h1, h2, h3⟩ := op_odds 20000 (by decide) (xs (k + 1)) (xs (k + 2)) n hI
  refine z_a1 (pc := 1385) Z (by decide +kernel) ?_
  refine z_arg (pc := 1386) (j := 1) (ji := 1) Z (by decide +kernel) (by omega) (by decide +kernel) ?_
  refine z_arg (pc := 1391) (j := 2) (ji := 2) Z (by decide +kernel) (by omega) (by decide +kernel) ?_
  refine z_ci (pc := 1396) (idx := 182) (p1 := 734) (ci := 3) (as := [.int (xs (k + 1)), .int (xs (k + 2))]) (st := []) Z (ev_X3_odds 20000 (xs (k + 1)) (xs (k + 2)) n (r, n1) h1) mw_X3_odds (by decide +kernel) (by decide +kernel) (by decide) rfl rfl (by decide) rfl (Nat.le_of_ble_eq_true rfl) ?_
  refine z_a2 (pc := 1399) Z (by decide +kernel) ?_
  refine z_arg (pc := 1400) (j := 1) (ji := 1) Z (by decide +kernel) (by omega) (by decide +kernel) ?_
  refine z_arg (pc := 1405) (j := 2) (ji := 2) Z (by decide +kernel) (by omega) (by decide +kernel) ?_
  refine z_ci (pc := 1410) (idx := 185) (p1 := 1282) (ci := 4) (as := [.int (xs (k + 1)), .int (xs (k + 2))]) (st := [.int r]) Z (ev_X4_odds 20000 (xs (k + 1)) (xs (k + 2)) n1 (r, n2) h2) mw_X4_odds (by decide +kernel) (by decide +kernel) (by decide) rfl rfl (by decide) rfl (Nat.le_of_ble_eq_true rfl) ?_
  exact z_eq (pc := 1413) (off := 165) Z (by decide +kernel) (by decide) (next G n2 Z h3)
theorem zc_42 {p : Program} {l : Launch} {e : Env} {s : State} {m : MethodId} {below : List Frame} {meth : Method} {c : Code} {G : xG} {b L : Nat} {xs : Nat → Int32} {k : Nat} {n : xN} (Z : zCx p s m meth c G b L xs) (hk : k + 6 ≤ L) (hI : Inv n) (next : zN p l e s m below meth c b L xs k) : zG p l e s m below meth c b G 1418 (zLv k) [] (xU n) := by
  obtain ⟨r, n1, n2, h1, h2, h3⟩ := op_luck 20000 (by decide) n hI
  refine z_a1 (pc := 1418) Z (by decide +kernel) ?_
  refine z_ci (pc := 1419) (idx := 186) (p1 := 743) (ci := 3) (as := []) (st := []) Z (ev_X3_luck 20000 n (r, n1) h1) mw_X3_luck (by decide +kernel) (by decide +kernel) (by decide) rfl rfl (by decide) rfl (Nat.le_of_ble_eq_true rfl) ?_
  refine z_a2 (pc := 1422) Z (by decide +kernel) ?_
  refine z_ci (pc := 1423) (idx := 189) (p1 := 1291) (ci := 4) (as := []) (st := [.int r]) Z (ev_X4_luck 20000 n1 (r, n2) h2) mw_X4_luck (by decide +kernel) (by decide +kernel) (by decide) rfl rfl (by decide) rfl (Nat.le_of_ble_eq_true rfl) ?_
  exact z_eq (pc := 1426) (off := 152) Z (by decide +kernel) (by decide) (next G n2 Z h3)
theorem zc_43 {p : Program} {l : Launch} {e : Env} {s : State} {m : MethodId} {below : List Frame} {meth : Method} {c : Code} {G : xG} {b L : Nat} {xs : Nat → Int32} {k : Nat} {n : xN} (Z : zCx p s m meth c G b L xs) (hk : k + 6 ≤ L) (hI : Inv n) (next : zN p l e s m below meth c b L xs k) : zG p l e s m below meth c b G 1431 (zLv k) [] (xU n) := by
  obtain ⟨r, h1, h2⟩ := op_lots 20000 (by decide) (xs (k + 1)) (xs (k + 2)) n hI
  refine z_a1 (pc := 1431) Z (by decide +kernel) ?_
  refine z_arg (pc := 1432) (j := 1) (ji := 1) Z (by decide +kernel) (by omega) (by decide +kernel) ?_
  refine z_arg (pc := 1437) (j := 2) (ji := 2) Z (by decide +kernel) (by omega) (by decide +kernel) ?_
  refine z_ci (pc := 1442) (idx := 190) (p1 := 747) (ci := 3) (as := [.int (xs (k + 1)), .int (xs (k + 2))]) (st := []) Z (ev_X3_lots 20000 (xs (k + 1)) (xs (k + 2)) n r h1) mw_X3_lots (by decide +kernel) (by decide +kernel) (by decide) rfl rfl (by decide) rfl (Nat.le_of_ble_eq_true rfl) ?_
  refine z_a2 (pc := 1445) Z (by decide +kernel) ?_
  refine z_arg (pc := 1446) (j := 1) (ji := 1) Z (by decide +kernel) (by omega) (by decide +kernel) ?_
  refine z_arg (pc := 1451) (j := 2) (ji := 2) Z (by decide +kernel) (by omega) (by decide +kernel) ?_
  refine z_ci (pc := 1456) (idx := 193) (p1 := 1295) (ci := 4) (as := [.int (xs (k + 1)), .int (xs (k + 2))]) (st := [.int r]) Z (ev_X4_lots 20000 (xs (k + 1)) (xs (k + 2)) n r h2) mw_X4_lots (by decide +kernel) (by decide +kernel) (by decide) rfl rfl (by decide) rfl (Nat.le_of_ble_eq_true rfl) ?_
  exact z_eq (pc := 1459) (off := 119) Z (by decide +kernel) (by decide) (next G n Z hI)
theorem zc_44 {p : Program} {l : Launch} {e : Env} {s : State} {m : MethodId} {below : List Frame} {meth : Method} {c : Code} {G : xG} {b L : Nat} {xs : Nat → Int32} {k : Nat} {n : xN} (Z : zCx p s m meth c G b L xs) (hk : k + 6 ≤ L) (hI : Inv n) (next : zN p l e s m below meth c b L xs k) : zG p l e s m below meth c b G 1464 (zLv k) [] (xU n) := by
  obtain ⟨r, h1, h2⟩ := op_asked n hI
  refine z_a1 (pc := 1464) Z (by decide +kernel) ?_
  refine z_ci (pc := 1465) (idx := 194) (p1 := 754) (ci := 3) (as := []) (st := []) Z (ev_X3_asked n r h1) mw_X3_asked (by decide +kernel) (by decide +kernel) (by decide) rfl rfl (by decide) rfl (Nat.le_of_ble_eq_true rfl) ?_
  refine z_a2 (pc := 1468) Z (by decide +kernel) ?_
  refine z_ci (pc := 1469) (idx := 197) (p1 := 1304) (ci := 4) (as := []) (st := [.int r]) Z (ev_X4_asked n r h2) mw_X4_asked (by decide +kernel) (by decide +kernel) (by decide) rfl rfl (by decide) rfl (Nat.le_of_ble_eq_true rfl) ?_
  exact z_eq (pc := 1472) (off := 106) Z (by decide +kernel) (by decide) (next G n Z hI)
theorem zc_45 {p : Program} {l : Launch} {e : Env} {s : State} {m : MethodId} {below : List Frame} {meth : Method} {c : Code} {G : xG} {b L : Nat} {xs : Nat → Int32} {k : Nat} {n : xN} (Z : zCx p s m meth c G b L xs) (hk : k + 6 ≤ L) (hI : Inv n) (next : zN p l e s m below meth c b L xs k) : zG p l e s m below meth c b G 1477 (zLv k) [] (xU n) := by
  obtain ⟨r, h1, h2⟩ := op_upper n hI
  refine z_a1 (pc := 1477) Z (by decide +kernel) ?_
  refine z_cl (pc := 1478) (idx := 198) (p1 := 758) (ci := 3) (as := []) (st := []) Z (ev_X3_upper n r h1) mw_X3_upper (by decide +kernel) (by decide +kernel) (by decide) rfl rfl (by decide) rfl (Nat.le_of_ble_eq_true rfl) ?_
  refine z_a2 (pc := 1481) Z (by decide +kernel) ?_
  refine z_cl (pc := 1482) (idx := 202) (p1 := 1308) (ci := 4) (as := []) (st := [.long r]) Z (ev_X4_upper n r h2) mw_X4_upper (by decide +kernel) (by decide +kernel) (by decide) rfl rfl (by decide) rfl (Nat.le_of_ble_eq_true rfl) ?_
  exact z_eql (pc := 1485) (off := 92) Z (by decide +kernel) (by decide +kernel) (by decide) (next G n Z hI)
theorem zc_46 {p : Program} {l : Launch} {e : Env} {s : State} {m : MethodId} {below : List Frame} {meth : Method} {c : Code} {G : xG} {b L : Nat} {xs : Nat → Int32} {k : Nat} {n : xN} (Z : zCx p s m meth c G b L xs) (hk : k + 6 ≤ L) (hI : Inv n) (next : zN p l e s m below meth c b L xs k) : zG p l e s m below meth c b G 1491 (zLv k) [] (xU n) := by
  obtain ⟨r, h1, h2⟩ := op_lower n hI
  refine z_a1 (pc := 1491) Z (by decide +kernel) ?_
  refine z_cl (pc := 1492) (idx := 203) (p1 := 762) (ci := 3) (as := []) (st := []) Z (ev_X3_lower n r h1) mw_X3_lower (by decide +kernel) (by decide +kernel) (by decide) rfl rfl (by decide) rfl (Nat.le_of_ble_eq_true rfl) ?_
  refine z_a2 (pc := 1495) Z (by decide +kernel) ?_
  refine z_cl (pc := 1496) (idx := 206) (p1 := 1312) (ci := 4) (as := []) (st := [.long r]) Z (ev_X4_lower n r h2) mw_X4_lower (by decide +kernel) (by decide +kernel) (by decide) rfl rfl (by decide) rfl (Nat.le_of_ble_eq_true rfl) ?_
  exact z_eql (pc := 1499) (off := 78) Z (by decide +kernel) (by decide +kernel) (by decide) (next G n Z hI)
theorem zc_47 {p : Program} {l : Launch} {e : Env} {s : State} {m : MethodId} {below : List Frame} {meth : Method} {c : Code} {G : xG} {b L : Nat} {xs : Nat → Int32} {k : Nat} {n : xN} (Z : zCx p s m meth c G b L xs) (hk : k + 6 ≤ L) (hI : Inv n) (next : zN p l e s m below meth c b L xs k) : zG p l e s m below meth c b G 1505 (zLv k) [] (xU n) := by
  obtain ⟨r, h1, h2⟩ := op_count 20000 (by decide) (xs (k + 1)) n hI
  refine z_a1 (pc := 1505) Z (by decide +kernel) ?_
  refine z_arg (pc := 1506) (j := 1) (ji := 1) Z (by decide +kernel) (by omega) (by decide +kernel) ?_
  refine z_ci (pc := 1511) (idx := 207) (p1 := 766) (ci := 3) (as := [.int (xs (k + 1))]) (st := []) Z (ev_X3_count 20000 (xs (k + 1)) n r h1) mw_X3_count (by decide +kernel) (by decide +kernel) (by decide) rfl rfl (by decide) rfl (Nat.le_of_ble_eq_true rfl) ?_
  refine z_a2 (pc := 1514) Z (by decide +kernel) ?_
  refine z_arg (pc := 1515) (j := 1) (ji := 1) Z (by decide +kernel) (by omega) (by decide +kernel) ?_
  refine z_ci (pc := 1520) (idx := 210) (p1 := 1316) (ci := 4) (as := [.int (xs (k + 1))]) (st := [.int r]) Z (ev_X4_count 20000 (xs (k + 1)) n r h2) mw_X4_count (by decide +kernel) (by decide +kernel) (by decide) rfl rfl (by decide) rfl (Nat.le_of_ble_eq_true rfl) ?_
  exact z_eq (pc := 1523) (off := 55) Z (by decide +kernel) (by decide) (next G n Z hI)
theorem zc_48 {p : Program} {l : Launch} {e : Env} {s : State} {m : MethodId} {below : List Frame} {meth : Method} {c : Code} {G : xG} {b L : Nat} {xs : Nat → Int32} {k : Nat} {n : xN} (Z : zCx p s m meth c G b L xs) (hk : k + 6 ≤ L) (hI : Inv n) (next : zN p l e s m below meth c b L xs k) : zG p l e s m below meth c b G 1528 (zLv k) [] (xU n) := by
  obtain ⟨r, h1, h2⟩ := op_finding n hI
  refine z_a1 (pc := 1528) Z (by decide +kernel) ?_
  refine z_ci (pc := 1529) (idx := 211) (p1 := 787) (ci := 3) (as := []) (st := []) Z (ev_X3_finding n r h1) mw_X3_finding (by decide +kernel) (by decide +kernel) (by decide) rfl rfl (by decide) rfl (Nat.le_of_ble_eq_true rfl) ?_
  refine z_a2 (pc := 1532) Z (by decide +kernel) ?_
  refine z_ci (pc := 1533) (idx := 214) (p1 := 1333) (ci := 4) (as := []) (st := [.int r]) Z (ev_X4_finding n r h2) mw_X4_finding (by decide +kernel) (by decide +kernel) (by decide) rfl rfl (by decide) rfl (Nat.le_of_ble_eq_true rfl) ?_
  exact z_eq (pc := 1536) (off := 42) Z (by decide +kernel) (by decide) (next G n Z hI)
theorem zc_49 {p : Program} {l : Launch} {e : Env} {s : State} {m : MethodId} {below : List Frame} {meth : Method} {c : Code} {G : xG} {b L : Nat} {xs : Nat → Int32} {k : Nat} {n : xN} (Z : zCx p s m meth c G b L xs) (hk : k + 6 ≤ L) (hI : Inv n) (next : zN p l e s m below meth c b L xs k) : zG p l e s m below meth c b G 1541 (zLv k) [] (xU n) := by
  obtain ⟨r, h1, h2⟩ := op_findings (xs (k + 1)) n hI
  refine z_a1 (pc := 1541) Z (by decide +kernel) ?_
  refine z_arg (pc := 1542) (j := 1) (ji := 1) Z (by decide +kernel) (by omega) (by decide +kernel) ?_
  refine z_ci (pc := 1547) (idx := 215) (p1 := 791) (ci := 3) (as := [.int (xs (k + 1))]) (st := []) Z (ev_X3_findings (xs (k + 1)) n r h1) mw_X3_findings (by decide +kernel) (by decide +kernel) (by decide) rfl rfl (by decide) rfl (Nat.le_of_ble_eq_true rfl) ?_
  refine z_a2 (pc := 1550) Z (by decide +kernel) ?_
  refine z_arg (pc := 1551) (j := 1) (ji := 1) Z (by decide +kernel) (by omega) (by decide +kernel) ?_
  refine z_ci (pc := 1556) (idx := 218) (p1 := 1337) (ci := 4) (as := [.int (xs (k + 1))]) (st := [.int r]) Z (ev_X4_findings (xs (k + 1)) n r h2) mw_X4_findings (by decide +kernel) (by decide +kernel) (by decide) rfl rfl (by decide) rfl (Nat.le_of_ble_eq_true rfl) ?_
  exact z_eq (pc := 1559) (off := 19) Z (by decide +kernel) (by decide) (next G n Z hI)
theorem zc_50 {p : Program} {l : Launch} {e : Env} {s : State} {m : MethodId} {below : List Frame} {meth : Method} {c : Code} {G : xG} {b L : Nat} {xs : Nat → Int32} {k : Nat} {n : xN} (Z : zCx p s m meth c G b L xs) (hk : k + 6 ≤ L) (hI : Inv n) (next : zN p l e s m below meth c b L xs k) : zG p l e s m below meth c b G 1564 (zLv k) [] (xU n) := by
  obtain ⟨r, h1, h2⟩ := op_digest 20000 (by decide) n hI
  refine z_a1 (pc := 1564) Z (by decide +kernel) ?_
  refine z_cl (pc := 1565) (idx := 219) (p1 := 795) (ci := 3) (as := []) (st := []) Z (ev_X3_digest 20000 n r h1) mw_X3_digest (by decide +kernel) (by decide +kernel) (by decide) rfl rfl (by decide) rfl (Nat.le_of_ble_eq_true rfl) ?_
  refine z_a2 (pc := 1568) Z (by decide +kernel) ?_
  refine z_cl (pc := 1569) (idx := 222) (p1 := 1341) (ci := 4) (as := []) (st := [.long r]) Z (ev_X4_digest 20000 n r h2) mw_X4_digest (by decide +kernel) (by decide +kernel) (by decide) rfl rfl (by decide) rfl (Nat.le_of_ble_eq_true rfl) ?_
  exact z_eql (pc := 1572) (off := 5) Z (by decide +kernel) (by decide +kernel) (by decide) (next G n Z hI)
