/-! ===== the start: what the two constructors have made keeps Inv ===== -/
def n0a : Nat → Nat → Int32 := fun a => ([(fun _ => 0), (fun k => ([6, 40, 0] : List Int32).getD k 0), (fun _ => 0), (yF (-1) (fun _ => 0) 6), (fun k => ([4, 80, 32] : List Int32).getD k 0), (fun _ => 0), (yF (-1) (fun _ => 0) 4), (fun _ => 0), (fun _ => 0), (fun _ => 0), (fun _ => 0), (fun _ => 0), (fun _ => 0), (fun _ => 0), (fun _ => 0), (fun _ => 0), (fun _ => 0), (fun _ => 0), (fun _ => 0), (fun _ => 0), yBd, (fun _ => 0), (fun _ => 0), (fun _ => 0), (fun _ => 0), (fun _ => 0), (fun _ => 0), (fun _ => 0), (fun _ => 0), (fun _ => 0), (fun _ => 0), (fun _ => 0), (fun _ => 0), (fun _ => 0), (fun _ => 0), (fun _ => 0), (fun _ => 0), (fun _ => 0), (fun _ => 0), (fun _ => 0), yRw, (fun _ => 0), (fun _ => 0), (fun _ => 0), (fun _ => 0), (upd (upd (upd (upd (upd (upd (fun _ => 0) 0 (-1)) 1 (-1)) 2 (-1)) 3 (-1)) 4 (-1)) 5 (-1)), (fun _ => 0), (upd (upd (upd (upd (fun _ => 0) 0 (-1)) 1 (-1)) 2 (-1)) 3 (-1)), (fun _ => 0), (fun _ => 0), (fun _ => 0), (fun _ => 0), (fun _ => 0), (fun _ => 0)] : List (Nat → Int32)).getD a (fun _ => 0)
def n0 : xN := (n0a, fun a k => if a = 0 ∧ k = 12 ∨ a = 39 ∧ k = 13 then 1 else 0)
theorem n0_r1 : I_row 40 6 (n0.1 3) (n0.1 2) (n0.1 45) (n0.1 46) := by
  intro r hr
  match r, hr with
  | 0, _ => exact ⟨rfl, by decide, by decide, fun i _ => rfl⟩
  | 1, _ => exact ⟨rfl, by decide, by decide, fun i _ => rfl⟩
  | 2, _ => exact ⟨rfl, by decide, by decide, fun i _ => rfl⟩
  | 3, _ => exact ⟨rfl, by decide, by decide, fun i _ => rfl⟩
  | 4, _ => exact ⟨rfl, by decide, by decide, fun i _ => rfl⟩
  | 5, _ => exact ⟨rfl, by decide, by decide, fun i _ => rfl⟩
  | r + 6, h => exact absurd h (by omega)
theorem n0_r2 : I_row 80 4 (n0.1 6) (n0.1 5) (n0.1 47) (n0.1 48) := by
  intro r hr
  match r, hr with
  | 0, _ => exact ⟨rfl, by decide, by decide, fun i _ => rfl⟩
  | 1, _ => exact ⟨rfl, by decide, by decide, fun i _ => rfl⟩
  | 2, _ => exact ⟨rfl, by decide, by decide, fun i _ => rfl⟩
  | 3, _ => exact ⟨rfl, by decide, by decide, fun i _ => rfl⟩
  | r + 4, h => exact absurd h (by omega)
theorem n0_c : I_court (n0.1 7 0) (n0.1 7 1) (n0.1 39 1) (n0.1 39 3) (n0.1 8) (n0.1 9) (n0.1 10) (n0.1 11) (n0.1 12) (n0.1 41) (n0.1 42) (n0.1 43) (n0.1 44) :=
  ⟨rfl, rfl, 0, 0, by omega, by omega, nI_0.symm, nI_0.symm, fun _ => rfl, fun i hi => absurd hi (by omega), fun way hway w hw => rfl, fun k hk => absurd hk (by omega)⟩
theorem n0_s : I_stand (cOf n0) (n0.1 19 1) (n0.1 19 2) (n0.1 20) (n0.1 21) (n0.1 22) (n0.1 40) 0 := by
  refine ⟨rfl, rfl, fun b hb => ?_, 0, by omega, nI_0.symm, fun d hd => ?_, fun d hd => absurd hd (by omega)⟩
  · match b, hb with
    | 0, _ => rfl
    | 1, _ => rfl
    | 2, _ => rfl
    | 3, _ => rfl
    | 4, _ => rfl
    | 5, _ => rfl
    | 6, _ => rfl
    | 7, _ => rfl
    | b + 8, h => exact absurd h (by omega)
  · have hd0 : d = 0 := by omega
    subst hd0
    refine ⟨⟨0, Nat.pow_pos (by decide), nI_0.symm⟩, fun t ht => ⟨1, 4, by omega, by omega, ?_⟩⟩
    match t, ht with
    | 0, _ => exact ⟨by decide, by decide⟩
    | 1, _ => exact ⟨by decide, by decide⟩
    | 2, _ => exact ⟨by decide, by decide⟩
    | 3, _ => exact ⟨by decide, by decide⟩
    | t + 4, h => exact absurd h (by omega)
theorem n0_inv : Inv n0 := ⟨⟨rfl, rfl, rfl, rfl, rfl, rfl⟩, n0_r1, n0_r2, ⟨rfl, fun f _ => rfl⟩, ⟨rfl, rfl, rfl⟩, n0_c, fun w _ => rfl, n0_s, Or.inl ⟨rfl, rfl⟩, Or.inl ⟨rfl, rfl⟩, Or.inl ⟨rfl, rfl⟩⟩
/-- the labels' addresses behind the two constructors -/
def zGd (u3 u4 : Nat → Nat) (t1 t2 t3 b : Nat) (D : va_G) (cI cB cS : ClassId) : xG := (fun k => if k < 39 then u3 k else if k < 54 then u4 (k - 39) else if k = 54 then t1 else if k = 55 then t2 else if k = 56 then t3 else b, D, cI, cB, cS)
section ZS
variable (u3 u4 : Nat → Nat) (t1 t2 t3 b : Nat) (D : va_G) (cI cB cS : ClassId)
theorem zW_23 : (va_up (va_up (va_up (fun _ => none) 0 (some (u3 24))) 1 (some (u3 28))) 2 (some (u3 32))) = fun j => (rf0 23 j).map (zGd u3 u4 t1 t2 t3 b D cI cB cS).1 := funext fun j => match j with
  | 0 => rfl
  | 1 => rfl
  | 2 => rfl
  | j + 3 => by
    show va_up (va_up (va_up (fun _ => none) 0 (some (u3 24))) 1 (some (u3 28))) 2 (some (u3 32)) (j + 3) = none
    simp [va_up]
set_option maxHeartbeats 8000000 in
set_option maxRecDepth 20000 in
theorem zW_at : ∀ a, a < 54 → (yW3 cI cS u3 ++ yW4 cI cB u4)[a]? = some ((zGd u3 u4 t1 t2 t3 b D cI cB cS).1 a, xE (zGd u3 u4 t1 t2 t3 b D cI cB cS) (xU n0) a) := by
  intro a ha
  match a, ha with
  | 0, _ => rfl
  | 1, _ => rfl
  | 2, _ => rfl
  | 3, _ => rfl
  | 4, _ => rfl
  | 5, _ => rfl
  | 6, _ => rfl
  | 7, _ => rfl
  | 8, _ => rfl
  | 9, _ => rfl
  | 10, _ => rfl
  | 11, _ => rfl
  | 12, _ => rfl
  | 13, _ => rfl
  | 14, _ => rfl
  | 15, _ => rfl
  | 16, _ => rfl
  | 17, _ => rfl
  | 18, _ => rfl
  | 19, _ => rfl
  | 20, _ => rfl
  | 21, _ => rfl
  | 22, _ => rfl
  | 23, _ => exact congrArg (fun f => some (u3 23, (Sum.inl (cS, 3, .inr (.inr (.inr (.inr f)))) : va_E))) (zW_23 u3 u4 t1 t2 t3 b D cI cB cS)
  | 24, _ => rfl
  | 25, _ => rfl
  | 26, _ => rfl
  | 27, _ => rfl
  | 28, _ => rfl
  | 29, _ => rfl
  | 30, _ => rfl
  | 31, _ => rfl
  | 32, _ => rfl
  | 33, _ => rfl
  | 34, _ => rfl
  | 35, _ => rfl
  | 36, _ => rfl
  | 37, _ => rfl
  | 38, _ => rfl
  | 39, _ => rfl
  | 40, _ => rfl
  | 41, _ => rfl
  | 42, _ => rfl
  | 43, _ => rfl
  | 44, _ => rfl
  | 45, _ => rfl
  | 46, _ => rfl
  | 47, _ => rfl
  | 48, _ => rfl
  | 49, _ => rfl
  | 50, _ => rfl
  | 51, _ => rfl
  | 52, _ => rfl
  | 53, _ => rfl
  | a + 54, h => exact absurd h (by omega)
end ZS
theorem z_begin {p : Program} {l : Launch} {e : Env} {s : State} {m : MethodId} {below : List Frame} {meth : Method} {c : Code} {b L : Nat} {xs : Nat → Int32} {D : va_G} {cI cB cS : ClassId} {u3 u4 : Nat → Nat} {t1 t2 t3 : Nat} (hL : L ≤ 3072) (C0 : lw_At p s m meth c b L xs) (hK : va_K D vwCl (yTy cI cB cS) s) (hN : xNst s)
    (hZ : (va_Z "NeitherBare" "PARENTS" "[I" (.ref t1) (fun q => s.heap.size ≤ q) s s.heap ∧ va_T .int t1 6 (fun j => .int (xS 54 j)) (fun q => s.heap.size ≤ q) s s.heap) ∧ (va_Z "NeitherBare" "LETTERS" "[I" (.ref t2) (fun q => s.heap.size ≤ q) s s.heap ∧ va_T .int t2 6 (fun j => .int (xS 55 j)) (fun q => s.heap.size ≤ q) s s.heap) ∧ (va_Z "NeitherBare" "WITHOUT" "[J" (.ref t3) (fun q => s.heap.size ≤ q) s s.heap ∧ va_T .long t3 6 (fun j => .long (xSl j)) (fun q => s.heap.size ≤ q) s s.heap))
    : yGo p l e room_1 s m #[Value.ref b] below meth c D 4 (fun q => s.heap.size ≤ q) (lw_Z below #[Value.ref b] s) 54 36771 18 [(0, .ref b), (1, .ref (u3 0)), (2, .ref (u4 0)), (3, .int (nI 0))] [] (yW3 cI cS u3 ++ yW4 cI cB u4) := by
  obtain ⟨hx, hb, hr, hml, hown, hts, hX, hbl, hlocks, hgv⟩ := C0
  intro H locs ls hl hP hD hS
  have hW := zW_at u3 u4 t1 t2 t3 b D cI cB cS
  have hge : ∀ k, k < 54 → s.heap.size ≤ (zGd u3 u4 t1 t2 t3 b D cI cB cS).1 k := fun k hk => hD.2 k _ (hW k hk)
  have hA : ∀ q, xA (zGd u3 u4 t1 t2 t3 b D cI cB cS) q → s.heap.size ≤ q := by
    rintro q ⟨k, hk, rfl⟩
    exact hge k hk
  have hI : xInj (zGd u3 u4 t1 t2 t3 b D cI cB cS) := fun i j hi hj he => hD.1 i j _ _ (hW i hi) (hW j hj) he
  obtain ⟨⟨z1, q1⟩, ⟨z2, q2⟩, ⟨z3, q3⟩⟩ := hZ
  have hst : xStat (zGd u3 u4 t1 t2 t3 b D cI cB cS) s s.heap := ⟨⟨z1.narrow hA, q1.narrow hA⟩, ⟨z2.narrow hA, q2.narrow hA⟩, ⟨z3.narrow hA, q3.narrow hA⟩⟩
  have Z : zCx p s m meth c (zGd u3 u4 t1 t2 t3 b D cI cB cS) b L xs := ⟨⟨hx, hb, hml, hown, fun w hw => hts w (lw_g_in hw), ⟨hK, hI, hst, hN⟩, by decide, by decide, by decide, by decide⟩, rfl, hX, hbl, hA, hL, hr, hlocks⟩
  have hgo := z_loop (l := l) (e := e) (below := below) (L + 1) 0 (by omega) (by omega) (zGd u3 u4 t1 t2 t3 b D cI cB cS) n0 Z n0_inv
  refine va_forget (fun q hq => hS.2.2 q hq) ?_
  refine hgo H [] ls hl (fun k q hk => ?_) ⟨hS.1, fun q h1 _ => hS.2.1 q h1 (Nat.not_le.mpr h1), fun q hq => absurd hq List.not_mem_nil⟩
  have hk54 : k < 54 := by
    have := (List.getElem?_eq_some_iff.mp hk).1
    simpa [xws] using this
  rw [xws_at hk54] at hk
  exact hP k q ((hW k hk54).trans hk)
theorem z_classes {args : Array Value} {s : State} (hg : ∀ w ∈ lw_g, w.before args s = true) : ∃ D : va_G, ∀ (k : Nat) (q : vw_C), vwCl[k]? = some q → u_Kn s q.1 q.2.1 q.2.2 (D.1 k) (D.2 k) := by
  obtain ⟨c0, i0, h0⟩ := u_known (C := RX0) (T := TX0) (N := 8) (n := 8) hg (xWs 0 (by decide)) (hg _ (xLk (n := 137) (w := .instantiable RX0 8) (by decide +kernel) rfl))
  obtain ⟨c1, i1, h1⟩ := u_known (C := RX1) (T := TX1) (N := 5) (n := 5) hg (xWs 1 (by decide)) (hg _ (xLk (n := 110) (w := .instantiable RX1 5) (by decide +kernel) rfl))
  obtain ⟨c2, i2, h2⟩ := u_known (C := RX2) (T := TX2) (N := 6) (n := 6) hg (xWs 2 (by decide)) (hg _ (xLk (n := 174) (w := .instantiable RX2 6) (by decide +kernel) rfl))
  obtain ⟨c3, i3, h3⟩ := u_known (C := RX3) (T := TX3) (N := 13) (n := 13) hg (xWs 3 (by decide)) (hg _ (xLk (n := 102) (w := .instantiable RX3 13) (by decide +kernel) rfl))
  obtain ⟨c4, i4, h4⟩ := u_known (C := RX4) (T := TX4) (N := 25) (n := 25) hg (xWs 4 (by decide)) (hg _ (xLk (n := 811) (w := .instantiable RX4 25) (by decide +kernel) rfl))
  refine ⟨(fun k => if k = 0 then c0 else if k = 1 then c1 else if k = 2 then c2 else if k = 3 then c3 else c4, fun k => if k = 0 then i0 else if k = 1 then i1 else if k = 2 then i2 else if k = 3 then i3 else i4), ?_⟩
  intro k q hq
  match k, hq with
  | 0, hq => cases hq; exact h0
  | 1, hq => cases hq; exact h1
  | 2, hq => cases hq; exact h2
  | 3, hq => cases hq; exact h3
  | 4, hq => cases hq; exact h4
  | k + 5, hq => simp at hq
theorem z_arrays {args : Array Value} {s : State} {D : va_G} (hg : ∀ w ∈ lw_g, w.before args s = true) (hN : yNst s) (hD : ∀ (k : Nat) (q : vw_C), vwCl[k]? = some q → u_Kn s q.1 q.2.1 q.2.2 (D.1 k) (D.2 k)) : ∃ cI cB cS : ClassId, va_K D vwCl (yTy cI cB cS) s := by
  obtain ⟨cI, kI, pI, f1, f2, f3⟩ := Cond.arrayClass_spec (hg _ yW_int)
  obtain ⟨cB, kB, pB, g1, g2, g3⟩ := Cond.arrayClass_spec (hg _ yW_bool)
  obtain ⟨pS, cS, kS, h1, h2, h3, h4, h5⟩ := Cond.arrayOver_spec hN.2.2
  refine ⟨cI, cB, cS, hD, fun k q hk => ?_⟩
  match k, hk with
  | 0, hk => cases hk; exact ⟨fun n z => ⟨fun k h => (by cases h), kI, f2, pI, f3⟩, f1⟩
  | 1, hk => cases hk; exact ⟨fun n z => ⟨fun k h => (by cases h), kB, g2, pB, g3⟩, g1⟩
  | 2, hk => cases hk; exact ⟨fun n z => ⟨fun k h => (by cases h), kS, h3, pS, h4⟩, kS, pS, h3, h4, h1, h5⟩
  | k + 3, hk => simp at hk
theorem z_nest {args : Array Value} {s : State} (hts : ∀ w ∈ lw_tbl, w.before args s = true) : xNst s ∧ yNst s :=
  ⟨⟨va_Nw.of rfl (hts (.methodLinkNest RX0 74 yX3_isTrait RX3) (List.mem_of_getElem? (i := 361) (by decide +kernel))), va_Nw.of rfl (hts (.methodLinkNest RX0 64 yX3_isOfKind RX3) (List.mem_of_getElem? (i := 364) (by decide +kernel))), va_Nw.of rfl (hts (.fieldLinkNest RX0 61 "NeitherBare" "LETTERS" "[I" RX3) (List.mem_of_getElem? (i := 381) (by decide +kernel))), va_Nw.of rfl (hts (.methodLinkNest RX2 28 yX3_hasBit RX3) (List.mem_of_getElem? (i := 423) (by decide +kernel))), va_Nw.of rfl (hts (.methodLinkNest RX1 45 yX3_mixed RX3) (List.mem_of_getElem? (i := 808) (by decide +kernel)))⟩, va_Nw.of rfl (hts (.methodLinkNest RX3 23 yX0_init RX3) (List.mem_of_getElem? (i := 138) (by decide +kernel))), va_Nw.of rfl (hts (.methodLinkNest RX3 33 yX2_init RX3) (List.mem_of_getElem? (i := 175) (by decide +kernel))), va_AO.of (A := args) (hts (.arrayOver (.object "NeitherBare$Standing")) (List.mem_of_getElem? (i := 201) (by decide +kernel)))⟩
theorem z_stat_PARENTS {args : Array Value} {s : State} (hts : ∀ w ∈ lw_tbl, w.before args s = true) (h : (Jvm.Cond.and given_1 narrow_1).before args s = true) : ∃ t : Nat, va_Z "NeitherBare" "PARENTS" "[I" (.ref t) (fun q => s.heap.size ≤ q) s s.heap ∧ va_T .int t 6 (fun j => .int (xS 54 j)) (fun q => s.heap.size ≤ q) s s.heap := by
  have hs := flat_of_before _ h
  obtain ⟨t, e1, q1⟩ := va_Tof (tm := .static "NeitherBare" "PARENTS" "[I") (ty := .int) (N := 6) (f := fun j => .int (xS 54 j)) (A := fun q => s.heap.size ≤ q) (by decide) (hs _ (by decide +kernel)) (va_eqt (hs (.eq (.length (.static "NeitherBare" "PARENTS" "[I")) (.int 6)) (by decide +kernel))) (fun j hj => by
    match j, hj with
    | 0, _ => exact va_eqt (hs (.eq (.elem (.static "NeitherBare" "PARENTS" "[I") (.int 0)) (.int (-9))) (by decide +kernel))
    | 1, _ => exact va_eqt (hs (.eq (.elem (.static "NeitherBare" "PARENTS" "[I") (.int 1)) (.int (0))) (by decide +kernel))
    | 2, _ => exact va_eqt (hs (.eq (.elem (.static "NeitherBare" "PARENTS" "[I") (.int 2)) (.int (0))) (by decide +kernel))
    | 3, _ => exact va_eqt (hs (.eq (.elem (.static "NeitherBare" "PARENTS" "[I") (.int 3)) (.int (0))) (by decide +kernel))
    | 4, _ => exact va_eqt (hs (.eq (.elem (.static "NeitherBare" "PARENTS" "[I") (.int 4)) (.int (1))) (by decide +kernel))
    | 5, _ => exact va_eqt (hs (.eq (.elem (.static "NeitherBare" "PARENTS" "[I") (.int 5)) (.int (2))) (by decide +kernel))
    | j + 6, h => exact absurd h (by omega)) (fun a h1 h2 => absurd h1 (Nat.not_lt.mpr h2))
  exact ⟨t, va_Zof (hts (.laysStatic "NeitherBare" "PARENTS" "[I") (List.mem_of_getElem? (i := 368) (by decide +kernel))) (hts (.initialized "NeitherBare") (List.mem_of_getElem? (i := 92) (by decide +kernel))) e1 (fun a h1 h2 => absurd h1 (Nat.not_lt.mpr h2)), q1⟩
theorem z_stat_LETTERS {args : Array Value} {s : State} (hts : ∀ w ∈ lw_tbl, w.before args s = true) (h : (Jvm.Cond.and given_1 narrow_1).before args s = true) : ∃ t : Nat, va_Z "NeitherBare" "LETTERS" "[I" (.ref t) (fun q => s.heap.size ≤ q) s s.heap ∧ va_T .int t 6 (fun j => .int (xS 55 j)) (fun q => s.heap.size ≤ q) s s.heap := by
  have hs := flat_of_before _ h
  obtain ⟨t, e1, q1⟩ := va_Tof (tm := .static "NeitherBare" "LETTERS" "[I") (ty := .int) (N := 6) (f := fun j => .int (xS 55 j)) (A := fun q => s.heap.size ≤ q) (by decide) (hs _ (by decide +kernel)) (va_eqt (hs (.eq (.length (.static "NeitherBare" "LETTERS" "[I")) (.int 6)) (by decide +kernel))) (fun j hj => by
    match j, hj with
    | 0, _ => exact va_eqt (hs (.eq (.elem (.static "NeitherBare" "LETTERS" "[I") (.int 0)) (.int (99))) (by decide +kernel))
    | 1, _ => exact va_eqt (hs (.eq (.elem (.static "NeitherBare" "LETTERS" "[I") (.int 1)) (.int (110))) (by decide +kernel))
    | 2, _ => exact va_eqt (hs (.eq (.elem (.static "NeitherBare" "LETTERS" "[I") (.int 2)) (.int (98))) (by decide +kernel))
    | 3, _ => exact va_eqt (hs (.eq (.elem (.static "NeitherBare" "LETTERS" "[I") (.int 3)) (.int (117))) (by decide +kernel))
    | 4, _ => exact va_eqt (hs (.eq (.elem (.static "NeitherBare" "LETTERS" "[I") (.int 4)) (.int (104))) (by decide +kernel))
    | 5, _ => exact va_eqt (hs (.eq (.elem (.static "NeitherBare" "LETTERS" "[I") (.int 5)) (.int (120))) (by decide +kernel))
    | j + 6, h => exact absurd h (by omega)) (fun a h1 h2 => absurd h1 (Nat.not_lt.mpr h2))
  exact ⟨t, va_Zof (hts (.laysStatic "NeitherBare" "LETTERS" "[I") (List.mem_of_getElem? (i := 382) (by decide +kernel))) (hts (.initialized "NeitherBare") (List.mem_of_getElem? (i := 92) (by decide +kernel))) e1 (fun a h1 h2 => absurd h1 (Nat.not_lt.mpr h2)), q1⟩
theorem z_stat_WITHOUT {args : Array Value} {s : State} (hts : ∀ w ∈ lw_tbl, w.before args s = true) (h : (Jvm.Cond.and given_1 narrow_1).before args s = true) : ∃ t : Nat, va_Z "NeitherBare" "WITHOUT" "[J" (.ref t) (fun q => s.heap.size ≤ q) s s.heap ∧ va_T .long t 6 (fun j => .long (xSl j)) (fun q => s.heap.size ≤ q) s s.heap := by
  have hs := flat_of_before _ h
  obtain ⟨t, e1, q1⟩ := va_Tof (tm := .static "NeitherBare" "WITHOUT" "[J") (ty := .long) (N := 6) (f := fun j => .long (xSl j)) (A := fun q => s.heap.size ≤ q) (by decide) (hs _ (by decide +kernel)) (va_eqt (hs (.eq (.length (.static "NeitherBare" "WITHOUT" "[J")) (.int 6)) (by decide +kernel))) (fun j hj => by
    match j, hj with
    | 0, _ => exact va_eqtl (hs (.eq (.elem (.static "NeitherBare" "WITHOUT" "[J") (.int 0)) (.long (6148914691236517205))) (by decide +kernel))
    | 1, _ => exact va_eqtl (hs (.eq (.elem (.static "NeitherBare" "WITHOUT" "[J") (.int 1)) (.long (3689348814741910323))) (by decide +kernel))
    | 2, _ => exact va_eqtl (hs (.eq (.elem (.static "NeitherBare" "WITHOUT" "[J") (.int 2)) (.long (1085102592571150095))) (by decide +kernel))
    | 3, _ => exact va_eqtl (hs (.eq (.elem (.static "NeitherBare" "WITHOUT" "[J") (.int 3)) (.long (71777214294589695))) (by decide +kernel))
    | 4, _ => exact va_eqtl (hs (.eq (.elem (.static "NeitherBare" "WITHOUT" "[J") (.int 4)) (.long (281470681808895))) (by decide +kernel))
    | 5, _ => exact va_eqtl (hs (.eq (.elem (.static "NeitherBare" "WITHOUT" "[J") (.int 5)) (.long (4294967295))) (by decide +kernel))
    | j + 6, h => exact absurd h (by omega)) (fun a h1 h2 => absurd h1 (Nat.not_lt.mpr h2))
  exact ⟨t, va_Zof (hts (.laysStatic "NeitherBare" "WITHOUT" "[J") (List.mem_of_getElem? (i := 661) (by decide +kernel))) (hts (.initialized "NeitherBare") (List.mem_of_getElem? (i := 92) (by decide +kernel))) e1 (fun a h1 h2 => absurd h1 (Nat.not_lt.mpr h2)), q1⟩
set_option maxHeartbeats 20000000 in
set_option maxRecDepth 100000 in
/-- the law, from its entry -/
theorem whole_start {p : Program} {e : Env} {s : State} {m : MethodId} {below : List Frame} {meth : Method} {c : Code} (l : Launch) {b L : Nat} {xs : Nat → Int32} (hL : L ≤ 3072) (C0 : lw_At p s m meth c b L xs) : W p l e room_1 s m #[Value.ref b] below meth c s.heap [] 0 0 (lw_Z below #[Value.ref b] s) (entryFrame m ([Value.ref b] : List Value).toArray 4) := by
  obtain ⟨hx, hb, hr, hml, hown, hts, hX, hbl, hlocks, hgv⟩ := id C0
  have hg : ∀ w ∈ lw_g, w.before #[Value.ref b] s = true := fun w hw => hts w (lw_g_in hw)
  obtain ⟨hNx, hNy⟩ := z_nest hts
  obtain ⟨D, hKc⟩ := z_classes hg
  obtain ⟨cI, cB, cS, hK⟩ := z_arrays hg hNy hKc
  obtain ⟨t1, hz1⟩ := z_stat_PARENTS hts hgv
  obtain ⟨t2, hz2⟩ := z_stat_LETTERS hts hgv
  obtain ⟨t3, hz3⟩ := z_stat_WITHOUT hts hgv
  have C : yCx p room_1 s m #[Value.ref b] c D cI cB cS (fun q => s.heap.size ≤ q) code R_law 4 100 54 36771 := ⟨hx, hb, hml, hown, hg, hK, hNy, fun _ h => h, by decide, by decide, by decide, by decide⟩
  have go : yGo p l e room_1 s m #[Value.ref b] below meth c D 4 (fun q => s.heap.size ≤ q) (lw_Z below #[Value.ref b] s) 0 0 0 [(0, .ref b)] [] [] := by
    refine y_new (pc := 0) (ci := 3) (idx := 7) (N := 13) (fs := [.null, .null, .null, .null, .null, .null, .null, .null, .null, .int 0, .int 0, .long 0, .long 0]) (W1 := fun q => [(q, .inr (3, [.null, .null, .null, .null, .null, .null, .null, .null, .null, .int 0, .int 0, .long 0, .long 0]))]) C (by decide) (xLk (n := 101) (by decide +kernel) rfl) rfl (xLk (n := 102) (by decide +kernel) rfl) (xLk (n := 92) (by decide +kernel) rfl) yD3 (by decide) (by decide) (by decide +kernel) (fun _ => rfl) (fun q => ?_)
    refine y_dup (pc := 3) C (by decide +kernel) ?_
    refine y_callI (pc := 4) (idx := 9) (as := []) (wc := [(q, .inr (3, [.null, .null, .null, .null, .null, .null, .null, .null, .null, .int 0, .int 0, .long 0, .long 0]))]) (wr := []) (W1 := fun u => yW3 cI cS (fun k => if k = 0 then q else u k)) C (isC := [0]) (isR := []) (ye_bare D cI cB cS q) (xLk (n := 105) (by decide +kernel) rfl) (xLk (n := 104) (by decide +kernel) rfl) (xLk (n := 92) (by decide +kernel) rfl) (xLk (n := 103) (by decide +kernel) rfl) rfl (by decide +kernel) (by decide) (by decide) rfl (Nat.le_of_ble_eq_true rfl) (by decide) (by decide) (by decide +kernel) rfl rfl (by decide) (by decide) (by decide) (fun _ => rfl) (fun u3 => ?_)
    refine y_astore (pc := 7) (k := 1) (lv1 := [(1, .ref q), (0, .ref b)]) C (by decide +kernel) (by decide) rfl ?_
    refine y_new (pc := 8) (ci := 4) (idx := 10) (N := 25) (fs := [.null, .int 0, .null, .int 0, .null, .null, .null, .null, .null, .null, .null, .int 0, .long 0, .long 0, .int 0, .null, .int 0, .int 0, .int 0, .null, .int 0, .null, .int 0, .null, .null]) (W1 := fun r => yW3 cI cS (fun k => if k = 0 then q else u3 k) ++ [(r, .inr (4, [.null, .int 0, .null, .int 0, .null, .null, .null, .null, .null, .null, .null, .int 0, .long 0, .long 0, .int 0, .null, .int 0, .int 0, .int 0, .null, .int 0, .null, .int 0, .null, .null]))]) C (by decide) (xLk (n := 810) (by decide +kernel) rfl) rfl (xLk (n := 811) (by decide +kernel) rfl) (xLk (n := 97) (by decide +kernel) rfl) yD4 (by decide) (by decide) (by decide +kernel) (fun _ => rfl) (fun r => ?_)
    refine y_dup (pc := 11) C (by decide +kernel) ?_
    refine y_callI (pc := 12) (idx := 12) (as := []) (wc := [(r, .inr (4, [.null, .int 0, .null, .int 0, .null, .null, .null, .null, .null, .null, .null, .int 0, .long 0, .long 0, .int 0, .null, .int 0, .int 0, .int 0, .null, .int 0, .null, .int 0, .null, .null]))]) (wr := yW3 cI cS (fun k => if k = 0 then q else u3 k)) (W1 := fun u => yW3 cI cS (fun k => if k = 0 then q else u3 k) ++ yW4 cI cB (fun k => if k = 0 then r else u k)) C (isC := [39]) (isR := [0, 1, 2, 3, 4, 5, 6, 7, 8, 9, 10, 11, 12, 13, 14, 15, 16, 17, 18, 19, 20, 21, 22, 23, 24, 25, 26, 27, 28, 29, 30, 31, 32, 33, 34, 35, 36, 37, 38]) (ye_model D cI cB cS r) (xLk (n := 814) (by decide +kernel) rfl) (xLk (n := 813) (by decide +kernel) rfl) (xLk (n := 97) (by decide +kernel) rfl) (xLk (n := 812) (by decide +kernel) rfl) rfl (by decide +kernel) (by decide) (by decide) rfl (Nat.le_of_ble_eq_true rfl) (by decide) (by decide) (by decide +kernel) rfl rfl (by decide) (by decide) (by decide) (fun _ => rfl) (fun u4 => ?_)
    refine y_astore (pc := 15) (k := 2) (lv1 := [(2, .ref r), (1, .ref q), (0, .ref b)]) C (by decide +kernel) (by decide) rfl ?_
    refine y_iconst (pc := 16) (n := 0) (v := nI 0) C (by decide +kernel) (by decide) ?_
    refine y_istore (pc := 17) (k := 3) (lv1 := [(3, .int (nI 0)), (2, .ref r), (1, .ref q), (0, .ref b)]) C (by decide +kernel) (by decide) rfl ?_
    refine y_wk (lv1 := [(0, .ref b), (1, .ref q), (2, .ref r), (3, .int (nI 0))]) [3, 2, 1, 0] rfl ?_
    exact z_begin (u3 := fun k => if k = 0 then q else u3 k) (u4 := fun k => if k = 0 then r else u4 k) hL C0 hK hNx ⟨hz1, hz2, hz3⟩
  rw [lg_entry_eq]
  exact go s.heap [] _ (lv_entry ([.ref b]) (n := 4) (Nat.le_of_ble_eq_true rfl)) (fun k q h => by simp at h) ⟨fun i j p q h => by simp at h, fun k q h => by simp at h⟩ va_S.rf
