theorem xW_mini : Cond.initialized "java/lang/Math" ∈ lw_g := lw_g_mk (by decide +kernel) rfl
theorem xW_max_s : Cond.static Lib.Math.max.name ∈ lw_g := lw_g_mk (by decide +kernel) rfl
theorem xW_max_c : Cond.code Lib.Math.max.name Lib.Math.max.code 2 (some .int) ∈ lw_g := lw_g_mk (by decide +kernel) rfl
theorem xm_mmax {O : Type} {md : xMd} {res : O → Option Value × xM} {x0 : Option O} {pc : Nat} {lv : List (Nat × Value)} {st : List Value} {u : xM} {idx p1 : Nat} {x y : Int32} (hd : decode md.1 pc = .ok (.invokestatic idx, 3)) (hlk : lw_tbl[p1]? = some (Cond.methodLink md.2.1 idx Lib.Math.max.name)) (hd1 : 1 ≤ md.2.2.2.2) (hst : (st.map fun v => v.category).sum ≤ 8) (k : xGm md res x0 (pc + 3) lv (.int (if x < y then y else x) :: st) u) : xGm md res x0 pc lv (.int y :: .int x :: st) u := fun p l e R s m args below meth c G C hr hl o ho => by
  have k1 := k p l e R s m args below meth c G C hr hl o ho
  obtain ⟨hx, hb, hml, hown, hts, hWo, hf, hlo, hc, hsl⟩ := C
  intro H locs ls hlv hP hS
  have hsm := xsum (G := G) hst
  exact va_mmax hx hb (hml.trans hlv.1.symm) hown (hts _ (xLk hlk rfl)) (hts _ xW_max_s) (hts _ xW_mini) (hts _ xW_max_c) (by omega) (by omega) hc hsl hd (k1 H locs ls hlv hP hS)
theorem xW_min_s : Cond.static Lib.Math.min.name ∈ lw_g := lw_g_mk (by decide +kernel) rfl
theorem xW_min_c : Cond.code Lib.Math.min.name Lib.Math.min.code 2 (some .int) ∈ lw_g := lw_g_mk (by decide +kernel) rfl
theorem xm_mmin {O : Type} {md : xMd} {res : O → Option Value × xM} {x0 : Option O} {pc : Nat} {lv : List (Nat × Value)} {st : List Value} {u : xM} {idx p1 : Nat} {x y : Int32} (hd : decode md.1 pc = .ok (.invokestatic idx, 3)) (hlk : lw_tbl[p1]? = some (Cond.methodLink md.2.1 idx Lib.Math.min.name)) (hd1 : 1 ≤ md.2.2.2.2) (hst : (st.map fun v => v.category).sum ≤ 8) (k : xGm md res x0 (pc + 3) lv (.int (if y < x then y else x) :: st) u) : xGm md res x0 pc lv (.int y :: .int x :: st) u := fun p l e R s m args below meth c G C hr hl o ho => by
  have k1 := k p l e R s m args below meth c G C hr hl o ho
  obtain ⟨hx, hb, hml, hown, hts, hWo, hf, hlo, hc, hsl⟩ := C
  intro H locs ls hlv hP hS
  have hsm := xsum (G := G) hst
  exact va_mmin hx hb (hml.trans hlv.1.symm) hown (hts _ (xLk hlk rfl)) (hts _ xW_min_s) (hts _ xW_mini) (hts _ xW_min_c) (by omega) (by omega) hc hsl hd (k1 H locs ls hlv hP hS)
