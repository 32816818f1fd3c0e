/-! ===== methods: the walk driven by the method's value ===== -/
/-- ints and longs; the references stand still -/
abbrev xN : Type := (Nat → Nat → Int32) × (Nat → Nat → Int64)
def rf0 : Nat → Nat → Option Nat := fun a k => (([[some 1, some 4, some 7, some 13, some 19, some 23, some 36, some 37, some 38], [none, none, none, some 2, some 3], [], [], [none, none, none, some 5, some 6], [], [], [none, none, none, some 8, some 9, some 10, some 11, some 12], [], [], [], [], [], [none, none, none, some 14, some 15, some 16, some 17, some 18], [], [], [], [], [], [none, none, none, some 20, some 21, some 22], [], [], [], [some 24, some 28, some 32], [none, none, none, some 25, some 26, some 27], [], [], [], [none, none, none, some 29, some 30, some 31], [], [], [], [none, none, none, some 33, some 34, some 35], [], [], [], [], [], [], [some 40, none, some 41, none, some 42, some 43, some 44, some 45, some 46, some 47, some 48, none, none, none, none, some 49, none, none, none, some 50, none, some 51, none, some 52, some 53]] : List (List (Option Nat))).getD a []).getD k none
def rf1 : Nat → Nat → Option Nat := va_up (va_up rf0 0 (va_up (rf0 0) 2 (some 13))) 0 (va_up (va_up rf0 0 (va_up (rf0 0) 2 (some 13)) 0) 3 (some 7))
def xU (n : xN) : xM := (n.1, n.2, rf0)
def xU1 (n : xN) : xM := (n.1, n.2, rf1)
def mI (n : xN) (a k : Nat) (v : Int32) : xN := (va_up n.1 a (upd (n.1 a) k v), n.2)
def mJ (n : xN) (a k : Nat) (v : Int64) : xN := (n.1, va_up n.2 a (va_up (n.2 a) k v))
def mCp (n : xN) (a0 a1 : Nat) (sp dp c : Int32) : xN := (va_up n.1 a1 (va_cpy (n.1 a0) (n.1 a1) sp.toNatClampNeg dp.toNatClampNeg c.toNatClampNeg), n.2)
/-- a method: its code, its class, how many locals, what it returns, its depth -/
abbrev xMd : Type := ByteArray × String × Nat × Option FieldType × Nat
def xGm {O : Type} (md : xMd) (res : O → Option Value × xM) (x : Option O) (pc : Nat) (lv : List (Nat × Value)) (st : List Value) (u : xM) : Prop :=
  ∀ (p : Program) (l : Launch) (e : Env) (R : Room) (s : State) (m : MethodId) (args : Array Value) (below : List Frame) (meth : Method) (c : Code) (G : xG), xCx p R s m args meth c G md.1 md.2.1 md.2.2.1 md.2.2.2.2 0 0 → meth.sig.returnType = md.2.2.2.1 → meth.locks = false → ∀ o, x = some o → xGo p l e R s m args below meth c G md.2.2.1 0 0 (MQ below (xQc G (res o)) args s 0 0 (xA G)) pc lv st u
/-- what a contract says of a method -/
def xEm (md : xMd) (y : MethodName) (as : List Value) (u : xM) (o : Option Value × xM) : Prop := xEv y md.1 md.2.2.1 md.2.2.2.1 md.2.2.2.2 as u o
section XMs
variable {O : Type} {md : xMd} {res : O → Option Value × xM} {x x1 x2 : Option O} {pc : Nat} {lv : List (Nat × Value)} {st : List Value} {u : xM}
theorem xm_none : xGm md res none pc lv st u := fun _ _ _ _ _ _ _ _ _ _ _ _ _ _ o h => nomatch h
theorem xm_blk {bs : List Bool} {pc' : Nat} {lv' : List (Nat × Value)} {st' : List Value} {u' : xM} (blk : List xIn) (hok : xOk md.2.1 md.1 pc blk = true) (h : xRun md.2.2.1 blk pc lv st u = some (bs, pc', lv', st', u')) (k : xGm md res x pc' lv' st' u') : xGm md res (gdl bs x) pc lv st u := fun p l e R s m args below meth c G C hr hl o ho => by
  obtain ⟨h1, h2⟩ := gdl_some ho
  exact xRun_ok C blk hok h h1 (k p l e R s m args below meth c G C hr hl o h2)
theorem xm_wk {lv' : List (Nat × Value)} (ks : List Nat) (hk : lv_pick lv ks = lv') (k : xGm md res x pc lv' st u) : xGm md res x pc lv st u := fun p l e R s m args below meth c G C hr hl o ho => xg_wk ks hk (k p l e R s m args below meth c G C hr hl o ho)
theorem xm_goto {off : Int} {tgt : Nat} (hd : decode md.1 pc = .ok (.goto off, 3)) (ht : (pc : Int) + off = (tgt : Int)) (k : xGm md res x tgt lv st u) : xGm md res x pc lv st u := fun p l e R s m args below meth c G C hr hl o ho => xg_goto C hd ht (k p l e R s m args below meth c G C hr hl o ho)
theorem xm_icmp_eq {a b : Int32} {off : Int} {tgt : Nat} (hd : decode md.1 pc = .ok (.if_icmp .eq off, 3)) (ht : (pc : Int) + off = (tgt : Int)) (kt : xGm md res x1 tgt lv st u) (kf : xGm md res x2 (pc + 3) lv st u) : xGm md res (if a = b then x1 else x2) pc lv (.int b :: .int a :: st) u := fun p l e R s m args below meth c G C hr hl o ho => xg_icmp_eq C hd ht (fun h => kt p l e R s m args below meth c G C hr hl o (by rw [if_pos h] at ho; exact ho)) (fun h => kf p l e R s m args below meth c G C hr hl o (by rw [if_neg h] at ho; exact ho))
theorem xm_if_eq {a : Int32} {off : Int} {tgt : Nat} (hd : decode md.1 pc = .ok (.ifCond .eq off, 3)) (ht : (pc : Int) + off = (tgt : Int)) (kt : xGm md res x1 tgt lv st u) (kf : xGm md res x2 (pc + 3) lv st u) : xGm md res (if a = 0 then x1 else x2) pc lv (.int a :: st) u := fun p l e R s m args below meth c G C hr hl o ho => xg_if_eq C hd ht (fun h => kt p l e R s m args below meth c G C hr hl o (by rw [if_pos h] at ho; exact ho)) (fun h => kf p l e R s m args below meth c G C hr hl o (by rw [if_neg h] at ho; exact ho))
theorem xm_icmp_lt {a b : Int32} {off : Int} {tgt : Nat} (hd : decode md.1 pc = .ok (.if_icmp .lt off, 3)) (ht : (pc : Int) + off = (tgt : Int)) (kt : xGm md res x1 tgt lv st u) (kf : xGm md res x2 (pc + 3) lv st u) : xGm md res (if a < b then x1 else x2) pc lv (.int b :: .int a :: st) u := fun p l e R s m args below meth c G C hr hl o ho => xg_icmp_lt C hd ht (fun h => kt p l e R s m args below meth c G C hr hl o (by rw [if_pos h] at ho; exact ho)) (fun h => kf p l e R s m args below meth c G C hr hl o (by rw [if_neg h] at ho; exact ho))
theorem xm_if_lt {a : Int32} {off : Int} {tgt : Nat} (hd : decode md.1 pc = .ok (.ifCond .lt off, 3)) (ht : (pc : Int) + off = (tgt : Int)) (kt : xGm md res x1 tgt lv st u) (kf : xGm md res x2 (pc + 3) lv st u) : xGm md res (if a < 0 then x1 else x2) pc lv (.int a :: st) u := fun p l e R s m args below meth c G C hr hl o ho => xg_if_lt C hd ht (fun h => kt p l e R s m args below meth c G C hr hl o (by rw [if_pos h] at ho; exact ho)) (fun h => kf p l e R s m args below meth c G C hr hl o (by rw [if_neg h] at ho; exact ho))
theorem xm_icmp_le {a b : Int32} {off : Int} {tgt : Nat} (hd : decode md.1 pc = .ok (.if_icmp .le off, 3)) (ht : (pc : Int) + off = (tgt : Int)) (kt : xGm md res x1 tgt lv st u) (kf : xGm md res x2 (pc + 3) lv st u) : xGm md res (if a ≤ b then x1 else x2) pc lv (.int b :: .int a :: st) u := fun p l e R s m args below meth c G C hr hl o ho => xg_icmp_le C hd ht (fun h => kt p l e R s m args below meth c G C hr hl o (by rw [if_pos h] at ho; exact ho)) (fun h => kf p l e R s m args below meth c G C hr hl o (by rw [if_neg h] at ho; exact ho))
theorem xm_if_le {a : Int32} {off : Int} {tgt : Nat} (hd : decode md.1 pc = .ok (.ifCond .le off, 3)) (ht : (pc : Int) + off = (tgt : Int)) (kt : xGm md res x1 tgt lv st u) (kf : xGm md res x2 (pc + 3) lv st u) : xGm md res (if a ≤ 0 then x1 else x2) pc lv (.int a :: st) u := fun p l e R s m args below meth c G C hr hl o ho => xg_if_le C hd ht (fun h => kt p l e R s m args below meth c G C hr hl o (by rw [if_pos h] at ho; exact ho)) (fun h => kf p l e R s m args below meth c G C hr hl o (by rw [if_neg h] at ho; exact ho))
theorem xm_icmp_gt {a b : Int32} {off : Int} {tgt : Nat} (hd : decode md.1 pc = .ok (.if_icmp .gt off, 3)) (ht : (pc : Int) + off = (tgt : Int)) (kt : xGm md res x1 tgt lv st u) (kf : xGm md res x2 (pc + 3) lv st u) : xGm md res (if b < a then x1 else x2) pc lv (.int b :: .int a :: st) u := fun p l e R s m args below meth c G C hr hl o ho => xg_icmp_gt C hd ht (fun h => kt p l e R s m args below meth c G C hr hl o (by rw [if_pos h] at ho; exact ho)) (fun h => kf p l e R s m args below meth c G C hr hl o (by rw [if_neg h] at ho; exact ho))
theorem xm_if_gt {a : Int32} {off : Int} {tgt : Nat} (hd : decode md.1 pc = .ok (.ifCond .gt off, 3)) (ht : (pc : Int) + off = (tgt : Int)) (kt : xGm md res x1 tgt lv st u) (kf : xGm md res x2 (pc + 3) lv st u) : xGm md res (if 0 < a then x1 else x2) pc lv (.int a :: st) u := fun p l e R s m args below meth c G C hr hl o ho => xg_if_gt C hd ht (fun h => kt p l e R s m args below meth c G C hr hl o (by rw [if_pos h] at ho; exact ho)) (fun h => kf p l e R s m args below meth c G C hr hl o (by rw [if_neg h] at ho; exact ho))
theorem xm_icmp_ge {a b : Int32} {off : Int} {tgt : Nat} (hd : decode md.1 pc = .ok (.if_icmp .ge off, 3)) (ht : (pc : Int) + off = (tgt : Int)) (kt : xGm md res x1 tgt lv st u) (kf : xGm md res x2 (pc + 3) lv st u) : xGm md res (if b ≤ a then x1 else x2) pc lv (.int b :: .int a :: st) u := fun p l e R s m args below meth c G C hr hl o ho => xg_icmp_ge C hd ht (fun h => kt p l e R s m args below meth c G C hr hl o (by rw [if_pos h] at ho; exact ho)) (fun h => kf p l e R s m args below meth c G C hr hl o (by rw [if_neg h] at ho; exact ho))
theorem xm_if_ge {a : Int32} {off : Int} {tgt : Nat} (hd : decode md.1 pc = .ok (.ifCond .ge off, 3)) (ht : (pc : Int) + off = (tgt : Int)) (kt : xGm md res x1 tgt lv st u) (kf : xGm md res x2 (pc + 3) lv st u) : xGm md res (if 0 ≤ a then x1 else x2) pc lv (.int a :: st) u := fun p l e R s m args below meth c G C hr hl o ho => xg_if_ge C hd ht (fun h => kt p l e R s m args below meth c G C hr hl o (by rw [if_pos h] at ho; exact ho)) (fun h => kf p l e R s m args below meth c G C hr hl o (by rw [if_neg h] at ho; exact ho))
theorem xm_icmp_ne {a b : Int32} {off : Int} {tgt : Nat} (hd : decode md.1 pc = .ok (.if_icmp .ne off, 3)) (ht : (pc : Int) + off = (tgt : Int)) (kt : xGm md res x1 tgt lv st u) (kf : xGm md res x2 (pc + 3) lv st u) : xGm md res (if a = b then x2 else x1) pc lv (.int b :: .int a :: st) u := fun p l e R s m args below meth c G C hr hl o ho => xg_icmp_ne C hd ht (fun h => kt p l e R s m args below meth c G C hr hl o (by rw [if_neg h] at ho; exact ho)) (fun h => kf p l e R s m args below meth c G C hr hl o (by rw [if_pos h] at ho; exact ho))
theorem xm_if_ne {a : Int32} {off : Int} {tgt : Nat} (hd : decode md.1 pc = .ok (.ifCond .ne off, 3)) (ht : (pc : Int) + off = (tgt : Int)) (kt : xGm md res x1 tgt lv st u) (kf : xGm md res x2 (pc + 3) lv st u) : xGm md res (if a = 0 then x2 else x1) pc lv (.int a :: st) u := fun p l e R s m args below meth c G C hr hl o ho => xg_if_ne C hd ht (fun h => kt p l e R s m args below meth c G C hr hl o (by rw [if_neg h] at ho; exact ho)) (fun h => kf p l e R s m args below meth c G C hr hl o (by rw [if_pos h] at ho; exact ho))
theorem xm_tout {a : Int32} {dflt lo hi : Int} {offs : Array Int} {len tgt : Nat} (hd : decode md.1 pc = .ok (.tableswitch dflt lo hi offs, len)) (ht : (pc : Int) + dflt = (tgt : Int)) (k : xGm md res x1 tgt lv st u) (k2 : xGm md res x2 pc lv (.int a :: st) u) : xGm md res (if a.toInt < lo ∨ hi < a.toInt then x1 else x2) pc lv (.int a :: st) u := fun p l e R s m args below meth c G C hr hl o ho => by
  by_cases h : a.toInt < lo ∨ hi < a.toInt
  · rw [if_pos h] at ho
    exact xg_tout C hd h ht (k p l e R s m args below meth c G C hr hl o ho)
  · rw [if_neg h] at ho
    exact k2 p l e R s m args below meth c G C hr hl o ho
theorem xm_tin {a : Int32} (v : Int32) {dflt lo hi off : Int} {offs : Array Int} {len tgt : Nat} (hd : decode md.1 pc = .ok (.tableswitch dflt lo hi offs, len)) (h1 : ¬ v.toInt < lo) (h2 : ¬ hi < v.toInt) (ho : offs[(v.toInt - lo).toNat]? = some off) (ht : (pc : Int) + off = (tgt : Int)) (k : xGm md res x1 tgt lv st u) (k2 : xGm md res x2 pc lv (.int a :: st) u) : xGm md res (if a = v then x1 else x2) pc lv (.int a :: st) u := fun p l e R s m args below meth c G C hr hl o hx => by
  by_cases h : a = v
  · rw [if_pos h] at hx
    subst h
    exact xg_tin C hd h1 h2 ho ht (k p l e R s m args below meth c G C hr hl o hx)
  · rw [if_neg h] at hx
    exact k2 p l e R s m args below meth c G C hr hl o hx
/-- a place of the array of Standings: 24, 28, 32 -/
theorem xm_aald {n : xN} {i : Int32} {x0 : Option O} (hd : decode md.1 pc = .ok (.aaload, 1)) (k0 : xGm md res x0 (pc + 1) lv (.ref 24 :: st) (xU n)) (k1 : xGm md res x1 (pc + 1) lv (.ref 28 :: st) (xU n)) (k2 : xGm md res x2 (pc + 1) lv (.ref 32 :: st) (xU n)) : xGm md res (if i = 0 then x0 else if i = 1 then x1 else if i = 2 then x2 else none) pc lv (.int i :: .ref 23 :: st) (xU n) := fun p l e R s m args below meth c G C hr hl o ho => by
  split at ho
  · rename_i h
    subst h
    exact xg_aald C hd (by decide) rfl (k0 p l e R s m args below meth c G C hr hl o ho)
  · split at ho
    · rename_i h
      subst h
      exact xg_aald C hd (by decide) rfl (k1 p l e R s m args below meth c G C hr hl o ho)
    · split at ho
      · rename_i h
        subst h
        exact xg_aald C hd (by decide) rfl (k2 p l e R s m args below meth c G C hr hl o ho)
      · cases ho
theorem xm_aald1 {n : xN} {i : Int32} {x0 : Option O} (hd : decode md.1 pc = .ok (.aaload, 1)) (k0 : xGm md res x0 (pc + 1) lv (.ref 24 :: st) (xU1 n)) (k1 : xGm md res x1 (pc + 1) lv (.ref 28 :: st) (xU1 n)) (k2 : xGm md res x2 (pc + 1) lv (.ref 32 :: st) (xU1 n)) : xGm md res (if i = 0 then x0 else if i = 1 then x1 else if i = 2 then x2 else none) pc lv (.int i :: .ref 23 :: st) (xU1 n) := fun p l e R s m args below meth c G C hr hl o ho => by
  split at ho
  · rename_i h
    subst h
    exact xg_aald C hd (by decide) rfl (k0 p l e R s m args below meth c G C hr hl o ho)
  · split at ho
    · rename_i h
      subst h
      exact xg_aald C hd (by decide) rfl (k1 p l e R s m args below meth c G C hr hl o ho)
    · split at ho
      · rename_i h
        subst h
        exact xg_aald C hd (by decide) rfl (k2 p l e R s m args below meth c G C hr hl o ho)
      · cases ho
theorem xm_acopy {a0 a1 idx p1 : Nat} {sp dp n : Int32} (n0 n1 : Nat) (hd : decode md.1 pc = .ok (.invokestatic idx, 3)) (hlk : lw_tbl[p1]? = some (Cond.methodLink md.2.1 idx arraycopyName)) (h1 : xSh a0 = (1, n0)) (h2 : xSh a1 = (1, n1)) (l0 : a0 < 54) (l1 : a1 < 54) (hd1 : 1 ≤ md.2.2.2.2) (hst : (st.map fun v => v.category).sum ≤ 8) (k : xGm md res x (pc + 3) lv st (xCp u a0 a1 sp dp n)) : xGm md res (gdl [cpok sp dp n n0 n1] x) pc lv (.int n :: .int dp :: .ref a1 :: .int sp :: .ref a0 :: st) u := fun p l e R s m args below meth c G C hr hl o ho => by
  obtain ⟨b1, b2⟩ := gdl_some ho
  exact xg_acopy C hd (xLk hlk rfl) h1 h2 l0 l1 (b1 _ List.mem_cons_self) hd1 hst (k p l e R s m args below meth c G C hr hl o b2)
theorem xm_iret {o : O} {v : Int32} (hd : decode md.1 pc = .ok (.ireturn, 1)) (hr : md.2.2.2.1 = some .int) (h : res o = (some (.int v), u)) : xGm md res (some o) pc lv [.int v] u := fun p l e R s m args below meth c G C hret hl o' ho => by
  cases ho
  intro H locs ls hlv hP hS
  exact W.iret C.1 C.2.1 (hret.trans hr) (fun t ht hW => ⟨by rw [h]; rfl, by rw [h, ht]; exact hP, hS.F ht⟩) hS.2.2 hd hl
theorem xm_lret {o : O} {v : Int64} (hd : decode md.1 pc = .ok (.lreturn, 1)) (hr : md.2.2.2.1 = some .long) (h : res o = (some (.long v), u)) : xGm md res (some o) pc lv [.long v] u := fun p l e R s m args below meth c G C hret hl o' ho => by
  cases ho
  intro H locs ls hlv hP hS
  exact W.lret C.1 C.2.1 (hret.trans hr) (fun t ht hW => ⟨by rw [h]; rfl, by rw [h, ht]; exact hP, hS.F ht⟩) hS.2.2 hd hl
theorem xm_vret {o : O} (hd : decode md.1 pc = .ok (.return_, 1)) (hr : md.2.2.2.1 = none) (h : res o = (none, u)) : xGm md res (some o) pc lv [] u := fun p l e R s m args below meth c G C hret hl o' ho => by
  cases ho
  intro H locs ls hlv hP hS
  exact W.vret C.1 C.2.1 (hret.trans hr) (fun t ht hW => ⟨by rw [h]; rfl, by rw [h, ht]; exact hP, hS.F ht⟩) hS.2.2 hd hl
theorem xm_zret0 {o : O} {v : Int32} (hd : decode md.1 pc = .ok (.ireturn, 1)) (hr : md.2.2.2.1 = some .boolean) (hv : isb v = true) (h : res o = (some (.int v), u)) : xGm md res (some o) pc lv [.int v] u := fun p l e R s m args below meth c G C hret hl o' ho => by
  cases ho
  intro H locs ls hlv hP hS
  have hy := isb_or hv
  exact W.zret C.1 C.2.1 (hret.trans hr) (by rcases hy with rfl | rfl <;> rfl) (fun t ht hW => ⟨by rw [h]; rfl, by rw [h, ht]; exact hP, hS.F ht⟩) hS.2.2 hd hl
theorem xm_zret {o : O} {v : Int32} (hd : decode md.1 pc = .ok (.ireturn, 1)) (hr : md.2.2.2.1 = some .boolean) (h : res o = (some (.int v), u)) : xGm md res (gdl [isb v] (some o)) pc lv [.int v] u := fun p l e R s m args below meth c G C hret hl o' ho => by
  obtain ⟨b1, b2⟩ := gdl_some ho
  exact xm_zret0 hd hr (b1 _ List.mem_cons_self) h p l e R s m args below meth c G C hret hl o' b2
theorem xm_met {y : MethodName} {as : List Value} (h : xGm md res x 0 (lv_args 0 as) [] u) (hpl : plainName y.cls = true) (hown : y.cls = md.2.1) (hlen : (lg_sl as).length ≤ md.2.2.1) : ∀ o, x = some o → xEm md y as u (res o) := by
  intro o ho l G
  refine Met.ofW (cc := md.1) (maxL := md.2.2.1) (ret := md.2.2.2.1) hpl rfl ?_
  intro p e s m args below meth c s₁ B hml hv
  obtain ⟨rfl, hP, hWo⟩ := hv
  have hts := atoms_spec (ws := .code y md.1 md.2.2.1 md.2.2.2.1 :: lw_g) B.pre
  have hsl : (lg_sl (as.map (xc G))).length = (lg_sl as).length := by
    clear h ho hlen hP hts B
    induction as with
    | nil => rfl
    | cons v vs ih =>
      have e1 : ∀ (v : Value) (vs : List Value), (lg_sl (v :: vs)).length = (if v.category = 2 then 2 else 1) + (lg_sl vs).length := by
        intro v vs
        simp only [lg_sl, List.flatMap_cons, List.length_append]
        split <;> rfl
      rw [List.map_cons, e1, e1, xc_cat, ih]
  have C : xCx p (headSpec (.code y md.1 md.2.2.1 md.2.2.2.1 :: lw_g) (xRm md.2.2.2.2)).room s m (as.map (xc G)).toArray meth c G md.1 md.2.1 md.2.2.1 md.2.2.2.2 0 0 := ⟨B.exec, B.bytes, hml, by rw [← hown]; exact findClass_of_methodNamed B.named, fun w hw => hts w (List.mem_cons_of_mem _ hw), hWo, Nat.le_refl _, Nat.le_refl _, Nat.zero_le _, Nat.zero_le _⟩
  rw [lg_entry_eq]
  refine h p l e _ s m _ below meth c G C B.returns B.notSynchronized o ho s.heap [] _ ?_ hP va_S.rf
  have hl := lv_entry (as.map (xc G)) (n := md.2.2.1) (by rw [hsl]; exact hlen)
  rw [lv_args_xc] at hl
  exact hl
theorem xm_Vi {mz : xMd} {y : MethodName} {n idx a ci p1 : Nat} {as : List Value} {f : Option Int32} {kx : Int32 → Option O} (hM : ∀ r, f = some r → xEm mz y (.ref a :: as) u (some (.int r), u)) (hw : xMv y mz.1 mz.2.2.1 mz.2.2.2.1 n) (hd : decode md.1 pc = .ok (.invokevirtual idx, 3)) (hlk : lw_tbl[p1]? = some (Cond.methodLink md.2.1 idx y)) (hlt : mz.2.2.2.2 < md.2.2.2.2 ∧ mz.2.2.1 ≤ 40) (hn : as.length = n) (hsh : xSh a = (0, ci)) (ha : a < 54 ∧ ci < 5) (hcls : xRn ci = y.cls) (hst : (st.map fun v => v.category).sum ≤ 8) (k : ∀ r : Int32, xGm md res (kx r) (pc + 3) lv (.int r :: st) u) : xGm md res (Option.bind f kx) pc lv (as.reverse ++ .ref a :: st) u := fun p l e R s m args below meth c G C hr hl o ho => by
  obtain ⟨r, h1, h2⟩ := Option.bind_eq_some_iff.mp ho
  exact xg_callV C (hM r h1) hw hd (xLk hlk rfl) hlt.1 hlt.2 hn hsh ha.1 ha.2 hcls hst (k r p l e R s m args below meth c G C hr hl o h2)
theorem xm_Si {mz : xMd} {y : MethodName} {n idx p1 : Nat} {as : List Value} {f : Option Int32} {kx : Int32 → Option O} (hM : ∀ r, f = some r → xEm mz y as u (some (.int r), u)) (hw : xMs y mz.1 mz.2.2.1 mz.2.2.2.1 n) (hd : decode md.1 pc = .ok (.invokestatic idx, 3)) (hlk : lw_tbl[p1]? = some (Cond.methodLink md.2.1 idx y)) (hlt : mz.2.2.2.2 < md.2.2.2.2 ∧ mz.2.2.1 ≤ 40) (hn : as.length = n) (hst : (st.map fun v => v.category).sum ≤ 8) (k : ∀ r : Int32, xGm md res (kx r) (pc + 3) lv (.int r :: st) u) : xGm md res (Option.bind f kx) pc lv (as.reverse ++ st) u := fun p l e R s m args below meth c G C hr hl o ho => by
  obtain ⟨r, h1, h2⟩ := Option.bind_eq_some_iff.mp ho
  exact xg_callS C (hM r h1) hw hd (xLk hlk rfl) hlt.1 hlt.2 hn hst (k r p l e R s m args below meth c G C hr hl o h2)
theorem xm_Ni {mz : xMd} {y : MethodName} {n idx : Nat} {as : List Value} {host : String} {f : Option Int32} {kx : Int32 → Option O} (hM : ∀ r, f = some r → xEm mz y as u (some (.int r), u)) (hw : xMs y mz.1 mz.2.2.1 mz.2.2.2.1 n) (hd : decode md.1 pc = .ok (.invokestatic idx, 3)) (hlk : ∀ s, xNst s → va_Nw (.methodLinkNest md.2.1 idx y host) s) (hlt : mz.2.2.2.2 < md.2.2.2.2 ∧ mz.2.2.1 ≤ 40) (hn : as.length = n) (hst : (st.map fun v => v.category).sum ≤ 8) (k : ∀ r : Int32, xGm md res (kx r) (pc + 3) lv (.int r :: st) u) : xGm md res (Option.bind f kx) pc lv (as.reverse ++ st) u := fun p l e R s m args below meth c G C hr hl o ho => by
  obtain ⟨r, h1, h2⟩ := Option.bind_eq_some_iff.mp ho
  exact xg_callN C (hM r h1) hw hd (hlk s) hlt.1 hlt.2 hn hst (k r p l e R s m args below meth c G C hr hl o h2)
theorem xm_Vl {mz : xMd} {y : MethodName} {n idx a ci p1 : Nat} {as : List Value} {f : Option Int64} {kx : Int64 → Option O} (hM : ∀ r, f = some r → xEm mz y (.ref a :: as) u (some (.long r), u)) (hw : xMv y mz.1 mz.2.2.1 mz.2.2.2.1 n) (hd : decode md.1 pc = .ok (.invokevirtual idx, 3)) (hlk : lw_tbl[p1]? = some (Cond.methodLink md.2.1 idx y)) (hlt : mz.2.2.2.2 < md.2.2.2.2 ∧ mz.2.2.1 ≤ 40) (hn : as.length = n) (hsh : xSh a = (0, ci)) (ha : a < 54 ∧ ci < 5) (hcls : xRn ci = y.cls) (hst : (st.map fun v => v.category).sum ≤ 8) (k : ∀ r : Int64, xGm md res (kx r) (pc + 3) lv (.long r :: st) u) : xGm md res (Option.bind f kx) pc lv (as.reverse ++ .ref a :: st) u := fun p l e R s m args below meth c G C hr hl o ho => by
  obtain ⟨r, h1, h2⟩ := Option.bind_eq_some_iff.mp ho
  exact xg_callV C (hM r h1) hw hd (xLk hlk rfl) hlt.1 hlt.2 hn hsh ha.1 ha.2 hcls hst (k r p l e R s m args below meth c G C hr hl o h2)
theorem xm_Sl {mz : xMd} {y : MethodName} {n idx p1 : Nat} {as : List Value} {f : Option Int64} {kx : Int64 → Option O} (hM : ∀ r, f = some r → xEm mz y as u (some (.long r), u)) (hw : xMs y mz.1 mz.2.2.1 mz.2.2.2.1 n) (hd : decode md.1 pc = .ok (.invokestatic idx, 3)) (hlk : lw_tbl[p1]? = some (Cond.methodLink md.2.1 idx y)) (hlt : mz.2.2.2.2 < md.2.2.2.2 ∧ mz.2.2.1 ≤ 40) (hn : as.length = n) (hst : (st.map fun v => v.category).sum ≤ 8) (k : ∀ r : Int64, xGm md res (kx r) (pc + 3) lv (.long r :: st) u) : xGm md res (Option.bind f kx) pc lv (as.reverse ++ st) u := fun p l e R s m args below meth c G C hr hl o ho => by
  obtain ⟨r, h1, h2⟩ := Option.bind_eq_some_iff.mp ho
  exact xg_callS C (hM r h1) hw hd (xLk hlk rfl) hlt.1 hlt.2 hn hst (k r p l e R s m args below meth c G C hr hl o h2)
theorem xm_Nl {mz : xMd} {y : MethodName} {n idx : Nat} {as : List Value} {host : String} {f : Option Int64} {kx : Int64 → Option O} (hM : ∀ r, f = some r → xEm mz y as u (some (.long r), u)) (hw : xMs y mz.1 mz.2.2.1 mz.2.2.2.1 n) (hd : decode md.1 pc = .ok (.invokestatic idx, 3)) (hlk : ∀ s, xNst s → va_Nw (.methodLinkNest md.2.1 idx y host) s) (hlt : mz.2.2.2.2 < md.2.2.2.2 ∧ mz.2.2.1 ≤ 40) (hn : as.length = n) (hst : (st.map fun v => v.category).sum ≤ 8) (k : ∀ r : Int64, xGm md res (kx r) (pc + 3) lv (.long r :: st) u) : xGm md res (Option.bind f kx) pc lv (as.reverse ++ st) u := fun p l e R s m args below meth c G C hr hl o ho => by
  obtain ⟨r, h1, h2⟩ := Option.bind_eq_some_iff.mp ho
  exact xg_callN C (hM r h1) hw hd (hlk s) hlt.1 hlt.2 hn hst (k r p l e R s m args below meth c G C hr hl o h2)
theorem xm_Vm {mz : xMd} {y : MethodName} {n idx a ci p1 : Nat} {as : List Value} {f : Option (Int32 × xN)} {kx : Int32 × xN → Option O} (hM : ∀ r, f = some r → xEm mz y (.ref a :: as) u (some (.int r.1), xU r.2)) (hw : xMv y mz.1 mz.2.2.1 mz.2.2.2.1 n) (hd : decode md.1 pc = .ok (.invokevirtual idx, 3)) (hlk : lw_tbl[p1]? = some (Cond.methodLink md.2.1 idx y)) (hlt : mz.2.2.2.2 < md.2.2.2.2 ∧ mz.2.2.1 ≤ 40) (hn : as.length = n) (hsh : xSh a = (0, ci)) (ha : a < 54 ∧ ci < 5) (hcls : xRn ci = y.cls) (hst : (st.map fun v => v.category).sum ≤ 8) (k : ∀ r : Int32 × xN, xGm md res (kx r) (pc + 3) lv (.int r.1 :: st) (xU r.2)) : xGm md res (Option.bind f kx) pc lv (as.reverse ++ .ref a :: st) u := fun p l e R s m args below meth c G C hr hl o ho => by
  obtain ⟨r, h1, h2⟩ := Option.bind_eq_some_iff.mp ho
  exact xg_callV C (hM r h1) hw hd (xLk hlk rfl) hlt.1 hlt.2 hn hsh ha.1 ha.2 hcls hst (k r p l e R s m args below meth c G C hr hl o h2)
theorem xm_Sm {mz : xMd} {y : MethodName} {n idx p1 : Nat} {as : List Value} {f : Option (Int32 × xN)} {kx : Int32 × xN → Option O} (hM : ∀ r, f = some r → xEm mz y as u (some (.int r.1), xU r.2)) (hw : xMs y mz.1 mz.2.2.1 mz.2.2.2.1 n) (hd : decode md.1 pc = .ok (.invokestatic idx, 3)) (hlk : lw_tbl[p1]? = some (Cond.methodLink md.2.1 idx y)) (hlt : mz.2.2.2.2 < md.2.2.2.2 ∧ mz.2.2.1 ≤ 40) (hn : as.length = n) (hst : (st.map fun v => v.category).sum ≤ 8) (k : ∀ r : Int32 × xN, xGm md res (kx r) (pc + 3) lv (.int r.1 :: st) (xU r.2)) : xGm md res (Option.bind f kx) pc lv (as.reverse ++ st) u := fun p l e R s m args below meth c G C hr hl o ho => by
  obtain ⟨r, h1, h2⟩ := Option.bind_eq_some_iff.mp ho
  exact xg_callS C (hM r h1) hw hd (xLk hlk rfl) hlt.1 hlt.2 hn hst (k r p l e R s m args below meth c G C hr hl o h2)
theorem xm_Nm {mz : xMd} {y : MethodName} {n idx : Nat} {as : List Value} {host : String} {f : Option (Int32 × xN)} {kx : Int32 × xN → Option O} (hM : ∀ r, f = some r → xEm mz y as u (some (.int r.1), xU r.2)) (hw : xMs y mz.1 mz.2.2.1 mz.2.2.2.1 n) (hd : decode md.1 pc = .ok (.invokestatic idx, 3)) (hlk : ∀ s, xNst s → va_Nw (.methodLinkNest md.2.1 idx y host) s) (hlt : mz.2.2.2.2 < md.2.2.2.2 ∧ mz.2.2.1 ≤ 40) (hn : as.length = n) (hst : (st.map fun v => v.category).sum ≤ 8) (k : ∀ r : Int32 × xN, xGm md res (kx r) (pc + 3) lv (.int r.1 :: st) (xU r.2)) : xGm md res (Option.bind f kx) pc lv (as.reverse ++ st) u := fun p l e R s m args below meth c G C hr hl o ho => by
  obtain ⟨r, h1, h2⟩ := Option.bind_eq_some_iff.mp ho
  exact xg_callN C (hM r h1) hw hd (hlk s) hlt.1 hlt.2 hn hst (k r p l e R s m args below meth c G C hr hl o h2)
theorem xm_Vv {mz : xMd} {y : MethodName} {n idx a ci p1 : Nat} {as : List Value} {f : Option xN} {kx : xN → Option O} (hM : ∀ r, f = some r → xEm mz y (.ref a :: as) u (none, xU r)) (hw : xMv y mz.1 mz.2.2.1 mz.2.2.2.1 n) (hd : decode md.1 pc = .ok (.invokevirtual idx, 3)) (hlk : lw_tbl[p1]? = some (Cond.methodLink md.2.1 idx y)) (hlt : mz.2.2.2.2 < md.2.2.2.2 ∧ mz.2.2.1 ≤ 40) (hn : as.length = n) (hsh : xSh a = (0, ci)) (ha : a < 54 ∧ ci < 5) (hcls : xRn ci = y.cls) (hst : (st.map fun v => v.category).sum ≤ 8) (k : ∀ r : xN, xGm md res (kx r) (pc + 3) lv st (xU r)) : xGm md res (Option.bind f kx) pc lv (as.reverse ++ .ref a :: st) u := fun p l e R s m args below meth c G C hr hl o ho => by
  obtain ⟨r, h1, h2⟩ := Option.bind_eq_some_iff.mp ho
  exact xg_callV C (hM r h1) hw hd (xLk hlk rfl) hlt.1 hlt.2 hn hsh ha.1 ha.2 hcls hst (k r p l e R s m args below meth c G C hr hl o h2)
theorem xm_Sv {mz : xMd} {y : MethodName} {n idx p1 : Nat} {as : List Value} {f : Option xN} {kx : xN → Option O} (hM : ∀ r, f = some r → xEm mz y as u (none, xU r)) (hw : xMs y mz.1 mz.2.2.1 mz.2.2.2.1 n) (hd : decode md.1 pc = .ok (.invokestatic idx, 3)) (hlk : lw_tbl[p1]? = some (Cond.methodLink md.2.1 idx y)) (hlt : mz.2.2.2.2 < md.2.2.2.2 ∧ mz.2.2.1 ≤ 40) (hn : as.length = n) (hst : (st.map fun v => v.category).sum ≤ 8) (k : ∀ r : xN, xGm md res (kx r) (pc + 3) lv st (xU r)) : xGm md res (Option.bind f kx) pc lv (as.reverse ++ st) u := fun p l e R s m args below meth c G C hr hl o ho => by
  obtain ⟨r, h1, h2⟩ := Option.bind_eq_some_iff.mp ho
  exact xg_callS C (hM r h1) hw hd (xLk hlk rfl) hlt.1 hlt.2 hn hst (k r p l e R s m args below meth c G C hr hl o h2)
theorem xm_Nv {mz : xMd} {y : MethodName} {n idx : Nat} {as : List Value} {host : String} {f : Option xN} {kx : xN → Option O} (hM : ∀ r, f = some r → xEm mz y as u (none, xU r)) (hw : xMs y mz.1 mz.2.2.1 mz.2.2.2.1 n) (hd : decode md.1 pc = .ok (.invokestatic idx, 3)) (hlk : ∀ s, xNst s → va_Nw (.methodLinkNest md.2.1 idx y host) s) (hlt : mz.2.2.2.2 < md.2.2.2.2 ∧ mz.2.2.1 ≤ 40) (hn : as.length = n) (hst : (st.map fun v => v.category).sum ≤ 8) (k : ∀ r : xN, xGm md res (kx r) (pc + 3) lv st (xU r)) : xGm md res (Option.bind f kx) pc lv (as.reverse ++ st) u := fun p l e R s m args below meth c G C hr hl o ho => by
  obtain ⟨r, h1, h2⟩ := Option.bind_eq_some_iff.mp ho
  exact xg_callN C (hM r h1) hw hd (hlk s) hlt.1 hlt.2 hn hst (k r p l e R s m args below meth c G C hr hl o h2)
theorem xm_Vw {mz : xMd} {y : MethodName} {n idx a ci p1 : Nat} {as : List Value} {f : Option xN} {kx : xN → Option O} (hM : ∀ r, f = some r → xEm mz y (.ref a :: as) u (none, xU1 r)) (hw : xMv y mz.1 mz.2.2.1 mz.2.2.2.1 n) (hd : decode md.1 pc = .ok (.invokevirtual idx, 3)) (hlk : lw_tbl[p1]? = some (Cond.methodLink md.2.1 idx y)) (hlt : mz.2.2.2.2 < md.2.2.2.2 ∧ mz.2.2.1 ≤ 40) (hn : as.length = n) (hsh : xSh a = (0, ci)) (ha : a < 54 ∧ ci < 5) (hcls : xRn ci = y.cls) (hst : (st.map fun v => v.category).sum ≤ 8) (k : ∀ r : xN, xGm md res (kx r) (pc + 3) lv st (xU1 r)) : xGm md res (Option.bind f kx) pc lv (as.reverse ++ .ref a :: st) u := fun p l e R s m args below meth c G C hr hl o ho => by
  obtain ⟨r, h1, h2⟩ := Option.bind_eq_some_iff.mp ho
  exact xg_callV C (hM r h1) hw hd (xLk hlk rfl) hlt.1 hlt.2 hn hsh ha.1 ha.2 hcls hst (k r p l e R s m args below meth c G C hr hl o h2)
end XMs
theorem xm_blk0 {O : Type} {md : xMd} {res : O → Option Value × xM} {x : Option O} {pc : Nat} {lv : List (Nat × Value)} {st : List Value} {u : xM} {pc' : Nat} {lv' : List (Nat × Value)} {st' : List Value} {u' : xM} (blk : List xIn) (hok : xOk md.2.1 md.1 pc blk = true) (h : xRun md.2.2.1 blk pc lv st u = some ([], pc', lv', st', u')) (k : xGm md res x pc' lv' st' u') : xGm md res x pc lv st u := xm_blk (bs := []) blk hok h k
def rsI (u : xM) : Int32 → Option Value × xM := fun r => (some (.int r), u)
def rsL (u : xM) : Int64 → Option Value × xM := fun r => (some (.long r), u)
def rsM : Int32 × xN → Option Value × xM := fun o => (some (.int o.1), xU o.2)
def rsV : xN → Option Value × xM := fun o => (none, xU o)
def rsW : xN → Option Value × xM := fun o => (none, xU1 o)
def rsC : Int32 × xN × Bool → Option Value × xM := fun o => (some (.int o.1), if o.2.2 = true then xU1 o.2.1 else xU o.2.1)
