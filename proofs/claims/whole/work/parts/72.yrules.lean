/-! ===== constructors: worlds that grow ===== -/
abbrev yTy (cI cB cS : ClassId) : List (ClassId × FieldType) := [(cI, .int), (cB, .boolean), (cS, .object "NeitherBare$Standing")]
def yNst (U : State) : Prop := va_Nw (.methodLinkNest RX3 23 yX0_init RX3) U ∧ va_Nw (.methodLinkNest RX3 33 yX2_init RX3) U ∧ va_AO "NeitherBare$Standing" U
theorem yNst_warm {s U : State} (h : yNst s) (hW : s.WarmedH U.vm) : yNst U := ⟨h.1.warmM hW, h.2.1.warmM hW, va_AO.moved hW.alike h.2.2⟩
def yRm (d mc ms : Nat) : Room := { frames := d, cells := mc, slots := ms, locals := 64 * d }
abbrev yPc (D : va_G) (cI cB cS : ClassId) (as : List Value) (w0 : va_W) (sz : Nat) : Array Value → State → Prop := va_Pc as (fun U => U.heap.size = sz ∧ va_P D vwCl w0 U.heap ∧ va_D (fun _ => True) w0 ∧ va_K D vwCl (yTy cI cB cS) U ∧ yNst U)
abbrev yQc {S : Type} (D : va_G) (w1 : S → va_W) (A : Nat → Prop) : Array Value → State → Outcome → State → Prop := va_Qv (fun _ : S => True) (fun u t => va_P D vwCl (w1 u) t.heap ∧ va_D A (w1 u)) A
/-- what a constructor (or a method that only writes) does: from the cells w0 to the cells w1, some of them new -/
def yEv {S : Type} (D : va_G) (cI cB cS : ClassId) (y : MethodName) (cc : ByteArray) (nL d mc ms : Nat) (as : List Value) (w0 : va_W) (w1 : S → va_W) : Prop := ∀ (l : Launch) (sz : Nat), Met l y (.code y cc nL none :: lw_g) (yRm d mc ms) (yPc D cI cB cS as w0 sz) (yQc D w1 (va_A w0 sz)) mc ms (va_A w0 sz)
def yCx (p : Program) (R : Room) (s : State) (m : MethodId) (args : Array Value) (c : Code) (D : va_G) (cI cB cS : ClassId) (A : Nat → Prop) (cc : ByteArray) (own : String) (nL d mc ms : Nat) : Prop :=
  p.tables.exec = Jvm.exec ∧ c.code = cc ∧ c.maxLocals = nL ∧ s.vm.findClass own = some m.cls ∧ (∀ w ∈ lw_g, w.before args s = true) ∧ va_K D vwCl (yTy cI cB cS) s ∧ yNst s ∧ (∀ q, s.heap.size ≤ q → A q) ∧ d ≤ R.frames ∧ 64 * d ≤ R.locals ∧ mc ≤ R.cells ∧ ms ≤ R.slots
def yGo (p : Program) (l : Launch) (e : Env) (R : Room) (s : State) (m : MethodId) (args : Array Value) (below : List Frame) (meth : Method) (c : Code) (D : va_G) (nL : Nat) (A : Nat → Prop) (Q : State → Prop) (cells slots pc : Nat) (lv : List (Nat × Value)) (st : List Value) (ws : va_W) : Prop :=
  ∀ (H : Heap) (locs : List Loc) (ls : Array Slot), lv_has ls nL lv → va_P D vwCl ws H → va_D A ws → va_S A s.heap H locs → W p l e R s m args below meth c H locs cells slots Q (F0 m pc ls st)
theorem y_fm {ws w : va_W} {is : List Nat} (h : is.map (fun i => ws[i]?) = w.map some) : is.filterMap (fun i => ws[i]?) = w := by
  have h1 : (is.map (fun i => ws[i]?)).filterMap id = (w.map some).filterMap id := by rw [h]
  rw [List.filterMap_map, List.filterMap_map] at h1
  have e1 : (id ∘ fun i : Nat => ws[i]?) = fun i => ws[i]? := rfl
  have e2 : (id ∘ some : (Nat × va_E) → Option (Nat × va_E)) = some := rfl
  rw [e1, e2, List.filterMap_some] at h1
  exact h1
theorem yW_obj : Cond.code objectInit ⟨#[0xb1]⟩ 1 none ∈ lw_g := lw_g_mk (by decide +kernel) rfl
theorem yW_objI : Cond.instanceMethod objectInit ∈ lw_g := lw_g_mk (by decide +kernel) rfl
theorem yW_int : Cond.arrayClass .int ∈ lw_g := lw_g_mk (by decide +kernel) rfl
theorem yW_bool : Cond.arrayClass .boolean ∈ lw_g := lw_g_mk (by decide +kernel) rfl
section YG
variable {p : Program} {l : Launch} {e : Env} {R : Room} {s : State} {m : MethodId} {args : Array Value} {below : List Frame} {meth : Method} {c : Code} {D : va_G} {cI cB cS : ClassId} {A : Nat → Prop} {cc : ByteArray} {own : String} {nL d mc ms : Nat} {Q : State → Prop}
variable {cells slots pc : Nat} {lv : List (Nat × Value)} {st : List Value} {ws : va_W}
theorem y_aload (C : yCx p R s m args c D cI cB cS A cc own nL d mc ms) {k : _root_.Fin 4} {a : Nat} (hd : decode cc pc = .ok (.aload_n k, 1)) (hg : xGet lv k = some (.ref a)) (kk : yGo p l e R s m args below meth c D nL A Q cells slots (pc + 1) lv (.ref a :: st) ws) : yGo p l e R s m args below meth c D nL A Q cells slots pc lv st ws := fun H locs ls hl hP hD hS => lv_aload_n C.1 C.2.1 hd rfl (hl.2.2 _ (xGet_mem hg)) (kk H locs ls hl hP hD hS)
theorem y_iload (C : yCx p R s m args c D cI cB cS A cc own nL d mc ms) {k : _root_.Fin 4} {x : Int32} (hd : decode cc pc = .ok (.iload_n k, 1)) (hg : xGet lv k = some (.int x)) (kk : yGo p l e R s m args below meth c D nL A Q cells slots (pc + 1) lv (.int x :: st) ws) : yGo p l e R s m args below meth c D nL A Q cells slots pc lv st ws := fun H locs ls hl hP hD hS => lv_iload_n C.1 C.2.1 hd rfl (hl.2.2 _ (xGet_mem hg)) (kk H locs ls hl hP hD hS)
theorem y_iconst (C : yCx p R s m args c D cI cB cS A cc own nL d mc ms) {n : Int} {v : Int32} (hd : decode cc pc = .ok (.iconst n, 1)) (hv : Int32.ofInt n = v) (kk : yGo p l e R s m args below meth c D nL A Q cells slots (pc + 1) lv (.int v :: st) ws) : yGo p l e R s m args below meth c D nL A Q cells slots pc lv st ws := fun H locs ls hl hP hD hS => lv_iconst C.1 C.2.1 hd hv (kk H locs ls hl hP hD hS)
theorem y_bipush (C : yCx p R s m args c D cI cB cS A cc own nL d mc ms) {n : Int} {v : Int32} (hd : decode cc pc = .ok (.bipush n, 2)) (hv : (Int8.ofInt n).toInt32 = v) (kk : yGo p l e R s m args below meth c D nL A Q cells slots (pc + 2) lv (.int v :: st) ws) : yGo p l e R s m args below meth c D nL A Q cells slots pc lv st ws := fun H locs ls hl hP hD hS => lv_bipush C.1 C.2.1 hd hv (kk H locs ls hl hP hD hS)
theorem y_sipush (C : yCx p R s m args c D cI cB cS A cc own nL d mc ms) {n : Int} {v : Int32} (hd : decode cc pc = .ok (.sipush n, 3)) (hv : (Int16.ofInt n).toInt32 = v) (kk : yGo p l e R s m args below meth c D nL A Q cells slots (pc + 3) lv (.int v :: st) ws) : yGo p l e R s m args below meth c D nL A Q cells slots pc lv st ws := fun H locs ls hl hP hD hS => lv_sipush C.1 C.2.1 hd hv (kk H locs ls hl hP hD hS)
theorem y_lconst (C : yCx p R s m args c D cI cB cS A cc own nL d mc ms) {n : _root_.Fin 2} {v : Int64} (hd : decode cc pc = .ok (.lconst n, 1)) (hv : Int64.ofNat (n : Nat) = v) (kk : yGo p l e R s m args below meth c D nL A Q cells slots (pc + 1) lv (.long v :: st) ws) : yGo p l e R s m args below meth c D nL A Q cells slots pc lv st ws := fun H locs ls hl hP hD hS => lv_lconst C.1 C.2.1 hd hv (kk H locs ls hl hP hD hS)
theorem y_dup (C : yCx p R s m args c D cI cB cS A cc own nL d mc ms) {a : Nat} (hd : decode cc pc = .ok (.dup, 1)) (kk : yGo p l e R s m args below meth c D nL A Q cells slots (pc + 1) lv (.ref a :: .ref a :: st) ws) : yGo p l e R s m args below meth c D nL A Q cells slots pc lv (.ref a :: st) ws := fun H locs ls hl hP hD hS => lv_dup C.1 C.2.1 hd rfl (kk H locs ls hl hP hD hS)
theorem y_iadd (C : yCx p R s m args c D cI cB cS A cc own nL d mc ms) {x y v : Int32} (hd : decode cc pc = .ok (.iadd, 1)) (hv : x + y = v) (kk : yGo p l e R s m args below meth c D nL A Q cells slots (pc + 1) lv (.int v :: st) ws) : yGo p l e R s m args below meth c D nL A Q cells slots pc lv (.int y :: .int x :: st) ws := fun H locs ls hl hP hD hS => lv_iadd C.1 C.2.1 hd (hv ▸ (kk H locs ls hl hP hD hS))
theorem y_isub (C : yCx p R s m args c D cI cB cS A cc own nL d mc ms) {x y v : Int32} (hd : decode cc pc = .ok (.isub, 1)) (hv : x - y = v) (kk : yGo p l e R s m args below meth c D nL A Q cells slots (pc + 1) lv (.int v :: st) ws) : yGo p l e R s m args below meth c D nL A Q cells slots pc lv (.int y :: .int x :: st) ws := fun H locs ls hl hP hD hS => lv_isub C.1 C.2.1 hd (hv ▸ (kk H locs ls hl hP hD hS))
theorem y_imul (C : yCx p R s m args c D cI cB cS A cc own nL d mc ms) {x y v : Int32} (hd : decode cc pc = .ok (.imul, 1)) (hv : x * y = v) (kk : yGo p l e R s m args below meth c D nL A Q cells slots (pc + 1) lv (.int v :: st) ws) : yGo p l e R s m args below meth c D nL A Q cells slots pc lv (.int y :: .int x :: st) ws := fun H locs ls hl hP hD hS => lv_imul C.1 C.2.1 hd (hv ▸ (kk H locs ls hl hP hD hS))
theorem y_ishl (C : yCx p R s m args c D cI cB cS A cc own nL d mc ms) {x y v : Int32} (hd : decode cc pc = .ok (.ishl, 1)) (hv : x <<< (y &&& 31) = v) (kk : yGo p l e R s m args below meth c D nL A Q cells slots (pc + 1) lv (.int v :: st) ws) : yGo p l e R s m args below meth c D nL A Q cells slots pc lv (.int y :: .int x :: st) ws := fun H locs ls hl hP hD hS => lv_ishl C.1 C.2.1 hd (hv ▸ (kk H locs ls hl hP hD hS))
theorem y_istore (C : yCx p R s m args c D cI cB cS A cc own nL d mc ms) {k : _root_.Fin 4} {x : Int32} {lv1 : List (Nat × Value)} (hd : decode cc pc = .ok (.istore_n k, 1)) (hk : (k : Nat) < nL) (hl1 : ((k : Nat), Value.int x) :: lv.filter (fun q => !(q.1 == (k : Nat)) && !(q.1 + 1 == (k : Nat) && q.2.category == 2)) = lv1) (kk : yGo p l e R s m args below meth c D nL A Q cells slots (pc + 1) lv1 st ws) : yGo p l e R s m args below meth c D nL A Q cells slots pc lv (.int x :: st) ws := fun H locs ls hl hP hD hS => lv_istore_n C.1 C.2.1 hd rfl hl hk hl1 (fun ls1 h1 => kk H locs ls1 h1 hP hD hS)
theorem y_astore (C : yCx p R s m args c D cI cB cS A cc own nL d mc ms) {k : _root_.Fin 4} {x : Nat} {lv1 : List (Nat × Value)} (hd : decode cc pc = .ok (.astore_n k, 1)) (hk : (k : Nat) < nL) (hl1 : ((k : Nat), Value.ref x) :: lv.filter (fun q => !(q.1 == (k : Nat)) && !(q.1 + 1 == (k : Nat) && q.2.category == 2)) = lv1) (kk : yGo p l e R s m args below meth c D nL A Q cells slots (pc + 1) lv1 st ws) : yGo p l e R s m args below meth c D nL A Q cells slots pc lv (.ref x :: st) ws := fun H locs ls hl hP hD hS => lv_astore_n C.1 C.2.1 hd rfl hl hk hl1 (fun ls1 h1 => kk H locs ls1 h1 hP hD hS)
theorem y_iinc (C : yCx p R s m args c D cI cB cS A cc own nL d mc ms) {i k : Nat} {n : Int} {x v : Int32} {lv1 : List (Nat × Value)} (hd : decode cc pc = .ok (.iinc i n, 3)) (hk : lv[k]? = some (i, .int x)) (hv : x + Int32.ofInt n = v) (hn : i < nL) (hl1 : (i, Value.int v) :: lv.filter (fun q => !(q.1 == i) && !(q.1 + 1 == i && q.2.category == 2)) = lv1) (kk : yGo p l e R s m args below meth c D nL A Q cells slots (pc + 3) lv1 st ws) : yGo p l e R s m args below meth c D nL A Q cells slots pc lv st ws := fun H locs ls hl hP hD hS => lv_iinc C.1 C.2.1 hd hl hk hv hn hl1 (fun ls1 h1 => kk H locs ls1 h1 hP hD hS)
theorem y_goto (C : yCx p R s m args c D cI cB cS A cc own nL d mc ms) {off : Int} {tgt : Nat} (hd : decode cc pc = .ok (.goto off, 3)) (ht : (pc : Int) + off = (tgt : Int)) (kk : yGo p l e R s m args below meth c D nL A Q cells slots tgt lv st ws) : yGo p l e R s m args below meth c D nL A Q cells slots pc lv st ws := fun H locs ls hl hP hD hS => lv_goto C.1 C.2.1 hd ht (kk H locs ls hl hP hD hS)
theorem y_icmp_ge (C : yCx p R s m args c D cI cB cS A cc own nL d mc ms) {x y : Int32} {off : Int} {tgt : Nat} (hd : decode cc pc = .ok (.if_icmp .ge off, 3)) (ht : (pc : Int) + off = (tgt : Int)) (kt : y ≤ x → yGo p l e R s m args below meth c D nL A Q cells slots tgt lv st ws) (kf : ¬ y ≤ x → yGo p l e R s m args below meth c D nL A Q cells slots (pc + 3) lv st ws) : yGo p l e R s m args below meth c D nL A Q cells slots pc lv (.int y :: .int x :: st) ws := fun H locs ls hl hP hD hS => lv_icmp_ge C.1 C.2.1 hd ht (fun h => kt h H locs ls hl hP hD hS) (fun h => kf h H locs ls hl hP hD hS)
theorem y_eq {ws1 : va_W} (h : ws = ws1) (kk : yGo p l e R s m args below meth c D nL A Q cells slots pc lv st ws1) : yGo p l e R s m args below meth c D nL A Q cells slots pc lv st ws := h ▸ kk
theorem y_wk {lv1 : List (Nat × Value)} (ks : List Nat) (hk : lv_pick lv ks = lv1) (kk : yGo p l e R s m args below meth c D nL A Q cells slots pc lv1 st ws) : yGo p l e R s m args below meth c D nL A Q cells slots pc lv st ws := fun H locs ls hl hP hD hS => kk H locs ls (lv_sub hl ks hk) hP hD hS
theorem y_obj (C : yCx p R s m args c D cI cB cS A cc own nL d mc ms) {idx a : Nat} (hlk : Cond.methodLink own idx objectInit ∈ lw_g) (hd : decode cc pc = .ok (.invokespecial idx, 3)) (hd1 : 1 ≤ d) (hst : (st.map fun v => v.category).sum ≤ 8) (kk : yGo p l e R s m args below meth c D nL A Q cells slots (pc + 3) lv st ws) : yGo p l e R s m args below meth c D nL A Q cells slots pc lv (.ref a :: st) ws := by
  obtain ⟨hx, hb, hml, hown, hts, hK, hN, hA, hf, hlo, hc, hs⟩ := C
  intro H locs ls hl hP hD hS
  have hr := lv_room (m := m) (pc := pc) (ls := ls) (rest := .ref a :: st) hst
  refine W.objInit hx hb hown (hts _ hlk) (hts _ yW_objI) (hts _ yW_obj) rfl (by rw [hml]; exact hl.1) rfl hd (by omega) (by omega) ?_
  exact W.eq (g2 := F0 m (pc + 3) ls st) rfl (kk H locs ls hl hP hD hS)
theorem y_new (C : yCx p R s m args c D cI cB cS A cc own nL d mc ms) {ci idx N : Nat} {fs : List Value} {W1 : Nat → va_W} (h5 : ci < 5) (hcl : Cond.classLink own idx (xRn ci) ∈ lw_g) (hN : (xKs ci).length = N) (hin : Cond.instantiable (xRn ci) N ∈ lw_g) (hini : Cond.initialized (xRn ci) ∈ lw_g) (hfs : ∀ j, j < N → defaultValue (xTy ci j) = vp_V fs j) (hc : cells + 1 ≤ mc) (hs : slots + N ≤ ms) (hd : decode cc pc = .ok (.new idx, 3)) (hw : ∀ q, ws ++ [(q, .inr (ci, fs))] = W1 q) (kk : ∀ q : Nat, yGo p l e R s m args below meth c D nL A Q (cells + 1) (slots + N) (pc + 3) lv (.ref q :: st) (W1 q)) : yGo p l e R s m args below meth c D nL A Q cells slots pc lv st ws := by
  obtain ⟨hx, hb, hml, hown, hts, hK, hNs, hA, hf, hlo, hcc, hss⟩ := C
  subst hN
  intro H locs ls hl hP hD hS
  refine va_new hx hb hts (xWs ci h5) (xTy ci) (xTy_ok ci h5) hown (hts _ hcl) (hts _ hin) (hts _ hini) hK hP hD hS hA (xCl_at ci h5) hfs (Nat.le_trans hc hcc) (Nat.le_trans hs hss) hd (fun q H1 hP1 hD1 hS1 => ?_)
  rw [hw q] at hP1 hD1
  exact kk q H1 locs ls hl hP1 hD1 hS1
theorem y_newi (C : yCx p R s m args c D cI cB cS A cc own nL d mc ms) {n : Int32} {N : Nat} {W1 : Nat → va_W} (hn : ¬ n < 0) (hN : n.toNatClampNeg = N) (hby : N * 4 ≤ 536870912) (hc : cells + 1 ≤ mc) (hs : slots + N ≤ ms) (hd : decode cc pc = .ok (.newarray .int, 2)) (hw : ∀ q, ws ++ [(q, .inl (cI, N, .inl (fun _ => 0)))] = W1 q) (kk : ∀ q : Nat, yGo p l e R s m args below meth c D nL A Q (cells + 1) (slots + N) (pc + 2) lv (.ref q :: st) (W1 q)) : yGo p l e R s m args below meth c D nL A Q cells slots pc lv (.int n :: st) ws := by
  obtain ⟨hx, hb, hml, hown, hts, hK, hNs, hA, hf, hlo, hcc, hss⟩ := C
  intro H locs ls hl hP hD hS
  refine va_newa (atype := .int) (ty := .int) (a0 := (N, .inl (fun _ => 0))) hx hb (hts _ yW_int) rfl hK hP hD hS hA (fun _ => rfl) hn hN hby (Nat.le_trans hc hcc) (Nat.le_trans hs hss) hd (fun q cA H1 hK1 hP1 hD1 hS1 => ?_)
  have h1 : s.vm.findClass ("[" ++ FieldType.int.toString) = some cA := (hK1.2 3 (cA, .int) rfl).2
  have h2 : s.vm.findClass ("[" ++ FieldType.int.toString) = some cI := (hK.2 0 (cI, .int) rfl).2
  have h3 : cA = cI := Option.some.inj (h1.symm.trans h2)
  subst h3
  rw [hw q] at hP1 hD1
  exact kk q H1 locs ls hl hP1 hD1 hS1
theorem y_newz (C : yCx p R s m args c D cI cB cS A cc own nL d mc ms) {n : Int32} {N : Nat} {W1 : Nat → va_W} (hn : ¬ n < 0) (hN : n.toNatClampNeg = N) (hby : N * 1 ≤ 536870912) (hc : cells + 1 ≤ mc) (hs : slots + N ≤ ms) (hd : decode cc pc = .ok (.newarray .boolean, 2)) (hw : ∀ q, ws ++ [(q, .inl (cB, N, .inl (fun _ => 0)))] = W1 q) (kk : ∀ q : Nat, yGo p l e R s m args below meth c D nL A Q (cells + 1) (slots + N) (pc + 2) lv (.ref q :: st) (W1 q)) : yGo p l e R s m args below meth c D nL A Q cells slots pc lv (.int n :: st) ws := by
  obtain ⟨hx, hb, hml, hown, hts, hK, hNs, hA, hf, hlo, hcc, hss⟩ := C
  intro H locs ls hl hP hD hS
  refine va_newa (atype := .boolean) (ty := .boolean) (a0 := (N, .inl (fun _ => 0))) hx hb (hts _ yW_bool) rfl hK hP hD hS hA (fun _ => rfl) hn hN hby (Nat.le_trans hc hcc) (Nat.le_trans hs hss) hd (fun q cA H1 hK1 hP1 hD1 hS1 => ?_)
  have h1 : s.vm.findClass ("[" ++ FieldType.boolean.toString) = some cA := (hK1.2 3 (cA, .boolean) rfl).2
  have h2 : s.vm.findClass ("[" ++ FieldType.boolean.toString) = some cB := (hK.2 1 (cB, .boolean) rfl).2
  have h3 : cA = cB := Option.some.inj (h1.symm.trans h2)
  subst h3
  rw [hw q] at hP1 hD1
  exact kk q H1 locs ls hl hP1 hD1 hS1
theorem y_newq (C : yCx p R s m args c D cI cB cS A cc own nL d mc ms) {idx : Nat} {n : Int32} {N : Nat} {W1 : Nat → va_W} (hcl : Cond.classLink own idx "NeitherBare$Standing" ∈ lw_g) (hn : ¬ n < 0) (hN : n.toNatClampNeg = N) (hby : N * 4 ≤ 536870912) (hc : cells + 1 ≤ mc) (hs : slots + N ≤ ms) (hd : decode cc pc = .ok (.anewarray idx, 3)) (hw : ∀ q, ws ++ [(q, .inl (cS, N, .inr (.inr (.inr (.inr (fun _ => none))))))] = W1 q) (kk : ∀ q : Nat, yGo p l e R s m args below meth c D nL A Q (cells + 1) (slots + N) (pc + 3) lv (.ref q :: st) (W1 q)) : yGo p l e R s m args below meth c D nL A Q cells slots pc lv (.int n :: st) ws := by
  obtain ⟨hx, hb, hml, hown, hts, hK, hNs, hA, hf, hlo, hcc, hss⟩ := C
  intro H locs ls hl hP hD hS
  refine va_newq hx hb hown (hts _ hcl) hNs.2.2 hK hP hD hS hA hn hN hby (Nat.le_trans hc hcc) (Nat.le_trans hs hss) hd (fun q cA H1 hK1 hP1 hD1 hS1 => ?_)
  obtain ⟨_, _, -, -, -, h1⟩ := (hK1.2 3 (cA, .object "NeitherBare$Standing") rfl).2
  obtain ⟨_, _, -, -, -, h2⟩ := (hK.2 2 (cS, .object "NeitherBare$Standing") rfl).2
  have h3 : cA = cS := Option.some.inj (h1.symm.trans h2)
  subst h3
  rw [hw q] at hP1 hD1
  exact kk q H1 locs ls hl hP1 hD1 hS1
theorem y_putF (C : yCx p R s m args c D cI cB cS A cc own nL d mc ms) {ci idx k a : Nat} {fs : List Value} {v : Value} {ws1 : va_W} (h5 : ci < 5) (hk : k < (xKs ci).length) (hlk : Cond.fieldLink own idx (xT ci k).1 (xT ci k).2.1 (xT ci k).2.2.1 ∈ lw_g) (q0 : Nat) (he : ws[q0]? = some (a, .inr (ci, fs))) (hfin : (xT ci k).2.2.2 = true) (hin : meth.name = "<init>") (hdecl : (xT ci k).1 = own) (hn : narrow (xTy ci k) v = v) (hfit : fits (xTy ci k) v = true) (hlen : k < fs.length) (hd : decode cc pc = .ok (.putfield idx, 3)) (hw : ws.set q0 (a, .inr (ci, fs.set k v)) = ws1) (kk : yGo p l e R s m args below meth c D nL A Q cells slots (pc + 3) lv st ws1) : yGo p l e R s m args below meth c D nL A Q cells slots pc lv (v :: .ref a :: st) ws := by
  obtain ⟨hx, hb, hml, hown, hts, hK, hNs, hA, hf, hlo, hcc, hss⟩ := C
  intro H locs ls hl hP hD hS
  refine va_putF hx hb hts (xWs ci h5) (xTy ci) (xTy_ok ci h5) (xNm_ok ci h5) hown hK hP hD hS q0 he (xCl_at ci h5) k hk (hts _ hlk) (fun _ h9 => h9) hfin hin hdecl (xTy_ok ci h5 k hk) hn hfit hlen hd (fun H1 locs1 hP1 hD1 hS1 => ?_)
  rw [hw] at hP1 hD1
  exact kk H1 locs1 ls hl hP1 hD1 hS1
theorem y_put (C : yCx p R s m args c D cI cB cS A cc own nL d mc ms) {ci idx k a : Nat} {fs : List Value} {v : Value} {ws1 : va_W} (h5 : ci < 5) (hk : k < (xKs ci).length) (hlk : Cond.fieldLink own idx (xT ci k).1 (xT ci k).2.1 (xT ci k).2.2.1 ∈ lw_g) (q0 : Nat) (he : ws[q0]? = some (a, .inr (ci, fs))) (hfin : (xT ci k).2.2.2 = false) (hn : narrow (xTy ci k) v = v) (hfit : fits (xTy ci k) v = true) (hlen : k < fs.length) (hd : decode cc pc = .ok (.putfield idx, 3)) (hw : ws.set q0 (a, .inr (ci, fs.set k v)) = ws1) (kk : yGo p l e R s m args below meth c D nL A Q cells slots (pc + 3) lv st ws1) : yGo p l e R s m args below meth c D nL A Q cells slots pc lv (v :: .ref a :: st) ws := by
  obtain ⟨hx, hb, hml, hown, hts, hK, hNs, hA, hf, hlo, hcc, hss⟩ := C
  intro H locs ls hl hP hD hS
  refine va_put hx hb hts (xWs ci h5) (xTy ci) (xTy_ok ci h5) (xNm_ok ci h5) hown hK hP hD hS q0 he (xCl_at ci h5) k hk (hts _ hlk) (fun _ h9 => h9) hfin (xTy_ok ci h5 k hk) hn hfit hlen hd (fun H1 locs1 hP1 hD1 hS1 => ?_)
  rw [hw] at hP1 hD1
  exact kk H1 locs1 ls hl hP1 hD1 hS1
theorem y_get (C : yCx p R s m args c D cI cB cS A cc own nL d mc ms) {ci idx k a : Nat} {fs : List Value} {v : Value} (h5 : ci < 5) (hk : k < (xKs ci).length) (hlk : Cond.fieldLink own idx (xT ci k).1 (xT ci k).2.1 (xT ci k).2.2.1 ∈ lw_g) (q0 : Nat) (he : ws[q0]? = some (a, .inr (ci, fs))) (hv : fs[k]? = some v) (hd : decode cc pc = .ok (.getfield idx, 3)) (kk : yGo p l e R s m args below meth c D nL A Q cells slots (pc + 3) lv (v :: st) ws) : yGo p l e R s m args below meth c D nL A Q cells slots pc lv (.ref a :: st) ws := by
  obtain ⟨hx, hb, hml, hown, hts, hK, hNs, hA, hf, hlo, hcc, hss⟩ := C
  intro H locs ls hl hP hD hS
  exact va_get hx hb hts (xWs ci h5) hown hK hP q0 he (xCl_at ci h5) k hk (hts _ hlk) (fun _ h9 => h9) hv hd (kk H locs ls hl hP hD hS)
theorem y_iast (C : yCx p R s m args c D cI cB cS A cc own nL d mc ms) {a n j : Nat} {f : Nat → Int32} {i x : Int32} {ws1 : va_W} (q0 : Nat) (he : ws[q0]? = some (a, .inl (cI, n, .inl f))) (hin : vp_in i n) (hj : i.toNatClampNeg = j) (hd : decode cc pc = .ok (.iastore, 1)) (hw : ws.set q0 (a, .inl (cI, n, .inl (upd f j x))) = ws1) (kk : yGo p l e R s m args below meth c D nL A Q cells slots (pc + 1) lv st ws1) : yGo p l e R s m args below meth c D nL A Q cells slots pc lv (.int x :: .int i :: .ref a :: st) ws := by
  obtain ⟨hx, hb, hml, hown, hts, hK, hNs, hA, hf, hlo, hcc, hss⟩ := C
  intro H locs ls hl hP hD hS
  refine va_iast hx hb hK hP hD hS q0 0 he rfl hin hd (fun H1 locs1 hP1 hD1 hS1 => ?_)
  rw [hj, hw] at hP1 hD1
  exact kk H1 locs1 ls hl hP1 hD1 hS1
theorem y_astq (C : yCx p R s m args c D cI cB cS A cc own nL d mc ms) {a n j v : Nat} {f : Nat → Option Nat} {vs : List Value} {i : Int32} {ws1 : va_W} (q0 qk : Nat) (he : ws[q0]? = some (a, .inl (cS, n, .inr (.inr (.inr (.inr f)))))) (hv : ws[qk]? = some (v, .inr (2, vs))) (hin : vp_in i n) (hj : i.toNatClampNeg = j) (hd : decode cc pc = .ok (.aastore, 1)) (hw : ws.set q0 (a, .inl (cS, n, .inr (.inr (.inr (.inr (va_up f j (some v))))))) = ws1) (kk : yGo p l e R s m args below meth c D nL A Q cells slots (pc + 1) lv st ws1) : yGo p l e R s m args below meth c D nL A Q cells slots pc lv (.ref v :: .int i :: .ref a :: st) ws := by
  obtain ⟨hx, hb, hml, hown, hts, hK, hNs, hA, hf, hlo, hcc, hss⟩ := C
  intro H locs ls hl hP hD hS
  refine va_astq hx hb hK hP hD hS q0 2 qk 2 (r := (RX2, TX2, 6)) he rfl hv rfl hin hd (fun H1 locs1 hP1 hD1 hS1 => ?_)
  rw [hj, hw] at hP1 hD1
  exact kk H1 locs1 ls hl hP1 hD1 hS1
theorem y_alen (C : yCx p R s m args c D cI cB cS A cc own nL d mc ms) {a n : Nat} {f : Nat → Int32} {v : Int32} (q0 : Nat) (he : ws[q0]? = some (a, .inl (cI, n, .inl f))) (hv : Int32.ofNat n = v) (hd : decode cc pc = .ok (.arraylength, 1)) (kk : yGo p l e R s m args below meth c D nL A Q cells slots (pc + 1) lv (.int v :: st) ws) : yGo p l e R s m args below meth c D nL A Q cells slots pc lv (.ref a :: st) ws := by
  obtain ⟨hx, hb, hml, hown, hts, hK, hNs, hA, hf, hlo, hcc, hss⟩ := C
  intro H locs ls hl hP hD hS
  exact va_alen hx hb hK hP q0 0 he (ty := .int) rfl hv hd (kk H locs ls hl hP hD hS)
theorem yPc_blind {as : List Value} {w0 : va_W} {sz : Nat} : FrameBlind (yPc D cI cB cS as w0 sz) := fun a U g mk q => by
  obtain ⟨q0, q1, qP, qD, qK, n1, n2, n3⟩ := q
  have hv := Vm.Alike.refl U.vm
  exact ⟨q0, q1, qP, qD, va_K.moved (u := U) (U := U.calling g mk a) hv qK, n1.same rfl rfl, n2.same rfl rfl, va_AO.moved (u := U) (U := U.calling g mk a) hv n3⟩
theorem y_pre (C : yCx p R s m args c D cI cB cS A cc own nL d mc ms) {H : Heap} {locs : List Loc} {as : List Value} {wc : va_W} (isC : List Nat) (hC : isC.map (fun i => ws[i]?) = wc.map some) (hn : va_nd isC = true) (hP : va_P D vwCl ws H) (hD : va_D A ws) : PreS s H (yPc D cI cB cS as wc H.size) as := by
  obtain ⟨hx, hb, hml, hown, hts, hK, hNs, hA, hf, hlo, hcc, hss⟩ := C
  exact ⟨yPc_blind, fun U hU hW => ⟨rfl, by rw [hU], by rw [hU]; exact hP.sub isC (y_fm hC), (hD.sub isC hn hC).weaken (fun _ _ _ _ => trivial), va_K.moved hW.alike hK, yNst_warm hNs hW⟩⟩
theorem y_run {S : Type} (C : yCx p R s m args c D cI cB cS A cc own nL d mc ms) {mz msz : Nat} {st0 : List Value} {wc wr : va_W} {w1 : S → va_W} {a : Array Value} {H : Heap} {locs : List Loc} {ls : Array Slot} {W1 : S → va_W} (isC isR : List Nat) (hC : isC.map (fun i => ws[i]?) = wc.map some) (hR : isR.map (fun i => ws[i]?) = wr.map some) (hn : va_nd isR = true) (hdis : ∀ i ∈ isR, i ∉ isC) (hr : va_Run p l e R s m args below meth c H locs cells slots mz msz (F0 m pc ls st0) st (yQc D w1 (va_A wc H.size) a) (va_A wc H.size)) (hl : lv_has ls nL lv) (hP : va_P D vwCl ws H) (hD : va_D A ws) (hS : va_S A s.heap H locs) (hw : ∀ u, wr ++ w1 u = W1 u) (kk : ∀ u : S, yGo p l e R s m args below meth c D nL A Q (cells + mz) (slots + msz) (pc + 3) lv st (W1 u)) : W p l e R s m args below meth c H locs cells slots Q (F0 m pc ls st0) := by
  obtain ⟨hx, hb, hml, hown, hts, hK, hNs, hA, hf, hlo, hcc, hss⟩ := C
  have hF := va_free (wc := wc) hD hS hA isC hC
  refine va_callv hr hS (fun q _ h => hF q h) hF (fun u t H1 locs1 ht hvm _ hB hz1 hk1 hS1 => ?_)
  obtain ⟨hP1, hD1⟩ := hB
  rw [ht] at hP1
  obtain ⟨hP2, hD2⟩ := va_join hP hD isC isR hC hR hn hdis hk1 hF hP1 hD1
  rw [hw u] at hP2 hD2
  exact kk u H1 locs1 ls hl hP2 hD2 hS1
theorem y_callI {S : Type} (C : yCx p R s m args c D cI cB cS A cc own nL d mc ms) {y : MethodName} {cz : ByteArray} {nz dz mz msz n idx a : Nat} {as : List Value} {wc wr : va_W} {w1 W1 : S → va_W} (isC isR : List Nat) (hM : yEv D cI cB cS y cz nz dz mz msz (.ref a :: as) wc w1) (hcode : Cond.code y cz nz none ∈ lw_g) (hins : Cond.instanceMethod y ∈ lw_g) (hini : Cond.initialized y.cls ∈ lw_g) (hlk : Cond.methodLink own idx y ∈ lw_g) (hy1 : y.name = "<init>") (hy2 : y.cls ≠ "java/lang/invoke/MethodHandle" ∧ y.cls ≠ "java/lang/invoke/VarHandle" ∧ (parseMethodDescriptor y.desc).map (fun d => d.parameters.length) = some n) (hlt : dz < d) (hnz : nz ≤ 40) (hn : as.length = n) (hst : (st.map fun v => v.category).sum ≤ 8) (hc : cells + mz ≤ mc) (hs : slots + msz ≤ ms) (hd : decode cc pc = .ok (.invokespecial idx, 3)) (hC : isC.map (fun i => ws[i]?) = wc.map some) (hR : isR.map (fun i => ws[i]?) = wr.map some) (hnc : va_nd isC = true) (hnr : va_nd isR = true) (hdis : ∀ i ∈ isR, i ∉ isC) (hw : ∀ u, wr ++ w1 u = W1 u) (kk : ∀ u : S, yGo p l e R s m args below meth c D nL A Q (cells + mz) (slots + msz) (pc + 3) lv st (W1 u)) : yGo p l e R s m args below meth c D nL A Q cells slots pc lv (as.reverse ++ .ref a :: st) ws := by
  obtain ⟨hx, hb, hml, hown, hts, hK, hNs, hA, hf, hlo, hcc, hss⟩ := id C
  intro H locs ls hl hP hD hS
  have hRm : (yRm dz mz msz).frames + 1 ≤ R.frames ∧ 8 + (nz + 11) + (yRm dz mz msz).locals ≤ R.locals := by
    show dz + 1 ≤ R.frames ∧ 8 + (nz + 11) + 64 * dz ≤ R.locals
    omega
  exact y_run C isC isR hC hR hnr hdis (va_runI (As := as) (rest := st) ⟨hx, hb, hml, hown, hts⟩ (hM l H.size) (cwI n hts (xGood_code hcode) rfl rfl rfl (hts _ hini) (hts _ hlk) (hts _ hins) hy1 hy2 hRm) (y_pre (locs := locs) C isC hC hnc hP hD) rfl hn hl.1 rfl (lv_room hst) hd ⟨by omega, by omega⟩) hl hP hD hS hw kk
theorem y_callIN {S : Type} (C : yCx p R s m args c D cI cB cS A cc own nL d mc ms) {y : MethodName} {cz : ByteArray} {nz dz mz msz n idx a : Nat} {as : List Value} {wc wr : va_W} {w1 W1 : S → va_W} (isC isR : List Nat) (hM : yEv D cI cB cS y cz nz dz mz msz (.ref a :: as) wc w1) (hcode : Cond.code y cz nz none ∈ lw_g) (hins : Cond.instanceMethod y ∈ lw_g) (hini : Cond.initialized y.cls ∈ lw_g) (hlk : yNst s → va_Nw (.methodLinkNest own idx y RX3) s) (hy1 : y.name = "<init>") (hy2 : y.cls ≠ "java/lang/invoke/MethodHandle" ∧ y.cls ≠ "java/lang/invoke/VarHandle" ∧ (parseMethodDescriptor y.desc).map (fun d => d.parameters.length) = some n) (hlt : dz < d) (hnz : nz ≤ 40) (hn : as.length = n) (hst : (st.map fun v => v.category).sum ≤ 8) (hc : cells + mz ≤ mc) (hs : slots + msz ≤ ms) (hd : decode cc pc = .ok (.invokespecial idx, 3)) (hC : isC.map (fun i => ws[i]?) = wc.map some) (hR : isR.map (fun i => ws[i]?) = wr.map some) (hnc : va_nd isC = true) (hnr : va_nd isR = true) (hdis : ∀ i ∈ isR, i ∉ isC) (hw : ∀ u, wr ++ w1 u = W1 u) (kk : ∀ u : S, yGo p l e R s m args below meth c D nL A Q (cells + mz) (slots + msz) (pc + 3) lv st (W1 u)) : yGo p l e R s m args below meth c D nL A Q cells slots pc lv (as.reverse ++ .ref a :: st) ws := by
  obtain ⟨hx, hb, hml, hown, hts, hK, hNs, hA, hf, hlo, hcc, hss⟩ := id C
  intro H locs ls hl hP hD hS
  have hRm : (yRm dz mz msz).frames + 1 ≤ R.frames ∧ 8 + (nz + 11) + (yRm dz mz msz).locals ≤ R.locals := by
    show dz + 1 ≤ R.frames ∧ 8 + (nz + 11) + 64 * dz ≤ R.locals
    omega
  exact y_run C isC isR hC hR hnr hdis (va_runIN (As := as) (rest := st) ⟨hx, hb, hml, hown, hts⟩ (hM l H.size) ⟨va_cnB n hts (xGood_code hcode) rfl rfl rfl (hlk hNs) (hts _ hini) hy2 hRm, hy1, hts _ hins⟩ (y_pre (locs := locs) C isC hC hnc hP hD) rfl hn hl.1 rfl (lv_room hst) hd ⟨by omega, by omega⟩) hl hP hD hS hw kk
theorem y_callV {S : Type} (C : yCx p R s m args c D cI cB cS A cc own nL d mc ms) {ci q0 : Nat} {fs : List Value} {y : MethodName} {cz : ByteArray} {nz dz mz msz n idx a : Nat} {as : List Value} {wc wr : va_W} {w1 W1 : S → va_W} (isC isR : List Nat) (hM : yEv D cI cB cS y cz nz dz mz msz (.ref a :: as) wc w1) (hcode : xMv y cz nz none n) (hlk : Cond.methodLink own idx y ∈ lw_g) (hlt : dz < d) (hnz : nz ≤ 40) (hn : as.length = n) (hst : (st.map fun v => v.category).sum ≤ 8) (hc : cells + mz ≤ mc) (hs : slots + msz ≤ ms) (hd : decode cc pc = .ok (.invokevirtual idx, 3)) (hci : ci < 5) (hcls : xRn ci = y.cls) (he : ws[q0]? = some (a, .inr (ci, fs))) (hC : isC.map (fun i => ws[i]?) = wc.map some) (hR : isR.map (fun i => ws[i]?) = wr.map some) (hnc : va_nd isC = true) (hnr : va_nd isR = true) (hdis : ∀ i ∈ isR, i ∉ isC) (hw : ∀ u, wr ++ w1 u = W1 u) (kk : ∀ u : S, yGo p l e R s m args below meth c D nL A Q (cells + mz) (slots + msz) (pc + 3) lv st (W1 u)) : yGo p l e R s m args below meth c D nL A Q cells slots pc lv (as.reverse ++ .ref a :: st) ws := by
  obtain ⟨hx, hb, hml, hown, hts, hK, hNs, hA, hf, hlo, hcc, hss⟩ := id C
  intro H locs ls hl hP hD hS
  have hRm : (yRm dz mz msz).frames + 1 ≤ R.frames ∧ 8 + (nz + 11) + (yRm dz mz msz).locals ≤ R.locals := by
    show dz + 1 ≤ R.frames ∧ 8 + (nz + 11) + 64 * dz ≤ R.locals
    omega
  obtain ⟨w1', w2, w3, w4, w5, w6, w7⟩ := hcode
  have hrv := va_recv hK hP (xCl_at ci hci) he
  have hT : GoodIn lw_g (wsV own idx y.cls y (.code y cz nz none :: lw_g)) := by
    intro w hw
    rcases List.mem_append.mp (show w ∈ ([.methodLink own idx y, .instanceMethod y, .selects y.cls y y, .initialized y.cls] : List Cond) ++ (.code y cz nz none :: lw_g) from hw) with h | h
    · simp only [List.mem_cons, List.not_mem_nil, or_false] at h
      rcases h with rfl | rfl | rfl | rfl
      · exact lw_g_good _ hlk
      · exact lw_g_good _ w2
      · exact lw_g_good _ w3
      · exact lw_g_good _ w4
    · exact xGood_code w1' w h
  have hpre := y_pre (locs := locs) (as := .ref a :: as) C isC hC hnc hP hD
  exact y_run C isC isR hC hR hnr hdis (va_runV (As := as) (rest := st) (C := y.cls) ⟨hx, hb, hml, hown, hts⟩ (hM l H.size) (cwV n hts hT rfl rfl rfl ⟨rfl, w5, w6, w7⟩ hRm) ⟨hpre.1, by rw [← hcls]; exact hrv, hpre.2⟩ rfl hn hl.1 rfl (lv_room hst) hd ⟨by omega, by omega⟩) hl hP hD hS hw kk
theorem y_callS {S : Type} (C : yCx p R s m args c D cI cB cS A cc own nL d mc ms) {y : MethodName} {cz : ByteArray} {nz dz mz msz n idx : Nat} {as : List Value} {wc wr : va_W} {w1 W1 : S → va_W} (isC isR : List Nat) (hM : yEv D cI cB cS y cz nz dz mz msz as wc w1) (hcode : xMs y cz nz none n) (hlk : Cond.methodLink own idx y ∈ lw_g) (hlt : dz < d) (hnz : nz ≤ 40) (hn : as.length = n) (hst : (st.map fun v => v.category).sum ≤ 8) (hc : cells + mz ≤ mc) (hs : slots + msz ≤ ms) (hd : decode cc pc = .ok (.invokestatic idx, 3)) (hC : isC.map (fun i => ws[i]?) = wc.map some) (hR : isR.map (fun i => ws[i]?) = wr.map some) (hnc : va_nd isC = true) (hnr : va_nd isR = true) (hdis : ∀ i ∈ isR, i ∉ isC) (hw : ∀ u, wr ++ w1 u = W1 u) (kk : ∀ u : S, yGo p l e R s m args below meth c D nL A Q (cells + mz) (slots + msz) (pc + 3) lv st (W1 u)) : yGo p l e R s m args below meth c D nL A Q cells slots pc lv (as.reverse ++ st) ws := by
  obtain ⟨hx, hb, hml, hown, hts, hK, hNs, hA, hf, hlo, hcc, hss⟩ := id C
  intro H locs ls hl hP hD hS
  have hRm : (yRm dz mz msz).frames + 1 ≤ R.frames ∧ 8 + (nz + 11) + (yRm dz mz msz).locals ≤ R.locals := by
    show dz + 1 ≤ R.frames ∧ 8 + (nz + 11) + 64 * dz ≤ R.locals
    omega
  obtain ⟨w1', w2, w3, w4, w5, w6⟩ := hcode
  exact y_run C isC isR hC hR hnr hdis (va_runS (As := as) (rest := st) ⟨hx, hb, hml, hown, hts⟩ (hM l H.size) ⟨callB_of n hts (xGood_code w1') rfl rfl rfl (hts _ w3) (hts _ hlk) ⟨w4, w5, w6⟩ hRm, hts _ w2⟩ (y_pre (locs := locs) C isC hC hnc hP hD) rfl hn hl.1 rfl (lv_room hst) hd ⟨by omega, by omega⟩) hl hP hD hS hw kk
theorem y_ret {S : Type} (C : yCx p R s m args c D cI cB cS A cc own nL d mc ms) {w1 : S → va_W} (hr : meth.sig.returnType = none) (hlocks : meth.locks = false) (hd : decode cc pc = .ok (.return_, 1)) (u : S) (is : List Nat) (hi : is.map (fun i => ws[i]?) = (w1 u).map some) (hnd : va_nd is = true) : yGo p l e R s m args below meth c D nL A (MQ below (yQc D w1 A) args s cells slots A) cells slots pc lv [] ws := fun H locs ls hl hP hD hS => W.vret C.1 C.2.1 hr (fun t ht hW => ⟨⟨u, rfl, trivial, by rw [ht]; exact hP.sub is (y_fm hi), hD.sub is hnd hi⟩, hS.F ht⟩) hS.2.2 hd (hlocks := hlocks)
end YG
theorem y_met {S : Type} {D : va_G} {cI cB cS : ClassId} {y : MethodName} {cc : ByteArray} {nL d mc ms : Nat} {as : List Value} {w0 : va_W} {w1 : S → va_W} (hpl : plainName y.cls = true) (hlen : (lg_sl as).length ≤ nL)
    (h : ∀ (p : Program) (l : Launch) (e : Env) (R : Room) (s : State) (m : MethodId) (below : List Frame) (meth : Method) (c : Code) (A : Nat → Prop), yCx p R s m as.toArray c D cI cB cS A cc y.cls nL d mc ms → meth.sig.returnType = none → meth.locks = false → meth.name = y.name → yGo p l e R s m as.toArray below meth c D nL A (MQ below (yQc D w1 A) as.toArray s mc ms A) 0 0 0 (lv_args 0 as) [] w0) : yEv D cI cB cS y cc nL d mc ms as w0 w1 := by
  intro l sz
  refine Met.ofW (cc := cc) (maxL := nL) (ret := none) hpl rfl ?_
  intro p e s m args below meth c s₁ B hml hv
  obtain ⟨rfl, hsz, hP, hD0, hK, hN⟩ := hv
  subst hsz
  have hts := atoms_spec (ws := .code y cc nL none :: lw_g) B.pre
  rw [lg_entry_eq]
  exact h p l e _ s m below meth c (va_A w0 s.heap.size) ⟨B.exec, B.bytes, hml, findClass_of_methodNamed B.named, fun w hw => hts w (List.mem_cons_of_mem _ hw), hK, hN, fun q hq => Or.inr hq, Nat.le_refl _, Nat.le_refl _, Nat.le_refl _, Nat.le_refl _⟩ B.returns B.notSynchronized (name_of_methodNamed B.named B.method).1 s.heap [] _ (lv_entry as hlen) hP hD0.self va_S.rf
