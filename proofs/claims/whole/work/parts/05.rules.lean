/-! ===== branches, calls, returns: rules of the walk (xg_: in any frame; xm_: in a method, driven by its value) ===== -/
def gdl {α : Type} : List Bool → Option α → Option α
  | [], x => x
  | b :: bs, x => if b = true then gdl bs x else none
theorem gdl_some {α : Type} {bs : List Bool} {x : Option α} {o : α} (h : gdl bs x = some o) : (∀ b ∈ bs, b = true) ∧ x = some o := by
  induction bs with
  | nil => exact ⟨fun _ h => absurd h List.not_mem_nil, h⟩
  | cons b bs ih =>
    simp only [gdl] at h
    split at h
    · rename_i hb
      obtain ⟨h1, h2⟩ := ih h
      exact ⟨fun z hz => (List.mem_cons.mp hz).elim (fun q => q ▸ hb) (h1 z), h2⟩
    · cases h
theorem lv_args_xc (G : xG) : ∀ (as : List Value) (i : Nat), lv_args i (as.map (xc G)) = xcl G (lv_args i as) := by
  intro as
  induction as with
  | nil => intro i; rfl
  | cons v vs ih =>
    intro i
    simp only [List.map_cons, lv_args, xc_cat, ih]
/-- a copy of n ints from one array to another -/
def xCp (u : xM) (a0 a1 : Nat) (sp dp n : Int32) : xM := (va_up u.1 a1 (va_cpy (u.1 a0) (u.1 a1) sp.toNatClampNeg dp.toNatClampNeg n.toNatClampNeg), u.2)
def cpok (sp dp n : Int32) (n0 n1 : Nat) : Bool := decide (0 ≤ sp.toInt) && (decide (0 ≤ dp.toInt) && (decide (0 ≤ n.toInt) && (decide (sp.toInt + n.toInt ≤ (n0 : Int)) && decide (dp.toInt + n.toInt ≤ (n1 : Int)))))
theorem i32_nneg {x : Int32} (h : 0 ≤ x.toInt) : ¬ x < 0 ∧ (x.toNatClampNeg : Int) = x.toInt := by
  refine ⟨fun q => ?_, ?_⟩
  · have := Int32.lt_iff_toInt_lt.mp q
    have z : (0 : Int32).toInt = 0 := rfl
    omega
  · show ((x.toInt.toNat : Nat) : Int) = x.toInt
    omega
/-- what is known of a method that is called: static; of an object -/
def xMs (y : MethodName) (cc : ByteArray) (nL : Nat) (ret : Option FieldType) (n : Nat) : Prop := Cond.code y cc nL ret ∈ lw_g ∧ Cond.static y ∈ lw_g ∧ Cond.initialized y.cls ∈ lw_g ∧ y.cls ≠ "java/lang/invoke/MethodHandle" ∧ y.cls ≠ "java/lang/invoke/VarHandle" ∧ (parseMethodDescriptor y.desc).map (fun d => d.parameters.length) = some n
def xMv (y : MethodName) (cc : ByteArray) (nL : Nat) (ret : Option FieldType) (n : Nat) : Prop := Cond.code y cc nL ret ∈ lw_g ∧ Cond.instanceMethod y ∈ lw_g ∧ Cond.selects y.cls y y ∈ lw_g ∧ Cond.initialized y.cls ∈ lw_g ∧ y.cls ≠ "java/lang/invoke/MethodHandle" ∧ y.cls ≠ "java/lang/invoke/VarHandle" ∧ (parseMethodDescriptor y.desc).map (fun d => d.parameters.length) = some n
/-- the same by places of the tables -/
def xMsB (y : MethodName) (cc : ByteArray) (nL : Nat) (ret : Option FieldType) (n p1 p2 p3 : Nat) : Bool := decide (lw_tbl[p1]? = some (Cond.code y cc nL ret)) && (decide (lw_tbl[p2]? = some (Cond.static y)) && (decide (lw_tbl[p3]? = some (Cond.initialized y.cls)) && (decide (y.cls ≠ "java/lang/invoke/MethodHandle") && (decide (y.cls ≠ "java/lang/invoke/VarHandle") && decide ((parseMethodDescriptor y.desc).map (fun d => d.parameters.length) = some n)))))
def xMvB (y : MethodName) (cc : ByteArray) (nL : Nat) (ret : Option FieldType) (n p1 p2 p3 p4 : Nat) : Bool := decide (lw_tbl[p1]? = some (Cond.code y cc nL ret)) && (decide (lw_tbl[p2]? = some (Cond.instanceMethod y)) && (decide (lw_tbl[p4]? = some (Cond.selects y.cls y y)) && (decide (lw_tbl[p3]? = some (Cond.initialized y.cls)) && (decide (y.cls ≠ "java/lang/invoke/MethodHandle") && (decide (y.cls ≠ "java/lang/invoke/VarHandle") && decide ((parseMethodDescriptor y.desc).map (fun d => d.parameters.length) = some n))))))
theorem xMs_of {y : MethodName} {cc : ByteArray} {nL : Nat} {ret : Option FieldType} {n p1 p2 p3 : Nat} (h : xMsB y cc nL ret n p1 p2 p3 = true) : xMs y cc nL ret n := by
  simp only [xMsB, Bool.and_eq_true, decide_eq_true_eq] at h
  obtain ⟨h1, h2, h3, h4, h5, h6⟩ := h
  exact ⟨xLk h1 rfl, xLk h2 rfl, xLk h3 rfl, h4, h5, h6⟩
theorem xMv_of {y : MethodName} {cc : ByteArray} {nL : Nat} {ret : Option FieldType} {n p1 p2 p3 p4 : Nat} (h : xMvB y cc nL ret n p1 p2 p3 p4 = true) : xMv y cc nL ret n := by
  simp only [xMvB, Bool.and_eq_true, decide_eq_true_eq] at h
  obtain ⟨h1, h2, h3, h4, h5, h6, h7⟩ := h
  exact ⟨xLk h1 rfl, xLk h2 rfl, xLk h3 rfl, xLk h4 rfl, h5, h6, h7⟩
theorem xGood_code {y : MethodName} {cc : ByteArray} {nL : Nat} {ret : Option FieldType} (h : Cond.code y cc nL ret ∈ lw_g) : GoodIn lw_g (.code y cc nL ret :: lw_g) := fun w hw => (List.mem_cons.mp hw).elim (fun q => q ▸ lw_g_good _ h) (lw_g_good w)
theorem xW_nat : Cond.native arraycopyName ∈ lw_g := lw_g_mk (by decide +kernel) rfl
theorem xW_sta : Cond.static arraycopyName ∈ lw_g := lw_g_mk (by decide +kernel) rfl
theorem xW_ini : Cond.initialized "java/lang/System" ∈ lw_g := lw_g_mk (by decide +kernel) rfl
section XG
variable {p : Program} {l : Launch} {e : Env} {R : Room} {s : State} {m : MethodId} {args : Array Value} {below : List Frame} {meth : Method} {c : Code} {G : xG} {cc : ByteArray} {own : String} {nL d cells slots : Nat} {Q : State → Prop}
variable {pc : Nat} {lv : List (Nat × Value)} {st : List Value} {u : xM}
theorem xg_wk {lv' : List (Nat × Value)} (ks : List Nat) (hk : lv_pick lv ks = lv') (k : xGo p l e R s m args below meth c G nL cells slots Q pc lv' st u) : xGo p l e R s m args below meth c G nL cells slots Q pc lv st u := by
  intro H locs ls hl hP hS
  refine k H locs ls (lv_mono hl fun q hq => ?_) hP hS
  obtain ⟨z, hz, rfl⟩ := List.mem_map.mp hq
  refine List.mem_map.mpr ⟨z, ?_, rfl⟩
  rw [← hk] at hz
  obtain ⟨i, -, hi⟩ := List.mem_filterMap.mp hz
  exact List.mem_of_getElem? hi
theorem xg_goto (C : xCx p R s m args meth c G cc own nL d cells slots) {off : Int} {tgt : Nat} (hd : decode cc pc = .ok (.goto off, 3)) (ht : (pc : Int) + off = (tgt : Int)) (k : xGo p l e R s m args below meth c G nL cells slots Q tgt lv st u) : xGo p l e R s m args below meth c G nL cells slots Q pc lv st u := fun H locs ls hl hP hS => lv_goto C.1 C.2.1 hd ht (k H locs ls hl hP hS)
theorem xg_icmp_eq (C : xCx p R s m args meth c G cc own nL d cells slots) {x y : Int32} {off : Int} {tgt : Nat} (hd : decode cc pc = .ok (.if_icmp .eq off, 3)) (ht : (pc : Int) + off = (tgt : Int)) (kt : x = y → xGo p l e R s m args below meth c G nL cells slots Q tgt lv st u) (kf : ¬ x = y → xGo p l e R s m args below meth c G nL cells slots Q (pc + 3) lv st u) : xGo p l e R s m args below meth c G nL cells slots Q pc lv (.int y :: .int x :: st) u := fun H locs ls hl hP hS => lv_icmp_eq C.1 C.2.1 hd ht (fun h => kt h H locs ls hl hP hS) (fun h => kf h H locs ls hl hP hS)
theorem xg_if_eq (C : xCx p R s m args meth c G cc own nL d cells slots) {x : Int32} {off : Int} {tgt : Nat} (hd : decode cc pc = .ok (.ifCond .eq off, 3)) (ht : (pc : Int) + off = (tgt : Int)) (kt : x = 0 → xGo p l e R s m args below meth c G nL cells slots Q tgt lv st u) (kf : ¬ x = 0 → xGo p l e R s m args below meth c G nL cells slots Q (pc + 3) lv st u) : xGo p l e R s m args below meth c G nL cells slots Q pc lv (.int x :: st) u := fun H locs ls hl hP hS => lv_if_eq C.1 C.2.1 hd ht (fun h => kt h H locs ls hl hP hS) (fun h => kf h H locs ls hl hP hS)
theorem xg_icmp_lt (C : xCx p R s m args meth c G cc own nL d cells slots) {x y : Int32} {off : Int} {tgt : Nat} (hd : decode cc pc = .ok (.if_icmp .lt off, 3)) (ht : (pc : Int) + off = (tgt : Int)) (kt : x < y → xGo p l e R s m args below meth c G nL cells slots Q tgt lv st u) (kf : ¬ x < y → xGo p l e R s m args below meth c G nL cells slots Q (pc + 3) lv st u) : xGo p l e R s m args below meth c G nL cells slots Q pc lv (.int y :: .int x :: st) u := fun H locs ls hl hP hS => lv_icmp_lt C.1 C.2.1 hd ht (fun h => kt h H locs ls hl hP hS) (fun h => kf h H locs ls hl hP hS)
theorem xg_if_lt (C : xCx p R s m args meth c G cc own nL d cells slots) {x : Int32} {off : Int} {tgt : Nat} (hd : decode cc pc = .ok (.ifCond .lt off, 3)) (ht : (pc : Int) + off = (tgt : Int)) (kt : x < 0 → xGo p l e R s m args below meth c G nL cells slots Q tgt lv st u) (kf : ¬ x < 0 → xGo p l e R s m args below meth c G nL cells slots Q (pc + 3) lv st u) : xGo p l e R s m args below meth c G nL cells slots Q pc lv (.int x :: st) u := fun H locs ls hl hP hS => lv_if_lt C.1 C.2.1 hd ht (fun h => kt h H locs ls hl hP hS) (fun h => kf h H locs ls hl hP hS)
theorem xg_icmp_le (C : xCx p R s m args meth c G cc own nL d cells slots) {x y : Int32} {off : Int} {tgt : Nat} (hd : decode cc pc = .ok (.if_icmp .le off, 3)) (ht : (pc : Int) + off = (tgt : Int)) (kt : x ≤ y → xGo p l e R s m args below meth c G nL cells slots Q tgt lv st u) (kf : ¬ x ≤ y → xGo p l e R s m args below meth c G nL cells slots Q (pc + 3) lv st u) : xGo p l e R s m args below meth c G nL cells slots Q pc lv (.int y :: .int x :: st) u := fun H locs ls hl hP hS => lv_icmp_le C.1 C.2.1 hd ht (fun h => kt h H locs ls hl hP hS) (fun h => kf h H locs ls hl hP hS)
theorem xg_if_le (C : xCx p R s m args meth c G cc own nL d cells slots) {x : Int32} {off : Int} {tgt : Nat} (hd : decode cc pc = .ok (.ifCond .le off, 3)) (ht : (pc : Int) + off = (tgt : Int)) (kt : x ≤ 0 → xGo p l e R s m args below meth c G nL cells slots Q tgt lv st u) (kf : ¬ x ≤ 0 → xGo p l e R s m args below meth c G nL cells slots Q (pc + 3) lv st u) : xGo p l e R s m args below meth c G nL cells slots Q pc lv (.int x :: st) u := fun H locs ls hl hP hS => lv_if_le C.1 C.2.1 hd ht (fun h => kt h H locs ls hl hP hS) (fun h => kf h H locs ls hl hP hS)
theorem xg_icmp_gt (C : xCx p R s m args meth c G cc own nL d cells slots) {x y : Int32} {off : Int} {tgt : Nat} (hd : decode cc pc = .ok (.if_icmp .gt off, 3)) (ht : (pc : Int) + off = (tgt : Int)) (kt : y < x → xGo p l e R s m args below meth c G nL cells slots Q tgt lv st u) (kf : ¬ y < x → xGo p l e R s m args below meth c G nL cells slots Q (pc + 3) lv st u) : xGo p l e R s m args below meth c G nL cells slots Q pc lv (.int y :: .int x :: st) u := fun H locs ls hl hP hS => lv_icmp_gt C.1 C.2.1 hd ht (fun h => kt h H locs ls hl hP hS) (fun h => kf h H locs ls hl hP hS)
theorem xg_if_gt (C : xCx p R s m args meth c G cc own nL d cells slots) {x : Int32} {off : Int} {tgt : Nat} (hd : decode cc pc = .ok (.ifCond .gt off, 3)) (ht : (pc : Int) + off = (tgt : Int)) (kt : 0 < x → xGo p l e R s m args below meth c G nL cells slots Q tgt lv st u) (kf : ¬ 0 < x → xGo p l e R s m args below meth c G nL cells slots Q (pc + 3) lv st u) : xGo p l e R s m args below meth c G nL cells slots Q pc lv (.int x :: st) u := fun H locs ls hl hP hS => lv_if_gt C.1 C.2.1 hd ht (fun h => kt h H locs ls hl hP hS) (fun h => kf h H locs ls hl hP hS)
theorem xg_icmp_ge (C : xCx p R s m args meth c G cc own nL d cells slots) {x y : Int32} {off : Int} {tgt : Nat} (hd : decode cc pc = .ok (.if_icmp .ge off, 3)) (ht : (pc : Int) + off = (tgt : Int)) (kt : y ≤ x → xGo p l e R s m args below meth c G nL cells slots Q tgt lv st u) (kf : ¬ y ≤ x → xGo p l e R s m args below meth c G nL cells slots Q (pc + 3) lv st u) : xGo p l e R s m args below meth c G nL cells slots Q pc lv (.int y :: .int x :: st) u := fun H locs ls hl hP hS => lv_icmp_ge C.1 C.2.1 hd ht (fun h => kt h H locs ls hl hP hS) (fun h => kf h H locs ls hl hP hS)
theorem xg_if_ge (C : xCx p R s m args meth c G cc own nL d cells slots) {x : Int32} {off : Int} {tgt : Nat} (hd : decode cc pc = .ok (.ifCond .ge off, 3)) (ht : (pc : Int) + off = (tgt : Int)) (kt : 0 ≤ x → xGo p l e R s m args below meth c G nL cells slots Q tgt lv st u) (kf : ¬ 0 ≤ x → xGo p l e R s m args below meth c G nL cells slots Q (pc + 3) lv st u) : xGo p l e R s m args below meth c G nL cells slots Q pc lv (.int x :: st) u := fun H locs ls hl hP hS => lv_if_ge C.1 C.2.1 hd ht (fun h => kt h H locs ls hl hP hS) (fun h => kf h H locs ls hl hP hS)
theorem xg_icmp_ne (C : xCx p R s m args meth c G cc own nL d cells slots) {x y : Int32} {off : Int} {tgt : Nat} (hd : decode cc pc = .ok (.if_icmp .ne off, 3)) (ht : (pc : Int) + off = (tgt : Int)) (kt : ¬ x = y → xGo p l e R s m args below meth c G nL cells slots Q tgt lv st u) (kf : x = y → xGo p l e R s m args below meth c G nL cells slots Q (pc + 3) lv st u) : xGo p l e R s m args below meth c G nL cells slots Q pc lv (.int y :: .int x :: st) u := fun H locs ls hl hP hS => lv_icmp_ne C.1 C.2.1 hd ht (fun h => kt h H locs ls hl hP hS) (fun h => kf h H locs ls hl hP hS)
theorem xg_if_ne (C : xCx p R s m args meth c G cc own nL d cells slots) {x : Int32} {off : Int} {tgt : Nat} (hd : decode cc pc = .ok (.ifCond .ne off, 3)) (ht : (pc : Int) + off = (tgt : Int)) (kt : ¬ x = 0 → xGo p l e R s m args below meth c G nL cells slots Q tgt lv st u) (kf : x = 0 → xGo p l e R s m args below meth c G nL cells slots Q (pc + 3) lv st u) : xGo p l e R s m args below meth c G nL cells slots Q pc lv (.int x :: st) u := fun H locs ls hl hP hS => lv_if_ne C.1 C.2.1 hd ht (fun h => kt h H locs ls hl hP hS) (fun h => kf h H locs ls hl hP hS)
/-- a switch: what lies outside; a case (the offset at its place) -/
theorem xg_tout (C : xCx p R s m args meth c G cc own nL d cells slots) {dflt lo hi : Int} {offs : Array Int} {len tgt : Nat} {x : Int32} (hd : decode cc pc = .ok (.tableswitch dflt lo hi offs, len)) (h : x.toInt < lo ∨ hi < x.toInt) (ht : (pc : Int) + dflt = (tgt : Int)) (k : xGo p l e R s m args below meth c G nL cells slots Q tgt lv st u) : xGo p l e R s m args below meth c G nL cells slots Q pc lv (.int x :: st) u := fun H locs ls hl hP hS => lv_tableOut C.1 C.2.1 hd h ht (k H locs ls hl hP hS)
theorem xg_tin (C : xCx p R s m args meth c G cc own nL d cells slots) {dflt lo hi off : Int} {offs : Array Int} {len tgt : Nat} {x : Int32} (hd : decode cc pc = .ok (.tableswitch dflt lo hi offs, len)) (h1 : ¬ x.toInt < lo) (h2 : ¬ hi < x.toInt) (ho : offs[(x.toInt - lo).toNat]? = some off) (ht : (pc : Int) + off = (tgt : Int)) (k : xGo p l e R s m args below meth c G nL cells slots Q tgt lv st u) : xGo p l e R s m args below meth c G nL cells slots Q pc lv (.int x :: st) u := fun H locs ls hl hP hS => lv_tableIn C.1 C.2.1 hd h1 h2 ho ht (k H locs ls hl hP hS)
theorem xg_run {H : Heap} {locs : List Loc} {ls : Array Slot} {st0 rest : List Value} {o : Option Value × xM} {a : Array Value} (hr : va_Run p l e R s m args below meth c H locs cells slots 0 0 (F0 m pc ls st0) rest (xQc G o a) (xA G)) (hS : va_S (xA G) s.heap H locs) (kk : ∀ (H1 : Heap) (locs1 : List Loc), va_P G.2.1 vwCl (xws G o.2) H1 → va_S (xA G) s.heap H1 locs1 → W p l e R s m args below meth c H1 locs1 cells slots Q (F0 m (pc + 3) ls ((o.1.map (xc G)).toList ++ rest))) : W p l e R s m args below meth c H locs cells slots Q (F0 m pc ls st0) := by
  intro T hT X
  obtain ⟨v, st₀, t, T', L, h0, X', hL, e1, e2, ⟨hv, hPt, hz, hk⟩, st⟩ := hr T hT X
  cases hv
  rw [h0] at hz hk
  obtain ⟨t2, a1, b1⟩ := kk T'.heap (locs ++ L) (by rw [e1]; exact hPt)
    ⟨Nat.le_trans hS.1 (by rw [e1]; exact hz), fun q h1 h2 => by rw [e1, hk q (Nat.lt_of_lt_of_le h1 hS.1) h2]; exact hS.2.1 q h1 h2, fun q hq => by
      rcases List.mem_append.mp hq with h | h
      · exact hS.2.2 q h
      · exact hL q h⟩ T' rfl X'
  exact ⟨t2, st t2 a1, b1⟩
theorem xPc_blind {as : List Value} : FrameBlind (xPc G as u) := fun a U g mk q => by
  obtain ⟨q0, qP, qK, qI, ⟨⟨z1, t1⟩, ⟨z2, t2⟩, ⟨z3, t3⟩⟩, n1, n2, n3, n4, n5⟩ := q
  have hv := Vm.Alike.refl U.vm
  exact ⟨q0, qP, va_K.moved (u := U) (U := U.calling g mk a) hv qK, qI, ⟨⟨z1.moved (U := U.calling g mk a) hv, t1.moved (U := U.calling g mk a) hv⟩, ⟨z2.moved (U := U.calling g mk a) hv, t2.moved (U := U.calling g mk a) hv⟩, ⟨z3.moved (U := U.calling g mk a) hv, t3.moved (U := U.calling g mk a) hv⟩⟩, n1.same rfl rfl, n2.same rfl rfl, n3.same rfl rfl, n4.same rfl rfl, n5.same rfl rfl⟩
theorem xsum {st : List Value} (h : (st.map fun v => v.category).sum ≤ 8) : ((st.map (xc G)).map fun v => v.category).sum ≤ 8 := by
  rw [List.map_map]
  have : ((fun v : Value => v.category) ∘ xc G) = fun v => v.category := funext fun v => xc_cat G v
  rw [this]
  exact h
theorem xg_o {o : Option Value} {st : List Value} : (o.map (xc G)).toList ++ st.map (xc G) = (o.toList ++ st).map (xc G) := by
  cases o <;> simp
theorem xg_callV (C : xCx p R s m args meth c G cc own nL d cells slots) {y : MethodName} {cz : ByteArray} {nz dz n idx a ci : Nat} {rz : Option FieldType} {as : List Value} {o : Option Value × xM} (hM : xEv y cz nz rz dz (.ref a :: as) u o) (hw : xMv y cz nz rz n) (hd : decode cc pc = .ok (.invokevirtual idx, 3)) (hlk : Cond.methodLink own idx y ∈ lw_g) (hlt : dz < d) (hnz : nz ≤ 40) (hn : as.length = n) (hsh : xSh a = (0, ci)) (ha : a < 54) (hci : ci < 5) (hcls : xRn ci = y.cls) (hst : (st.map fun v => v.category).sum ≤ 8)
    (k : xGo p l e R s m args below meth c G nL cells slots Q (pc + 3) lv (o.1.toList ++ st) o.2) : xGo p l e R s m args below meth c G nL cells slots Q pc lv (as.reverse ++ .ref a :: st) u := by
  obtain ⟨hx, hb, hml, hown, hts, hWo, hf, hlo, hc, hsl⟩ := C
  obtain ⟨w1, w2, w3, w4, w5, w6, w7⟩ := hw
  intro H locs ls hl hP hS
  have he : (xws G u)[a]? = some (G.1 a, .inr (ci, xFs G u ci a)) := by rw [xws_at ha, xE_obj hsh]
  have hrv := va_recv hWo.1 hP (xCl_at ci hci) he
  have hT : GoodIn lw_g (wsV own idx y.cls y (.code y cz nz rz :: lw_g)) := by
    intro w hw
    rcases List.mem_append.mp (show w ∈ ([.methodLink own idx y, .instanceMethod y, .selects y.cls y y, .initialized y.cls] : List Cond) ++ (.code y cz nz rz :: lw_g) from hw) with h | h
    · simp only [List.mem_cons, List.not_mem_nil, or_false] at h
      rcases h with rfl | rfl | rfl | rfl
      · exact lw_g_good _ hlk
      · exact lw_g_good _ w2
      · exact lw_g_good _ w3
      · exact lw_g_good _ w4
    · exact xGood_code w1 w h
  have hR : (xRm dz).frames + 1 ≤ R.frames ∧ 8 + (nz + 11) + (xRm dz).locals ≤ R.locals := by
    show dz + 1 ≤ R.frames ∧ 8 + (nz + 11) + 64 * dz ≤ R.locals
    omega
  have hr := va_runV (p := p) (l := l) (e := e) (below := below) (meth := meth) (locs := locs) (cells := cells) (slots := slots) (As := as.map (xc G)) (rest := st.map (xc G)) (b := G.1 a) (g := F0 m pc ls ((as.map (xc G)).reverse ++ .ref (G.1 a) :: st.map (xc G))) (C := y.cls) ⟨hx, hb, hml, hown, hts⟩ (hM l G) (cwV n hts hT rfl rfl rfl ⟨rfl, w5, w6, w7⟩ hR)
    ⟨xPc_blind, by rw [← hcls]; exact hrv, fun U hU hW => ⟨rfl, by rw [hU]; exact hP, xWo_moved hWo hS hU hW⟩⟩ rfl (by rw [List.length_map]; exact hn) hl.1 rfl (lv_room (xsum hst)) hd ⟨by omega, by omega⟩
  have hgo := xg_run hr hS (Q := Q) (fun H1 locs1 hP1 hS1 => by rw [xg_o]; exact k H1 locs1 ls hl hP1 hS1)
  rw [List.map_append, List.map_reverse]
  exact hgo
theorem xg_callS (C : xCx p R s m args meth c G cc own nL d cells slots) {y : MethodName} {cz : ByteArray} {nz dz n idx : Nat} {rz : Option FieldType} {as : List Value} {o : Option Value × xM} (hM : xEv y cz nz rz dz as u o) (hw : xMs y cz nz rz n) (hd : decode cc pc = .ok (.invokestatic idx, 3)) (hlk : Cond.methodLink own idx y ∈ lw_g) (hlt : dz < d) (hnz : nz ≤ 40) (hn : as.length = n) (hst : (st.map fun v => v.category).sum ≤ 8)
    (k : xGo p l e R s m args below meth c G nL cells slots Q (pc + 3) lv (o.1.toList ++ st) o.2) : xGo p l e R s m args below meth c G nL cells slots Q pc lv (as.reverse ++ st) u := by
  obtain ⟨hx, hb, hml, hown, hts, hWo, hf, hlo, hc, hsl⟩ := C
  obtain ⟨w1, w2, w3, w4, w5, w6⟩ := hw
  intro H locs ls hl hP hS
  have hR : (xRm dz).frames + 1 ≤ R.frames ∧ 8 + (nz + 11) + (xRm dz).locals ≤ R.locals := by
    show dz + 1 ≤ R.frames ∧ 8 + (nz + 11) + 64 * dz ≤ R.locals
    omega
  have hr := va_runS (p := p) (l := l) (e := e) (below := below) (meth := meth) (locs := locs) (cells := cells) (slots := slots) (As := as.map (xc G)) (rest := st.map (xc G)) (g := F0 m pc ls ((as.map (xc G)).reverse ++ st.map (xc G))) ⟨hx, hb, hml, hown, hts⟩ (hM l G) ⟨callB_of n hts (xGood_code w1) rfl rfl rfl (hts _ w3) (hts _ hlk) ⟨w4, w5, w6⟩ hR, hts _ w2⟩
    ⟨xPc_blind, fun U hU hW => ⟨rfl, by rw [hU]; exact hP, xWo_moved hWo hS hU hW⟩⟩ rfl (by rw [List.length_map]; exact hn) hl.1 rfl (lv_room (xsum hst)) hd ⟨by omega, by omega⟩
  have hgo := xg_run hr hS (Q := Q) (fun H1 locs1 hP1 hS1 => by rw [xg_o]; exact k H1 locs1 ls hl hP1 hS1)
  rw [List.map_append, List.map_reverse]
  exact hgo
theorem xg_callN (C : xCx p R s m args meth c G cc own nL d cells slots) {y : MethodName} {cz : ByteArray} {nz dz n idx : Nat} {rz : Option FieldType} {as : List Value} {o : Option Value × xM} {host : String} (hM : xEv y cz nz rz dz as u o) (hw : xMs y cz nz rz n) (hd : decode cc pc = .ok (.invokestatic idx, 3)) (hlk : xNst s → va_Nw (.methodLinkNest own idx y host) s) (hlt : dz < d) (hnz : nz ≤ 40) (hn : as.length = n) (hst : (st.map fun v => v.category).sum ≤ 8)
    (k : xGo p l e R s m args below meth c G nL cells slots Q (pc + 3) lv (o.1.toList ++ st) o.2) : xGo p l e R s m args below meth c G nL cells slots Q pc lv (as.reverse ++ st) u := by
  obtain ⟨hx, hb, hml, hown, hts, hWo, hf, hlo, hc, hsl⟩ := C
  obtain ⟨w1, w2, w3, w4, w5, w6⟩ := hw
  intro H locs ls hl hP hS
  have hR : (xRm dz).frames + 1 ≤ R.frames ∧ 8 + (nz + 11) + (xRm dz).locals ≤ R.locals := by
    show dz + 1 ≤ R.frames ∧ 8 + (nz + 11) + 64 * dz ≤ R.locals
    omega
  have hr := va_runSN (p := p) (l := l) (e := e) (below := below) (meth := meth) (locs := locs) (cells := cells) (slots := slots) (As := as.map (xc G)) (rest := st.map (xc G)) (g := F0 m pc ls ((as.map (xc G)).reverse ++ st.map (xc G))) ⟨hx, hb, hml, hown, hts⟩ (hM l G) ⟨va_cnB n hts (xGood_code w1) rfl rfl rfl (hlk hWo.2.2.2) (hts _ w3) ⟨w4, w5, w6⟩ hR, hts _ w2, trivial⟩
    ⟨xPc_blind, fun U hU hW => ⟨rfl, by rw [hU]; exact hP, xWo_moved hWo hS hU hW⟩⟩ rfl (by rw [List.length_map]; exact hn) hl.1 rfl (lv_room (xsum hst)) hd ⟨by omega, by omega⟩
  have hgo := xg_run hr hS (Q := Q) (fun H1 locs1 hP1 hS1 => by rw [xg_o]; exact k H1 locs1 ls hl hP1 hS1)
  rw [List.map_append, List.map_reverse]
  exact hgo
/-- a place of the array of Standings -/
theorem xg_aald (C : xCx p R s m args meth c G cc own nL d cells slots) {i : Int32} {q : Nat} (hd : decode cc pc = .ok (.aaload, 1)) (hi : inb i 3 = true) (hq : u.2.2 23 i.toNatClampNeg = some q) (k : xGo p l e R s m args below meth c G nL cells slots Q (pc + 1) lv (.ref q :: st) u) : xGo p l e R s m args below meth c G nL cells slots Q pc lv (.int i :: .ref 23 :: st) u := by
  intro H locs ls hl hP hS
  have he : (xws G u)[23]? = some (G.1 23, .inl (G.2.2.2.2, 3, .inr (.inr (.inr (.inr (fun j => (u.2.2 23 j).map G.1)))))) := by rw [xws_at (by decide), xE_ref rfl]
  refine va_aldq C.1 C.2.1 C.2.2.2.2.2.1.1 hP 23 2 he rfl (inb_in hi) hd ?_
  show W p l e R s m args below meth c H locs cells slots Q (F0 m (pc + 1) ls (va_rf ((u.2.2 23 i.toNatClampNeg).map G.1) :: _))
  rw [hq]
  exact k H locs ls hl hP hS
theorem xg_acopy (C : xCx p R s m args meth c G cc own nL d cells slots) {a0 a1 n0 n1 idx : Nat} {sp dp n : Int32} (hd : decode cc pc = .ok (.invokestatic idx, 3)) (hlk : Cond.methodLink own idx arraycopyName ∈ lw_g) (h1 : xSh a0 = (1, n0)) (h2 : xSh a1 = (1, n1)) (l0 : a0 < 54) (l1 : a1 < 54) (hc : cpok sp dp n n0 n1 = true) (hd1 : 1 ≤ d) (hst : (st.map fun v => v.category).sum ≤ 8) (k : xGo p l e R s m args below meth c G nL cells slots Q (pc + 3) lv st (xCp u a0 a1 sp dp n)) : xGo p l e R s m args below meth c G nL cells slots Q pc lv (.int n :: .int dp :: .ref a1 :: .int sp :: .ref a0 :: st) u := by
  obtain ⟨hx, hb, hml, hown, hts, hWo, hf, hlo, -⟩ := C
  intro H locs ls hl hP hS
  simp only [cpok, Bool.and_eq_true, decide_eq_true_eq] at hc
  obtain ⟨c1, c2, c3, c4, c5⟩ := hc
  obtain ⟨e1, f1⟩ := i32_nneg c1
  obtain ⟨e2, f2⟩ := i32_nneg c2
  obtain ⟨e3, f3⟩ := i32_nneg c3
  have he0 : (xws G u)[a0]? = some (G.1 a0, .inl (G.2.2.1, n0, .inl (u.1 a0))) := by rw [xws_at l0, xE_int h1]
  have he1 : (xws G u)[a1]? = some (G.1 a1, .inl (G.2.2.1, n1, .inl (u.1 a1))) := by rw [xws_at l1, xE_int h2]
  have hfw : nativeFrameWords "java/lang/System" "arraycopy" 5 + 11 ≤ 48 := by decide +kernel
  have hsm := xsum (G := G) hst
  refine va_copyi hx hb (hml.trans hl.1.symm) hown (hts _ hlk) (hts _ xW_nat) (hts _ xW_sta) (hts _ xW_ini) hWo.1 hP (xws_D hWo.2.1) hS a0 a1 0 0 he0 he1 rfl rfl rfl e1 e2 e3 (by omega) (by omega) (fun _ _ => rfl) (by omega) (by omega) hd (fun H1 locs1 hP1 hD1 hS1 => ?_)
  have hset : (xws G u).set a1 (G.1 a1, .inl (G.2.2.1, n1, .inl (va_cpy (u.1 a0) (u.1 a1) sp.toNatClampNeg dp.toNatClampNeg n.toNatClampNeg))) = xws G (xCp u a0 a1 sp dp n) := by
    refine xws_set ?_ (fun b h => xE_congr (by simp [xCp, va_up, h]) rfl rfl)
    rw [xE_int h2]
    simp [xCp, va_up]
  rw [hset] at hP1
  exact k H1 locs1 ls hl hP1 hS1
end XG
