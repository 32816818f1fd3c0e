/-! ===== the law: its frame, its rules ===== -/
def R_law : String := "NeitherBareLaw"
def lw_P (b : Addr) (xs : List Int32) (args : Array Value) (s : State) : Prop := args = #[.ref b] ∧ s.IntsAt b xs ∧ xs.length ≤ 3072 ∧ (Jvm.Cond.and given_1 narrow_1).before args s = true
def lw_Q (_ : Array Value) (s : State) (o : Outcome) (t : State) : Prop := o = .returned (some (.int 1)) ∧ Framed s o t [] 600000 7302250
def lw_Z (below : List Frame) (a : Array Value) (s : State) : State → Prop := fun t => ∃ o, t.status = .running ∧ Ended t below o ∧ lw_Q a s o t
/-- the law's own end, with 1 on the stack, nothing written that was there before, its room as the claim has it -/
theorem lw_ret {p : Program} {l : Launch} {e : Env} {s : State} {m : MethodId} {below : List Frame} {meth : Method} {c : Code} {b : Nat} (hx : p.tables.exec = Jvm.exec) (hb : c.code = code) (hr : meth.sig.returnType = ret) (hlocks : meth.locks = false) {pc : Nat} {H : Heap} {ls : Array Slot} (hdg : decode code pc = .ok (.ireturn, 1)) : W p l e room_1 s m #[Value.ref b] below meth c H [] 600000 7302250 (lw_Z below #[Value.ref b] s) (F0 m pc ls [.int 1]) := by
  intro T hT X
  obtain ⟨fs, hret, hrun, hended, hW, hframe⟩ := X.leave (v := some (.int 1)) (hlocks := hlocks) (fun h => by rw [hr] at h; cases h)
  have hmeth' : T.vm.method? m = some meth := X.method'
  refine ⟨T.setFrames fs, ?_, .returned (some (.int 1)), hrun, hended, rfl, ⟨_, rfl⟩, hW, hframe⟩
  jvm_step X.here [X.here.top, hx, hb, hdg, hmeth', hr, ret, narrow_b1]
  (try refine ⟨rfl, ?_⟩); (try refine ⟨rfl, ?_⟩)
  first | (intro acts; rw [hret _ acts rfl rfl rfl]) | rw [hret _ _ rfl rfl rfl]
  exact Steps.refl _
/-- what holds at the law's entry: the machine, the code, the tables' words (any of lw_tbl by 'hts w (by decide +kernel)'), the script of L ints xs at the cell b, what the Statement gives of the start (any of its parts by flat_of_before) -/
def lw_At (p : Program) (s : State) (m : MethodId) (meth : Method) (c : Code) (b L : Nat) (xs : Nat → Int32) : Prop :=
  p.tables.exec = Jvm.exec ∧ c.code = code ∧ meth.sig.returnType = ret ∧ c.maxLocals = 4 ∧ s.vm.findClass R_law = some m.cls ∧ (∀ w ∈ lw_tbl, w.before #[Value.ref b] s = true) ∧ va_X b L xs s s.heap ∧ b < s.heap.size ∧ meth.locks = false ∧ (Jvm.Cond.and given_1 narrow_1).before #[Value.ref b] s = true
/-- what the law's frame knows of its machine, of its objects, of its script -/
def zCx (p : Program) (s : State) (m : MethodId) (meth : Method) (c : Code) (G : xG) (b L : Nat) (xs : Nat → Int32) : Prop := xCx p room_1 s m #[Value.ref b] meth c G code R_law 4 1000 54 36771 ∧ G.1 57 = b ∧ va_X b L xs s s.heap ∧ b < s.heap.size ∧ (∀ q, xA G q → s.heap.size ≤ q) ∧ L ≤ 3072 ∧ meth.sig.returnType = ret ∧ meth.locks = false
abbrev zLv (k : Nat) : List (Nat × Value) := [(0, .ref 57), (1, .ref 0), (2, .ref 39), (3, .int (nI k))]
abbrev zG (p : Program) (l : Launch) (e : Env) (s : State) (m : MethodId) (below : List Frame) (meth : Method) (c : Code) (b : Nat) (G : xG) (pc : Nat) (lv : List (Nat × Value)) (st : List Value) (u : xM) : Prop := xGo p l e room_1 s m #[Value.ref b] below meth c G 4 54 36771 (lw_Z below #[Value.ref b] s) pc lv st u
abbrev zA1 : List xIn := [(.aload_n 1, (0, 0, 0), 0, 0)]
abbrev zA2 : List xIn := [(.aload_n 2, (0, 0, 0), 0, 0)]
abbrev zAr (j : Int) (v : Int32) : List xIn := [(.aload_n 0, (0, 0, 0), 0, 0), (.iload_n 3, (0, 0, 0), 0, 0), (.iconst j, (0, 0, 0), v, 0), (.iadd, (0, 0, 0), 0, 0)]
section ZL
variable {p : Program} {l : Launch} {e : Env} {s : State} {m : MethodId} {below : List Frame} {meth : Method} {c : Code} {G : xG} {b L : Nat} {xs : Nat → Int32} {pc k : Nat} {st : List Value} {u : xM} {n : xN}
theorem z_bA (Z : zCx p s m meth c G b L xs) : ¬ xA G b := fun h => absurd (Z.2.2.2.2.1 b h) (Nat.not_le.mpr Z.2.2.2.1)
theorem z_a1 (Z : zCx p s m meth c G b L xs) (hd : xOk R_law code pc zA1 = true) (kk : zG p l e s m below meth c b G (pc + 1) (zLv k) (.ref 0 :: st) u) : zG p l e s m below meth c b G pc (zLv k) st u := xRun_ok Z.1 zA1 hd rfl (fun _ h => absurd h List.not_mem_nil) kk
theorem z_a2 (Z : zCx p s m meth c G b L xs) (hd : xOk R_law code pc zA2 = true) (kk : zG p l e s m below meth c b G (pc + 1) (zLv k) (.ref 39 :: st) u) : zG p l e s m below meth c b G pc (zLv k) st u := xRun_ok Z.1 zA2 hd rfl (fun _ h => absurd h List.not_mem_nil) kk
/-- a place of the script -/
theorem z_sld (Z : zCx p s m meth c G b L xs) {lv : List (Nat × Value)} {i : Nat} (hi : i < L) (hd : decode code pc = .ok (.iaload, 1)) (kk : zG p l e s m below meth c b G (pc + 1) lv (.int (xs i) :: st) u) : zG p l e s m below meth c b G pc lv (.int (nI i) :: .ref 57 :: st) u := by
  intro H locs ls hl hP hS
  have hb := z_bA Z
  obtain ⟨C, hG, hX, hbl, -, hL, -⟩ := Z
  show W p l e room_1 s m #[Value.ref b] below meth c H locs 54 36771 (lw_Z below #[Value.ref b] s) (F0 m pc ls (.int (nI i) :: .ref (G.1 57) :: st.map (xc G)))
  rw [hG]
  refine va_sld C.1 C.2.1 hX hbl hb hS (vp_in_nI hi (by omega)) hd ?_
  rw [nI_clamp (by omega)]
  exact kk H locs ls hl hP hS
theorem z_arg (Z : zCx p s m meth c G b L xs) {j : Nat} {ji : Int} (hok : xOk R_law code pc (zAr ji (nI j)) = true) (hj : k + j < L) (hd : decode code (pc + 4) = .ok (.iaload, 1)) (kk : zG p l e s m below meth c b G (pc + 5) (zLv k) (.int (xs (k + j)) :: st) u) : zG p l e s m below meth c b G pc (zLv k) st u := by
  have e : nI k + nI j = nI (k + j) := nI_add k j
  refine xRun_ok Z.1 (zAr ji (nI j)) hok (bs := []) (pc' := pc + 4) (lv' := zLv k) (st' := .int (nI (k + j)) :: .ref 57 :: st) (u' := u) ?_ (fun _ h => absurd h List.not_mem_nil) (z_sld Z hj hd kk)
  rw [← e]
  rfl
theorem z_ci (Z : zCx p s m meth c G b L xs) {lv : List (Nat × Value)} {md : xMd} {y : MethodName} {nn idx a ci p1 : Nat} {as : List Value} {u1 : xM} {r : Int32} (hM : xEm md y (.ref a :: as) u (some (.int r), u1)) (hw : xMv y md.1 md.2.2.1 md.2.2.2.1 nn) (hd : decode code pc = .ok (.invokevirtual idx, 3)) (hlk : lw_tbl[p1]? = some (Cond.methodLink R_law idx y)) (hlt : md.2.2.2.2 < 1000 ∧ md.2.2.1 ≤ 40) (hn : as.length = nn) (hsh : xSh a = (0, ci)) (ha : a < 54 ∧ ci < 5) (hcls : xRn ci = y.cls) (hst : (st.map fun v => v.category).sum ≤ 8) (kk : zG p l e s m below meth c b G (pc + 3) lv (.int r :: st) u1) : zG p l e s m below meth c b G pc lv (as.reverse ++ .ref a :: st) u := xg_callV Z.1 hM hw hd (xLk hlk rfl) hlt.1 hlt.2 hn hsh ha.1 ha.2 hcls hst kk
theorem z_cl (Z : zCx p s m meth c G b L xs) {lv : List (Nat × Value)} {md : xMd} {y : MethodName} {nn idx a ci p1 : Nat} {as : List Value} {u1 : xM} {r : Int64} (hM : xEm md y (.ref a :: as) u (some (.long r), u1)) (hw : xMv y md.1 md.2.2.1 md.2.2.2.1 nn) (hd : decode code pc = .ok (.invokevirtual idx, 3)) (hlk : lw_tbl[p1]? = some (Cond.methodLink R_law idx y)) (hlt : md.2.2.2.2 < 1000 ∧ md.2.2.1 ≤ 40) (hn : as.length = nn) (hsh : xSh a = (0, ci)) (ha : a < 54 ∧ ci < 5) (hcls : xRn ci = y.cls) (hst : (st.map fun v => v.category).sum ≤ 8) (kk : zG p l e s m below meth c b G (pc + 3) lv (.long r :: st) u1) : zG p l e s m below meth c b G pc lv (as.reverse ++ .ref a :: st) u := xg_callV Z.1 hM hw hd (xLk hlk rfl) hlt.1 hlt.2 hn hsh ha.1 ha.2 hcls hst kk
theorem z_eq (Z : zCx p s m meth c G b L xs) {lv : List (Nat × Value)} {r : Int32} {off : Int} (hd : decode code pc = .ok (.if_icmp .eq off, 3)) (ht : (pc : Int) + off = 1578) (kk : zG p l e s m below meth c b G 1578 lv st u) : zG p l e s m below meth c b G pc lv (.int r :: .int r :: st) u := xg_icmp_eq (tgt := 1578) Z.1 hd ht (fun _ => kk) (fun h => absurd rfl h)
theorem lg_cmp_self (x : Int64) : lg_cmp x x = 0 := by
  unfold lg_cmp
  simp
theorem z_eql (Z : zCx p s m meth c G b L xs) {lv : List (Nat × Value)} {r : Int64} {off : Int} (hd1 : decode code pc = .ok (.lcmp, 1)) (hd : decode code (pc + 1) = .ok (.ifCond .eq off, 3)) (ht : ((pc + 1 : Nat) : Int) + off = 1578) (kk : zG p l e s m below meth c b G 1578 lv st u) : zG p l e s m below meth c b G pc lv (.long r :: .long r :: st) u := by
  refine xRun_ok Z.1 [(.lcmp, (0, 0, 0), 0, 0)] (bs := []) (pc' := pc + 1) (lv' := lv) (st' := .int (lg_cmp r r) :: st) (u' := u) ?_ rfl (fun _ h => absurd h List.not_mem_nil) ?_
  · simp only [xOk, xLen, hd1, xAnn, decide_true, Bool.true_and, Bool.and_true]
  · exact xg_if_eq (tgt := 1578) Z.1 hd ht (fun _ => kk) (fun h => absurd (lg_cmp_self r) h)
end ZL
/-! ===== the two courts change places ===== -/
def sG (G : xG) : xG := (fun a => G.1 (sgm a), G.2)
theorem sgm_lt {k : Nat} (h : k < 54) : sgm k < 54 := by
  unfold sgm
  split
  · omega
  · split <;> omega
theorem sgm_sgm (k : Nat) : sgm (sgm k) = k := by
  unfold sgm
  by_cases h1 : 7 ≤ k ∧ k ≤ 12
  · rw [if_pos h1, if_neg (by omega), if_pos (by omega)]
    omega
  · rw [if_neg h1]
    by_cases h2 : 13 ≤ k ∧ k ≤ 18
    · rw [if_pos h2, if_pos (by omega)]
      omega
    · rw [if_neg h2, if_neg h1, if_neg h2]
theorem sG_A (G : xG) (q : Nat) : xA (sG G) q ↔ xA G q := by
  constructor
  · rintro ⟨k, hk, rfl⟩
    exact ⟨sgm k, sgm_lt hk, rfl⟩
  · rintro ⟨k, hk, rfl⟩
    exact ⟨sgm k, sgm_lt hk, by show G.1 k = G.1 (sgm (sgm k)); rw [sgm_sgm]⟩
theorem sG_23 (G : xG) : (fun j => (rf0 23 j).map (sG G).1) = fun j => (rf1 23 j).map G.1 := funext fun j => match j with
  | 0 => rfl
  | 1 => rfl
  | 2 => rfl
  | _ + 3 => rfl
set_option maxHeartbeats 4000000 in
set_option maxRecDepth 20000 in
theorem sG_E (G : xG) (n : xN) : ∀ k, k < 54 → xE (sG G) (xU (swp n)) k = xE G (xU1 n) (sgm k) := by
  intro k hk
  match k, hk with
  | 0, _ => rfl
  | 1, _ => rfl
  | 2, _ => rfl
  | 3, _ => rfl
  | 4, _ => rfl
  | 5, _ => rfl
  | 6, _ => rfl
  | 7, _ => rfl
  | 8, _ => rfl
  | 9, _ => rfl
  | 10, _ => rfl
  | 11, _ => rfl
  | 12, _ => rfl
  | 13, _ => rfl
  | 14, _ => rfl
  | 15, _ => rfl
  | 16, _ => rfl
  | 17, _ => rfl
  | 18, _ => rfl
  | 19, _ => rfl
  | 20, _ => rfl
  | 21, _ => rfl
  | 22, _ => rfl
  | 23, _ => exact congrArg (fun f => (Sum.inl (G.2.2.2.2, 3, .inr (.inr (.inr (.inr f)))) : va_E)) (sG_23 G)
  | 24, _ => rfl
  | 25, _ => rfl
  | 26, _ => rfl
  | 27, _ => rfl
  | 28, _ => rfl
  | 29, _ => rfl
  | 30, _ => rfl
  | 31, _ => rfl
  | 32, _ => rfl
  | 33, _ => rfl
  | 34, _ => rfl
  | 35, _ => rfl
  | 36, _ => rfl
  | 37, _ => rfl
  | 38, _ => rfl
  | 39, _ => rfl
  | 40, _ => rfl
  | 41, _ => rfl
  | 42, _ => rfl
  | 43, _ => rfl
  | 44, _ => rfl
  | 45, _ => rfl
  | 46, _ => rfl
  | 47, _ => rfl
  | 48, _ => rfl
  | 49, _ => rfl
  | 50, _ => rfl
  | 51, _ => rfl
  | 52, _ => rfl
  | 53, _ => rfl
  | k + 54, h => exact absurd h (by omega)
theorem sG_P {G : xG} {n : xN} {H : Heap} (h : va_P G.2.1 vwCl (xws G (xU1 n)) H) : va_P (sG G).2.1 vwCl (xws (sG G) (xU (swp n))) H := by
  intro k q hk
  have hl : k < 54 := by
    have := (List.getElem?_eq_some_iff.mp hk).1
    simpa [xws] using this
  rw [xws_at hl] at hk
  cases hk
  have h1 := h (sgm k) _ (xws_at (sgm_lt hl))
  rw [sG_E G n k hl]
  exact h1
theorem sG_Z {p : Program} {s : State} {m : MethodId} {meth : Method} {c : Code} {G : xG} {b L : Nat} {xs : Nat → Int32} (Z : zCx p s m meth c G b L xs) : zCx p s m meth c (sG G) b L xs := by
  obtain ⟨⟨hx, hb, hml, hown, hts, ⟨hK, hI, ⟨⟨z1, t1⟩, ⟨z2, t2⟩, ⟨z3, t3⟩⟩, hN⟩, hf⟩, hG, hX, hbl, hA, hL⟩ := Z
  refine ⟨⟨hx, hb, hml, hown, hts, ⟨hK, fun i j hi hj he => ?_, ⟨⟨z1.narrow (fun q => (sG_A G q).mp), t1.narrow (fun q => (sG_A G q).mp)⟩, ⟨z2.narrow (fun q => (sG_A G q).mp), t2.narrow (fun q => (sG_A G q).mp)⟩, ⟨z3.narrow (fun q => (sG_A G q).mp), t3.narrow (fun q => (sG_A G q).mp)⟩⟩, hN⟩, hf⟩, hG, hX, hbl, fun q hq => hA q ((sG_A G q).mp hq), hL⟩
  have h1 := hI (sgm i) (sgm j) (sgm_lt hi) (sgm_lt hj) he
  rw [← sgm_sgm i, h1, sgm_sgm]
theorem z_sw {p : Program} {l : Launch} {e : Env} {s : State} {m : MethodId} {below : List Frame} {meth : Method} {c : Code} {G : xG} {b pc k : Nat} {r : Int32} {n : xN} (kk : zG p l e s m below meth c b (sG G) pc (zLv k) [.int r] (xU (swp n))) : zG p l e s m below meth c b G pc (zLv k) [.int r] (xU1 n) := by
  intro H locs ls hl hP hS
  exact kk H locs ls hl (sG_P hP) ⟨hS.1, fun q h1 h2 => hS.2.1 q h1 (fun z => h2 ((sG_A G q).mpr z)), fun q hq => (sG_A G _).mpr (hS.2.2 q hq)⟩
