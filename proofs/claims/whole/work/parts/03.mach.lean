/-! ===== the machine in small: memory by labels and slots; a row of straight instructions is run by a function (xRun), and what it says is true of the machine (xRun_ok) ===== -/
def lw_g : List Cond := lw_tbl.filter goodWord
theorem lw_g_in {w : Cond} (h : w ∈ lw_g) : w ∈ lw_tbl := (List.mem_filter.mp h).1
theorem lw_g_mk {w : Cond} (h : w ∈ lw_tbl) (hg : goodWord w = true) : w ∈ lw_g := List.mem_filter.mpr ⟨h, hg⟩
theorem lw_g_good : GoodIn lw_g lw_g := fun w h => ⟨h, good_of_word (List.mem_filter.mp h).2⟩
/-- ints, longs, references (labels): by label and slot -/
abbrev xM : Type := (Nat → Nat → Int32) × (Nat → Nat → Int64) × (Nat → Nat → Option Nat)
/-- addresses of labels; classes; the classes of int[], boolean[], Standing[] -/
abbrev xG : Type := (Nat → Nat) × va_G × ClassId × ClassId × ClassId
/-- the shape of a label: 0 an object of a class, 1 int[], 2 boolean[], 3 Standing[] (length), 4 static int[], 5 static long[] -/
def xSh : Nat → Nat × Nat := fun a => ([(0, 3), (0, 1), (1, 240), (1, 6), (0, 1), (1, 320), (1, 4), (0, 0), (1, 30), (1, 320), (1, 8), (1, 8), (1, 8), (0, 0), (1, 30), (1, 320), (1, 8), (1, 8), (1, 8), (0, 2), (1, 8), (1, 40), (1, 40), (3, 3), (0, 2), (1, 8), (1, 40), (1, 40), (0, 2), (1, 8), (1, 40), (1, 40), (0, 2), (1, 8), (1, 40), (1, 40), (1, 64), (1, 8), (1, 6), (0, 4), (1, 1480), (1, 30), (1, 8), (1, 8), (1, 8), (1, 6), (1, 240), (1, 4), (1, 320), (1, 6), (1, 30), (1, 24), (2, 16384), (2, 16384), (4, 6), (4, 6), (5, 6)] : List (Nat × Nat)).getD a (9, 0)
/-- the fields of a class: 0 int (boolean), 1 long, 2 reference -/
def xKs : Nat → List Nat := fun c => ([[0, 0, 0, 2, 2, 2, 2, 2], [0, 0, 0, 2, 2], [0, 0, 0, 2, 2, 2], [2, 2, 2, 2, 2, 2, 2, 2, 2, 0, 0, 1, 1], [2, 0, 2, 0, 2, 2, 2, 2, 2, 2, 2, 0, 1, 1, 0, 2, 0, 0, 0, 2, 0, 2, 0, 2, 2]] : List (List Nat)).getD c []
def xc (G : xG) (v : Value) : Value := match v with
  | .ref k => .ref (G.1 k)
  | v => v
def xV (G : xG) (u : xM) (a k : Nat) (kd : Nat) : Value := match kd with
  | 0 => .int (u.1 a k)
  | 1 => .long (u.2.1 a k)
  | _ => xc G (va_rf (u.2.2 a k))
def xFs (G : xG) (u : xM) (ci a : Nat) : List Value := (List.range (xKs ci).length).map (fun k => xV G u a k ((xKs ci).getD k 0))
def xE (G : xG) (u : xM) (a : Nat) : va_E := match xSh a with
  | (0, ci) => .inr (ci, xFs G u ci a)
  | (1, n) => .inl (G.2.2.1, n, .inl (u.1 a))
  | (2, n) => .inl (G.2.2.2.1, n, .inl (u.1 a))
  | (_, n) => .inl (G.2.2.2.2, n, .inr (.inr (.inr (.inr (fun j => (u.2.2 a j).map G.1)))))
def xws (G : xG) (u : xM) : va_W := (List.range 54).map (fun a => (G.1 a, xE G u a))
theorem xws_at {G : xG} {u : xM} {a : Nat} (h : a < 54) : (xws G u)[a]? = some (G.1 a, xE G u a) := by
  simp [xws, h]
theorem xws_set {G : xG} {u u' : xM} {a : Nat} {e : va_E} (he : xE G u' a = e) (ho : ∀ b, b ≠ a → xE G u' b = xE G u b) : (xws G u).set a (G.1 a, e) = xws G u' := by
  apply List.ext_getElem?
  intro i
  simp only [xws, List.getElem?_set, List.getElem?_map, List.length_map, List.length_range]
  by_cases hi : i < 54
  · by_cases hai : a = i
    · subst hai
      simp [hi, he]
    · rw [if_neg hai]
      simp [hi, ho i (fun q => hai q.symm)]
  · by_cases hai : a = i
    · subst hai
      simp [hi]
    · rw [if_neg hai]
      simp [hi]
/-- a write of an int, of a long, of a reference -/
def xI (u : xM) (a k : Nat) (v : Int32) : xM := (va_up u.1 a (upd (u.1 a) k v), u.2)
def xJ (u : xM) (a k : Nat) (v : Int64) : xM := (u.1, va_up u.2.1 a (va_up (u.2.1 a) k v), u.2.2)
def xR (u : xM) (a k : Nat) (v : Option Nat) : xM := (u.1, u.2.1, va_up u.2.2 a (va_up (u.2.2 a) k v))
theorem xI_same {u : xM} {a k : Nat} {v : Int32} : (xI u a k v).1 a = upd (u.1 a) k v := by simp [xI, va_up]
theorem xI_other {u : xM} {a b k : Nat} {v : Int32} (h : b ≠ a) : (xI u a k v).1 b = u.1 b := by simp [xI, va_up, h]
theorem xJ_other {u : xM} {a b k : Nat} {v : Int64} (h : b ≠ a) : (xJ u a k v).2.1 b = u.2.1 b := by simp [xJ, va_up, h]
theorem xR_other {u : xM} {a b k : Nat} {v : Option Nat} (h : b ≠ a) : (xR u a k v).2.2 b = u.2.2 b := by simp [xR, va_up, h]
theorem xE_congr {G : xG} {u u' : xM} {b : Nat} (h1 : u'.1 b = u.1 b) (h2 : u'.2.1 b = u.2.1 b) (h3 : u'.2.2 b = u.2.2 b) : xE G u' b = xE G u b := by
  have hV : ∀ k kd, xV G u' b k kd = xV G u b k kd := by
    intro k kd
    unfold xV
    rw [h1, h2, h3]
  unfold xE xFs
  simp only [h1, h3, hV]
def xA (G : xG) : Nat → Prop := fun q => ∃ k, k < 54 ∧ q = G.1 k
abbrev xTys (G : xG) : List (ClassId × FieldType) := [(G.2.2.1, .int), (G.2.2.2.1, .boolean), (G.2.2.2.2, .object "NeitherBare$Standing")]
/-- the static arrays: PARENTS 54, LETTERS 55, WITHOUT 56 -/
def xS : Nat → Nat → Int32 := fun a j => ((if a = 54 then [-9, 0, 0, 0, 1, 2] else [99, 110, 98, 117, 104, 120] : List Int32)).getD j 0
def xSl : Nat → Int64 := fun j => ([6148914691236517205, 3689348814741910323, 1085102592571150095, 71777214294589695, 281470681808895, 4294967295] : List Int64).getD j 0
def xStat (G : xG) (U : State) (H : Heap) : Prop :=
  (va_Z "NeitherBare" "PARENTS" "[I" (.ref (G.1 54)) (xA G) U H ∧ va_T .int (G.1 54) 6 (fun j => .int (xS 54 j)) (xA G) U H) ∧
  (va_Z "NeitherBare" "LETTERS" "[I" (.ref (G.1 55)) (xA G) U H ∧ va_T .int (G.1 55) 6 (fun j => .int (xS 55 j)) (xA G) U H) ∧
  (va_Z "NeitherBare" "WITHOUT" "[J" (.ref (G.1 56)) (xA G) U H ∧ va_T .long (G.1 56) 6 (fun j => .long (xSl j)) (xA G) U H)
def xInj (G : xG) : Prop := ∀ i j, i < 54 → j < 54 → G.1 i = G.1 j → i = j
def xNst (U : State) : Prop :=
  va_Nw (.methodLinkNest RX0 74 yX3_isTrait RX3) U ∧ va_Nw (.methodLinkNest RX0 64 yX3_isOfKind RX3) U ∧ va_Nw (.fieldLinkNest RX0 61 "NeitherBare" "LETTERS" "[I" RX3) U ∧ va_Nw (.methodLinkNest RX2 28 yX3_hasBit RX3) U ∧ va_Nw (.methodLinkNest RX1 45 yX3_mixed RX3) U
def xWo (G : xG) (U : State) : Prop := va_K G.2.1 vwCl (xTys G) U ∧ xInj G ∧ xStat G U U.heap ∧ xNst U
theorem xws_D {G : xG} {u : xM} (h : xInj G) : va_D (xA G) (xws G u) := by
  have key : ∀ (k : Nat) (q : Nat × va_E), (xws G u)[k]? = some q → k < 54 ∧ q.1 = G.1 k := by
    intro k q hk
    have hl : k < 54 := by
      have := (List.getElem?_eq_some_iff.mp hk).1
      simpa [xws] using this
    rw [xws_at hl] at hk
    cases hk
    exact ⟨hl, rfl⟩
  refine ⟨fun i j p q hi hj e => ?_, fun k q hk => ?_⟩
  · obtain ⟨a1, a2⟩ := key i p hi
    obtain ⟨b1, b2⟩ := key j q hj
    exact h i j a1 b1 (by rw [← a2, ← b2, e])
  · obtain ⟨a1, a2⟩ := key k q hk
    exact ⟨k, a1, a2⟩
/-- contracts -/
def xPc (G : xG) (as : List Value) (u : xM) : Array Value → State → Prop := va_Pc (as.map (xc G)) (fun U => va_P G.2.1 vwCl (xws G u) U.heap ∧ xWo G U)
def xQc (G : xG) (o : Option Value × xM) : Array Value → State → Outcome → State → Prop := fun _ st oc t => oc = .returned (o.1.map (xc G)) ∧ va_P G.2.1 vwCl (xws G o.2) t.heap ∧ va_F (xA G) st t
def xRm (d : Nat) : Room := { frames := d, cells := 0, slots := 0, locals := 64 * d }
def xEv (y : MethodName) (cc : ByteArray) (nL : Nat) (ret : Option FieldType) (d : Nat) (as : List Value) (u : xM) (o : Option Value × xM) : Prop := ∀ (l : Launch) (G : xG), Met l y (.code y cc nL ret :: lw_g) (xRm d) (xPc G as u) (xQc G o) 0 0 (xA G)
theorem xWo_moved {G : xG} {s U : State} {H : Heap} {locs : List Loc} (h : xWo G s) (hS : va_S (xA G) s.heap H locs) (hU : U.heap = H) (hW : s.WarmedH U.vm) : xWo G U := by
  obtain ⟨hK, hI, ⟨⟨z1, t1⟩, ⟨z2, t2⟩, ⟨z3, t3⟩⟩, n1, n2, n3, n4, n5⟩ := h
  have hq : ∀ a : Nat, a < s.heap.size → ¬ xA G a → U.heap[a]? = s.heap[a]? := fun a h1 h2 => by rw [hU]; exact hS.2.1 a h1 h2
  exact ⟨va_K.moved hW.alike hK, hI, ⟨⟨(z1.kept hq).moved hW.alike, (t1.kept hq).moved hW.alike⟩, ⟨(z2.kept hq).moved hW.alike, (t2.kept hq).moved hW.alike⟩, ⟨(z3.kept hq).moved hW.alike, (t3.kept hq).moved hW.alike⟩⟩, n1.warmM hW, n2.warmM hW, n3.warmF hW, n4.warmM hW, n5.warmM hW⟩
/-- what a frame knows of its machine -/
def xCx (p : Program) (R : Room) (s : State) (m : MethodId) (args : Array Value) (meth : Method) (c : Code) (G : xG) (cc : ByteArray) (own : String) (nL : Nat) (d cells slots : Nat) : Prop :=
  p.tables.exec = Jvm.exec ∧ c.code = cc ∧ c.maxLocals = nL ∧ s.vm.findClass own = some m.cls ∧ (∀ w ∈ lw_g, w.before args s = true) ∧ xWo G s ∧ d ≤ R.frames ∧ 64 * d ≤ R.locals ∧ cells ≤ R.cells ∧ slots ≤ R.slots
abbrev xcl (G : xG) (lv : List (Nat × Value)) : List (Nat × Value) := lv.map (fun q => (q.1, xc G q.2))
/-- the rest of the walk, from a place, with locals, stack and memory: 'when the value x is there, the machine comes to it' -/
def xGo (p : Program) (l : Launch) (e : Env) (R : Room) (s : State) (m : MethodId) (args : Array Value) (below : List Frame) (meth : Method) (c : Code) (G : xG) (nL cells slots : Nat) (Q : State → Prop) (pc : Nat) (lv : List (Nat × Value)) (st : List Value) (u : xM) : Prop :=
  ∀ (H : Heap) (locs : List Loc) (ls : Array Slot), lv_has ls nL (xcl G lv) → va_P G.2.1 vwCl (xws G u) H → va_S (xA G) s.heap H locs → W p l e R s m args below meth c H locs cells slots Q (F0 m pc ls (st.map (xc G)))
/-- the words of straight instructions: the instruction; class, slot, place of its word; its constants -/
abbrev xIn : Type := Instr × (Nat × Nat × Nat) × Int32 × Int64
def xT : Nat → u_T := fun c => ([TX0, TX1, TX2, TX3, TX4] : List u_T).getD c TX0
def xTy : Nat → Nat → FieldType := fun c => ([tyX0, tyX1, tyX2, tyX3, tyX4] : List (Nat → FieldType)).getD c tyX0
def xLen : Instr → Nat
  | .bipush _ => 2
  | .sipush _ => 3
  | .ldc _ => 2
  | .ldc_w _ => 3
  | .ldc2_w _ => 3
  | .iload _ => 2
  | .lload _ => 2
  | .aload _ => 2
  | .istore _ => 2
  | .lstore _ => 2
  | .astore _ => 2
  | .iinc _ _ => 3
  | .getfield _ => 3
  | .putfield _ => 3
  | .getstatic _ => 3
  | _ => 1
def xAnn (own : String) (i : xIn) : Bool := match i.1 with
  | .iconst n => decide (Int32.ofInt n = i.2.2.1)
  | .bipush n => decide ((Int8.ofInt n).toInt32 = i.2.2.1)
  | .sipush n => decide ((Int16.ofInt n).toInt32 = i.2.2.1)
  | .iinc _ n => decide (Int32.ofInt n = i.2.2.1)
  | .lconst n => decide (Int64.ofNat (n : Nat) = i.2.2.2)
  | .ldc x => decide (lw_tbl[i.2.1.2.2]? = some (Cond.constant own x i.2.2.1))
  | .ldc_w x => decide (lw_tbl[i.2.1.2.2]? = some (Cond.constant own x i.2.2.1))
  | .ldc2_w x => decide (lw_tbl[i.2.1.2.2]? = some (Cond.constantLong own x i.2.2.2))
  | .getfield x => decide (i.2.1.1 < 5) && (decide (i.2.1.2.1 < (xKs i.2.1.1).length) && decide (lw_tbl[i.2.1.2.2]? = some (Cond.fieldLink own x (xT i.2.1.1 i.2.1.2.1).1 (xT i.2.1.1 i.2.1.2.1).2.1 (xT i.2.1.1 i.2.1.2.1).2.2.1)))
  | .putfield x => decide (i.2.1.1 < 5) && (decide (i.2.1.2.1 < (xKs i.2.1.1).length) && (decide (lw_tbl[i.2.1.2.2]? = some (Cond.fieldLink own x (xT i.2.1.1 i.2.1.2.1).1 (xT i.2.1.1 i.2.1.2.1).2.1 (xT i.2.1.1 i.2.1.2.1).2.2.1)) && !(xT i.2.1.1 i.2.1.2.1).2.2.2))
  | .getstatic x => if i.2.1.1 = 54 then decide (lw_tbl[i.2.1.2.2]? = some (Cond.fieldLink own x "NeitherBare" "PARENTS" "[I")) else if i.2.1.1 = 55 then decide (own = RX0) && decide (x = 61) else decide (i.2.1.1 = 56) && decide (lw_tbl[i.2.1.2.2]? = some (Cond.fieldLink own x "NeitherBare" "WITHOUT" "[J"))
  | .arraylength => true
  | _ => true
def xGet : List (Nat × Value) → Nat → Option Value
  | [], _ => none
  | q :: r, i => if q.1 = i then some q.2 else xGet r i
def xIns (i : Nat) (v : Value) : List (Nat × Value) → List (Nat × Value)
  | [] => [(i, v)]
  | q :: r => if q.1 < i then q :: xIns i v r else (i, v) :: q :: r
def xSet1 (lv : List (Nat × Value)) (i : Nat) (v : Value) : List (Nat × Value) := xIns i v (lv.filter (fun q => !(q.1 == i) && !(q.1 + 1 == i && q.2.category == 2)))
def xSet2 (lv : List (Nat × Value)) (i : Nat) (v : Value) : List (Nat × Value) := xIns i v (lv.filter (fun q => !(q.1 == i) && (!(q.1 == i + 1) && !(q.1 + 1 == i && q.2.category == 2))))
/-- in bounds; not nought; a truth value -/
def inb (i : Int32) (n : Nat) : Bool := decide (0 ≤ i.toInt) && decide (i.toInt < (n : Int))
def nzi (i : Int32) : Bool := !decide (i = 0)
def nzl (i : Int64) : Bool := !decide (i = 0)
def isb (i : Int32) : Bool := decide (i = 0) || decide (i = 1)
theorem inb_in {i : Int32} {n : Nat} (h : inb i n = true) : vp_in i n := by
  simp only [inb, Bool.and_eq_true, decide_eq_true_eq] at h
  exact vp_in_iff.mpr h
theorem nzi_ne {i : Int32} (h : nzi i = true) : ¬ i = 0 := by simpa [nzi] using h
theorem nzl_ne {i : Int64} (h : nzl i = true) : ¬ i = 0 := by simpa [nzl] using h
theorem isb_or {i : Int32} (h : isb i = true) : i = 0 ∨ i = 1 := by simpa [isb] using h
def xStep (nL : Nat) (i : xIn) (lv : List (Nat × Value)) (st : List Value) (u : xM) : Option (Option Bool × List (Nat × Value) × List Value × xM) :=
  match i.1 with
  | .iconst _ => some (none, lv, .int i.2.2.1 :: st, u)
  | .bipush _ => some (none, lv, .int i.2.2.1 :: st, u)
  | .sipush _ => some (none, lv, .int i.2.2.1 :: st, u)
  | .ldc _ => some (none, lv, .int i.2.2.1 :: st, u)
  | .ldc_w _ => some (none, lv, .int i.2.2.1 :: st, u)
  | .lconst _ => some (none, lv, .long i.2.2.2 :: st, u)
  | .ldc2_w _ => some (none, lv, .long i.2.2.2 :: st, u)
  | .iload k => (match xGet lv k with
    | some (.int x) => some (none, lv, .int x :: st, u)
    | _ => none)
  | .iload_n k => (match xGet lv k with
    | some (.int x) => some (none, lv, .int x :: st, u)
    | _ => none)
  | .lload k => (match xGet lv k with
    | some (.long x) => some (none, lv, .long x :: st, u)
    | _ => none)
  | .lload_n k => (match xGet lv k with
    | some (.long x) => some (none, lv, .long x :: st, u)
    | _ => none)
  | .aload k => (match xGet lv k with
    | some (.ref x) => some (none, lv, .ref x :: st, u)
    | _ => none)
  | .aload_n k => (match xGet lv k with
    | some (.ref x) => some (none, lv, .ref x :: st, u)
    | _ => none)
  | .istore k => (match st with
    | .int x :: r => if k < nL then some (none, xSet1 lv k (.int x), r, u) else none
    | _ => none)
  | .istore_n k => (match st with
    | .int x :: r => if (k : Nat) < nL then some (none, xSet1 lv k (.int x), r, u) else none
    | _ => none)
  | .astore_n k => (match st with
    | .ref x :: r => if (k : Nat) < nL then some (none, xSet1 lv k (.ref x), r, u) else none
    | _ => none)
  | .lstore k => (match st with
    | .long x :: r => if k + 1 < nL then some (none, xSet2 lv k (.long x), r, u) else none
    | _ => none)
  | .lstore_n k => (match st with
    | .long x :: r => if (k : Nat) + 1 < nL then some (none, xSet2 lv k (.long x), r, u) else none
    | _ => none)
  | .iinc k _ => (match xGet lv k with
    | some (.int x) => if k < nL then some (none, xSet1 lv k (.int (x + i.2.2.1)), st, u) else none
    | _ => none)
  | .iadd => (match st with
    | .int y :: .int x :: r => some (none, lv, .int (x + y) :: r, u)
    | _ => none)
  | .isub => (match st with
    | .int y :: .int x :: r => some (none, lv, .int (x - y) :: r, u)
    | _ => none)
  | .imul => (match st with
    | .int y :: .int x :: r => some (none, lv, .int (x * y) :: r, u)
    | _ => none)
  | .idiv => (match st with
    | .int y :: .int x :: r => some (some (nzi y), lv, .int (x / y) :: r, u)
    | _ => none)
  | .irem => (match st with
    | .int y :: .int x :: r => some (some (nzi y), lv, .int (x - x / y * y) :: r, u)
    | _ => none)
  | .iand => (match st with
    | .int y :: .int x :: r => some (none, lv, .int (x &&& y) :: r, u)
    | _ => none)
  | .ior => (match st with
    | .int y :: .int x :: r => some (none, lv, .int (x ||| y) :: r, u)
    | _ => none)
  | .ixor => (match st with
    | .int y :: .int x :: r => some (none, lv, .int (x ^^^ y) :: r, u)
    | _ => none)
  | .ishl => (match st with
    | .int y :: .int x :: r => some (none, lv, .int (x <<< (y &&& 31)) :: r, u)
    | _ => none)
  | .ishr => (match st with
    | .int y :: .int x :: r => some (none, lv, .int (x >>> (y &&& 31)) :: r, u)
    | _ => none)
  | .iushr => (match st with
    | .int y :: .int x :: r => some (none, lv, .int ((x.toUInt32 >>> (y.toUInt32 &&& Int32.toUInt32 31)).toInt32) :: r, u)
    | _ => none)
  | .ladd => (match st with
    | .long y :: .long x :: r => some (none, lv, .long (x + y) :: r, u)
    | _ => none)
  | .lmul => (match st with
    | .long y :: .long x :: r => some (none, lv, .long (x * y) :: r, u)
    | _ => none)
  | .ldiv => (match st with
    | .long y :: .long x :: r => some (some (nzl y), lv, .long (x / y) :: r, u)
    | _ => none)
  | .lrem => (match st with
    | .long y :: .long x :: r => some (some (nzl y), lv, .long (x - x / y * y) :: r, u)
    | _ => none)
  | .land => (match st with
    | .long y :: .long x :: r => some (none, lv, .long (x &&& y) :: r, u)
    | _ => none)
  | .lor => (match st with
    | .long y :: .long x :: r => some (none, lv, .long (x ||| y) :: r, u)
    | _ => none)
  | .lshl => (match st with
    | .int y :: .long x :: r => some (none, lv, .long (x <<< (y.toInt64 &&& 63)) :: r, u)
    | _ => none)
  | .lushr => (match st with
    | .int y :: .long x :: r => some (none, lv, .long ((x.toUInt64 >>> (y.toInt64.toUInt64 &&& Int64.toUInt64 63)).toInt64) :: r, u)
    | _ => none)
  | .lcmp => (match st with
    | .long y :: .long x :: r => some (none, lv, .int (lg_cmp x y) :: r, u)
    | _ => none)
  | .i2l => (match st with
    | .int x :: r => some (none, lv, .long x.toInt64 :: r, u)
    | _ => none)
  | .l2i => (match st with
    | .long x :: r => some (none, lv, .int x.toInt32 :: r, u)
    | _ => none)
  | .i2b => (match st with
    | .int x :: r => some (none, lv, .int x.toInt8.toInt32 :: r, u)
    | _ => none)
  | .dup => (match st with
    | .int x :: r => some (none, lv, .int x :: .int x :: r, u)
    | .ref x :: r => some (none, lv, .ref x :: .ref x :: r, u)
    | _ => none)
  | .dup2 => (match st with
    | .int y :: .ref x :: r => some (none, lv, .int y :: .ref x :: .int y :: .ref x :: r, u)
    | _ => none)
  | .getfield _ => (match st with
    | .ref a :: r => if xSh a = (0, i.2.1.1) ∧ a < 54 then (match (xKs i.2.1.1).getD i.2.1.2.1 0 with
      | 0 => some (none, lv, .int (u.1 a i.2.1.2.1) :: r, u)
      | 1 => some (none, lv, .long (u.2.1 a i.2.1.2.1) :: r, u)
      | _ => some (none, lv, va_rf (u.2.2 a i.2.1.2.1) :: r, u)) else none
    | _ => none)
  | .putfield _ => (match st with
    | .int x :: .ref a :: r => if xSh a = (0, i.2.1.1) ∧ a < 54 then (if xTy i.2.1.1 i.2.1.2.1 = .int then some (none, lv, r, xI u a i.2.1.2.1 x) else if xTy i.2.1.1 i.2.1.2.1 = .boolean then some (some (isb x), lv, r, xI u a i.2.1.2.1 x) else none) else none
    | .long x :: .ref a :: r => if xSh a = (0, i.2.1.1) ∧ a < 54 then (if xTy i.2.1.1 i.2.1.2.1 = .long then some (none, lv, r, xJ u a i.2.1.2.1 x) else none) else none
    | .ref x :: .ref a :: r => if xSh a = (0, i.2.1.1) ∧ a < 54 then (if xTy i.2.1.1 i.2.1.2.1 = .object "NeitherBare$Court" then some (none, lv, r, xR u a i.2.1.2.1 (some x)) else none) else none
    | _ => none)
  | .iaload => (match st with
    | .int j :: .ref a :: r => (match xSh a with
      | (1, n) => if a < 54 then some (some (inb j n), lv, .int (u.1 a j.toNatClampNeg) :: r, u) else none
      | (4, n) => if a = 54 ∨ a = 55 then some (some (inb j 6), lv, .int (xS a j.toNatClampNeg) :: r, u) else none
      | _ => none)
    | _ => none)
  | .laload => (match st with
    | .int j :: .ref a :: r => if a = 56 then some (some (inb j 6), lv, .long (xSl j.toNatClampNeg) :: r, u) else none
    | _ => none)
  | .baload => (match st with
    | .int j :: .ref a :: r => (match xSh a with
      | (2, n) => if a < 54 then some (some (inb j n), lv, .int (u.1 a j.toNatClampNeg) :: r, u) else none
      | _ => none)
    | _ => none)
  | .iastore => (match st with
    | .int x :: .int j :: .ref a :: r => (match xSh a with
      | (1, n) => if a < 54 then some (some (inb j n), lv, r, xI u a j.toNatClampNeg x) else none
      | _ => none)
    | _ => none)
  | .bastore => (match st with
    | .int x :: .int j :: .ref a :: r => (match xSh a with
      | (2, n) => if a < 54 then some (some (inb j n), lv, r, xI u a j.toNatClampNeg (vp_nar .boolean x)) else none
      | _ => none)
    | _ => none)
  | .arraylength => (match st with
    | .ref a :: r => (match xSh a with
      | (1, n) => if a < 54 then some (none, lv, .int (Int32.ofNat n) :: r, u) else none
      | _ => none)
    | _ => none)
  | .getstatic _ => some (none, lv, .ref i.2.1.1 :: st, u)
  | _ => none
def xRun (nL : Nat) : List xIn → Nat → List (Nat × Value) → List Value → xM → Option (List Bool × Nat × List (Nat × Value) × List Value × xM)
  | [], pc, lv, st, u => some ([], pc, lv, st, u)
  | i :: is, pc, lv, st, u => (match xStep nL i lv st u with
    | some (none, lv1, st1, u1) => xRun nL is (pc + xLen i.1) lv1 st1 u1
    | some (some b, lv1, st1, u1) => (match xRun nL is (pc + xLen i.1) lv1 st1 u1 with
      | some (bs, z) => some (b :: bs, z)
      | none => none)
    | none => none)
def xOk (own : String) (cc : ByteArray) : Nat → List xIn → Bool
  | _, [] => true
  | pc, i :: is => decide (decode cc pc = .ok (i.1, xLen i.1)) && (xAnn own i && xOk own cc (pc + xLen i.1) is)
