/-! ===== promise 38: borders; promise 35: contradict ===== -/
def rO (n : xN) (r t u i : Nat) : Bool := decide (tRl n r i = nI t) && (decide (fRl n r i = 1) != decide (nI u ≤ vRl n r i))
theorem maskN_0 (p : Nat → Bool) (m : Nat) : maskN p m = 0 ↔ andA (fun i => !p i) m = true := by
  rw [andA_iff]
  constructor
  · intro h i hi
    have := maskN_tb p m i
    rw [h, Nat.zero_testBit] at this
    have q : decide (i < m) = true := decide_eq_true hi
    rw [q, Bool.true_and] at this
    rw [← this]; rfl
  · intro h
    apply Nat.eq_of_testBit_eq
    intro i
    rw [maskN_tb, Nat.zero_testBit]
    by_cases hi : i < m
    · have := h i hi
      cases q : p i
      · simp
      · rw [q] at this; cases this
    · simp [hi]
set_option maxHeartbeats 2000000 in
theorem e_ruledO (N : Nat) (hN : 100 ≤ N) {n : xN} (h11 : n.1 1 1 = 40) {r s t u : Nat} (hr : r < 6) (hs : s ≤ 40) (e3 : n.1 3 r = nI s) (ec : ∀ i, i < s → n.1 2 (40 * r + i) = n.1 46 (40 * r + i)) : f_X3_ruledOtherwise N (nI r) (nI t) (nI u) n = some (nI (maskN (rO n r t u) (s / 3))) := by
  unfold f_X3_ruledOtherwise
  have key := eq_forG (rc := f_X3_ruledOtherwise_L6 N n) (body := f_X3_ruledOtherwise_L6b N n) (fun f i (l : Int32) => f (nI r) (nI t) (nI u) l i) (fun _ => rfl) 0 (s / 3) (fun i => nI (maskN (rO n r t u) i)) (some (nI (maskN (rO n r t u) (s / 3)))) ?_ ?_ N 0 (Nat.le_refl _) (Nat.zero_le _) (by omega)
  · exact key
  · intro f i _ hi
    show f_X3_ruledOtherwise_L6b N n f (nI r) (nI t) (nI u) (nI (maskN (rO n r t u) i)) (nI i) = f (nI r) (nI t) (nI u) (nI (maskN (rO n r t u) (i + 1))) (nI (i + 1))
    have c0 : f_X1_cellOf_1 (nI r) (nI (3 * i)) n = some (tRl n r i) := e_cR (w := 0) h11 hr hs ec hi (by omega)
    have c1 : f_X1_cellOf_1 (nI r) (nI (3 * i + 1)) n = some (vRl n r i) := e_cR (w := 1) h11 hr hs ec hi (by omega)
    have c2 : f_X1_cellOf_1 (nI r) (nI (3 * i + 2)) n = some (fRl n r i) := e_cR (w := 2) h11 hr hs ec hi (by omega)
    unfold f_X3_ruledOtherwise_L6b f_X3_ruledOtherwise_L44 f_X3_ruledOtherwise_L69 f_X3_ruledOtherwise_L103
    rw [e_size1 n hr, Option.bind_some, gdlT nz3, gdl0, e3, e_d3 hs, if_neg (by rw [nI_leI (by omega) (by omega)]; omega), e_3i, nI_1, nI_1, e_n2, c0, c1, c2, mask_step _ (by omega), maskN]
    have z2 : nI u ≤ vRl n r i ↔ ¬ vRl n r i < nI u := (nlt_le _ _).symm
    have er : rO n r t u i = (decide (tRl n r i = nI t) && (decide (fRl n r i = 1) != decide (nI u ≤ vRl n r i))) := rfl
    rw [er]
    simp only [Option.bind_some, z2]
    by_cases a : tRl n r i = nI t <;> by_cases b : fRl n r i = 1 <;> by_cases d : vRl n r i < nI u <;> simp [a, b, d]
  · intro f
    show f_X3_ruledOtherwise_L6b N n f (nI r) (nI t) (nI u) (nI (maskN (rO n r t u) (s / 3))) (nI (s / 3)) = _
    unfold f_X3_ruledOtherwise_L6b
    rw [e_size1 n hr, Option.bind_some, gdlT nz3, gdl0, e3, e_d3 hs, if_pos (by rw [nI_leI (by omega) (by omega)]; omega)]
def qB (n : xN) (r t m u : Nat) : Bool := decide (1 ≤ u) && andA (fun i => !rO n r t u i) m
theorem mB1 (n : xN) (r t m : Nat) : maskN (qB n r t m) 1 = 0 := by
  have : qB n r t m 0 = false := by unfold qB; rfl
  rw [maskN, this]; rfl
theorem p13 {m : Nat} (h : m ≤ 13) : 2 ^ m ≤ 8192 := p2 (m := 13) h
set_option maxHeartbeats 2000000 in
theorem e_bordX (N : Nat) (hN : 100 ≤ N) {n : xN} (h11 : n.1 1 1 = 40) {r s t : Nat} (hr : r < 6) (hs : s ≤ 40) (e3 : n.1 3 r = nI s) (ec : ∀ i, i < s → n.1 2 (40 * r + i) = n.1 46 (40 * r + i)) : f_X3_borders_L27 N N (nI r) (nI t) 0 1 n = some (nI (maskN (qB n r t (s / 3)) 6), n) := by
  have key := eq_forG (rc := f_X3_borders_L27 N) (body := f_X3_borders_L27b N) (fun f i (l : Int32) => f (nI r) (nI t) l i n) (fun _ => rfl) 1 6 (fun i => nI (maskN (qB n r t (s / 3)) i)) (some (nI (maskN (qB n r t (s / 3)) 6), n)) ?_ ?_ N 1 (Nat.le_refl _) (by omega) (by omega)
  · have k2 : f_X3_borders_L27 N N (nI r) (nI t) (nI (maskN (qB n r t (s / 3)) 1)) (nI 1) n = _ := key
    rw [mB1] at k2; exact k2
  · intro f u hu hi
    show f_X3_borders_L27b N f (nI r) (nI t) (nI (maskN (qB n r t (s / 3)) u)) (nI u) n = f (nI r) (nI t) (nI (maskN (qB n r t (s / 3)) (u + 1))) (nI (u + 1)) n
    unfold f_X3_borders_L27b f_X3_borders_L53
    have hl := maskN_lt (rO n r t u) (s / 3)
    have h13 : 2 ^ (s / 3) ≤ 8192 := p13 (by omega)
    rw [if_neg (by rw [show (5 : Int32) = nI 5 from rfl, nI_ltI (by omega) (by omega)]; omega), e_ruledO N hN h11 hr hs e3 ec, Option.bind_some, mask_step _ (by omega), nI_1]
    conv => rhs; rw [maskN]
    have eq : qB n r t (s / 3) u = andA (fun i => !rO n r t u i) (s / 3) := by unfold qB; rw [decide_eq_true hu, Bool.true_and]
    rw [eq]
    by_cases z : maskN (rO n r t u) (s / 3) = 0
    · rw [if_pos (by rw [z]; rfl), if_pos ((maskN_0 _ _).mp z)]
    · rw [if_neg (nI_ne0 (by omega) (by omega)), if_neg (fun y => z ((maskN_0 _ _).mpr y))]; rfl
  · intro f
    show f_X3_borders_L27b N f (nI r) (nI t) (nI (maskN (qB n r t (s / 3)) 6)) (nI 6) n = _
    unfold f_X3_borders_L27b
    rw [if_pos (by decide)]
set_option maxHeartbeats 2000000 in
theorem e_bordMi (N : Nat) (hN : 100 ≤ N) {n : xN} {r s t : Nat} (hr : r < 6) (hs : s ≤ 40) (e3 : n.1 45 r = nI s) (rec : Int32 → Int32 → Int32 → Int32 → xN → Option (Int32 × xN)) (v4 : Int32) (u : Nat) : f_X4_borders_L47 N rec N (nI r) (nI t) v4 (nI u) 1 0 n = if andA (fun i => !rO n r t u i) (s / 3) = true then rec (nI r) (nI t) (v4 ||| ((1 : Int32) <<< (nI u &&& 31))) (nI (u + 1)) n else rec (nI r) (nI t) v4 (nI (u + 1)) n := by
  have key := eq_forG (rc := f_X4_borders_L47 N rec) (body := f_X4_borders_L47b N rec) (fun f i (l : Int32) => f (nI r) (nI t) v4 (nI u) l i n) (fun _ => rfl) 0 (s / 3) (fun i => bI (andA (fun i => !rO n r t u i) i = true)) (if andA (fun i => !rO n r t u i) (s / 3) = true then rec (nI r) (nI t) (v4 ||| ((1 : Int32) <<< (nI u &&& 31))) (nI (u + 1)) n else rec (nI r) (nI t) v4 (nI (u + 1)) n) ?_ ?_ N 0 (Nat.le_refl _) (Nat.zero_le _) (by omega)
  · exact key
  · intro f i _ hi
    show f_X4_borders_L47b N rec f (nI r) (nI t) v4 (nI u) (bI (andA (fun i => !rO n r t u i) i = true)) (nI i) n = f (nI r) (nI t) v4 (nI u) (bI ((andA (fun i => !rO n r t u i) i && !rO n r t u i) = true)) (nI (i + 1)) n
    have c0 : f_X4_rule (nI r) (nI i) 0 n = some (tRl n r i) := e_rule n hr (by omega) (show 0 < 3 by omega)
    have c1 : f_X4_rule (nI r) (nI i) 1 n = some (vRl n r i) := e_rule n hr (by omega) (show 1 < 3 by omega)
    have c2 : f_X4_rule (nI r) (nI i) 2 n = some (fRl n r i) := e_rule n hr (by omega) (show 2 < 3 by omega)
    unfold f_X4_borders_L47b f_X4_borders_L95 f_X4_borders_L112 f_X4_borders_L115 f_X4_borders_L119 f_X4_borders_L120
    rw [gdl_nI (by omega) hr, gdlT nz3, gdl0, nI_clamp (by omega), e3, e_d3 hs, if_neg (by rw [nI_leI (by omega) (by omega)]; omega), c0, c1, c2, nI_1]
    have z2 : nI u ≤ vRl n r i ↔ ¬ vRl n r i < nI u := (nlt_le _ _).symm
    generalize andA (fun i => !rO n r t u i) i = A
    have er : rO n r t u i = (decide (tRl n r i = nI t) && (decide (fRl n r i = 1) != decide (nI u ≤ vRl n r i))) := rfl
    rw [er]
    simp only [Option.bind_some, z2]
    by_cases a : tRl n r i = nI t <;> by_cases b : fRl n r i = 1 <;> by_cases d : vRl n r i < nI u <;> cases A <;> simp [bI, a, b, d]
  · intro f
    show f_X4_borders_L47b N rec f (nI r) (nI t) v4 (nI u) (bI (andA (fun i => !rO n r t u i) (s / 3) = true)) (nI (s / 3)) n = _
    unfold f_X4_borders_L47b f_X4_borders_L143
    rw [gdl_nI (by omega) hr, gdlT nz3, gdl0, nI_clamp (by omega), e3, e_d3 hs, if_pos (by rw [nI_leI (by omega) (by omega)]; omega), nI_1, or_0]
    cases andA (fun i => !rO n r t u i) (s / 3) <;> rfl
theorem e_bordM (N : Nat) (hN : 100 ≤ N) {n : xN} {r s t : Nat} (hr : r < 6) (hs : s ≤ 40) (e3 : n.1 45 r = nI s) : f_X4_borders_L34 N N (nI r) (nI t) 0 1 n = some (nI (maskN (qB n r t (s / 3)) 6), n) := by
  have key := eq_forG (rc := f_X4_borders_L34 N) (body := f_X4_borders_L34b N) (fun f i (l : Int32) => f (nI r) (nI t) l i n) (fun _ => rfl) 1 6 (fun i => nI (maskN (qB n r t (s / 3)) i)) (some (nI (maskN (qB n r t (s / 3)) 6), n)) ?_ ?_ N 1 (Nat.le_refl _) (by omega) (by omega)
  · have k2 : f_X4_borders_L34 N N (nI r) (nI t) (nI (maskN (qB n r t (s / 3)) 1)) (nI 1) n = _ := key
    rw [mB1] at k2; exact k2
  · intro f u hu hi
    show f_X4_borders_L34b N f (nI r) (nI t) (nI (maskN (qB n r t (s / 3)) u)) (nI u) n = f (nI r) (nI t) (nI (maskN (qB n r t (s / 3)) (u + 1))) (nI (u + 1)) n
    unfold f_X4_borders_L34b
    rw [if_neg (by rw [show (6 : Int32) = nI 6 from rfl, nI_leI (by omega) (by omega)]; omega), e_bordMi N hN hr hs e3, mask_step _ (by omega)]
    conv => rhs; rw [maskN]
    have eq : qB n r t (s / 3) u = andA (fun i => !rO n r t u i) (s / 3) := by unfold qB; rw [decide_eq_true hu, Bool.true_and]
    rw [eq]
    split <;> rfl
  · intro f
    show f_X4_borders_L34b N f (nI r) (nI t) (nI (maskN (qB n r t (s / 3)) 6)) (nI 6) n = _
    unfold f_X4_borders_L34b
    rw [if_pos (by decide)]
theorem op_borders (N : Nat) (hN : 100 ≤ N) (a b : Int32) : Op (f_X3_borders N a b) (f_X4_borders N a b) := by
  intro n h
  by_cases hb : 0 ≤ b.toInt ∧ b.toInt < 4
  · obtain ⟨t, ht, rfl⟩ := i32_of (k := 4) hb.1 (by omega)
    obtain ⟨x, n1, n2, e1, e2, e3⟩ := rul N hN a h (fun u => f_X3_borders_L27 N N a (nI t) 0 1 u) (fun u => f_X4_borders_L34 N N a (nI t) 0 1 u) (fun r s ea hr hs h3 e45 e3 ec hj => by
      subst ea
      exact ⟨_, n, n, e_bordX N hN h.1.2.1 hr hs e3 ec, e_bordM N hN hr hs e45, h, fun _ _ => rfl⟩)
    refine ⟨x, n1, n2, ?_, ?_, e3⟩
    · unfold f_X3_borders
      rw [e_isTraitX, Option.bind_some, bI_t hb, if_neg (by decide)]
      exact e1
    · unfold f_X4_borders f_X4_borders_L14
      rw [e_inT, Option.bind_some, bI_t hb, if_neg (by decide)]
      exact e2
  · refine ⟨-1, n, n, ?_, ?_, h⟩
    · unfold f_X3_borders
      rw [e_isTraitX, Option.bind_some, bI_f hb, if_pos rfl]
    · unfold f_X4_borders f_X4_borders_L14
      rw [e_isRow, Option.bind_some, e_inT, Option.bind_some, bI_f hb, if_pos rfl]
      by_cases z : 0 ≤ a.toInt ∧ a.toInt ≤ 5
      · rw [bI_t z, if_neg (by decide)]
      · rw [bI_f z, if_pos rfl]
/-! contradict -/
def agF (n : xN) (r i j : Nat) : Bool := decide (tRl n r i = tRl n r j) && (decide (fRl n r i = 1) && (decide (fRl n r j = 0) && decide (vRl n r i ≤ vRl n r j)))
def pC (n : xN) (r : Nat) (x : Nat × Nat) : Bool := agF n r x.1 x.2 || agF n r x.2 x.1
def g100 (x : Nat × Nat) : Int32 := (100 : Int32) * nI x.1 + nI x.2
theorem e_against {n : xN} {r i j : Nat} (hr : r < 6) (hi : i < 13) (hj : j < 13) : f_X4_against (nI r) (nI i) (nI j) n = some (bI (agF n r i j = true)) := by
  have c0 : f_X4_rule (nI r) (nI i) 0 n = some (tRl n r i) := e_rule n hr (by omega) (show 0 < 3 by omega)
  have c1 : f_X4_rule (nI r) (nI i) 1 n = some (vRl n r i) := e_rule n hr (by omega) (show 1 < 3 by omega)
  have c2 : f_X4_rule (nI r) (nI i) 2 n = some (fRl n r i) := e_rule n hr (by omega) (show 2 < 3 by omega)
  have d0 : f_X4_rule (nI r) (nI j) 0 n = some (tRl n r j) := e_rule n hr (by omega) (show 0 < 3 by omega)
  have d1 : f_X4_rule (nI r) (nI j) 1 n = some (vRl n r j) := e_rule n hr (by omega) (show 1 < 3 by omega)
  have d2 : f_X4_rule (nI r) (nI j) 2 n = some (fRl n r j) := e_rule n hr (by omega) (show 2 < 3 by omega)
  unfold f_X4_against f_X4_against_L59 f_X4_against_L60 agF
  rw [c0, c1, c2, d0, d1, d2]
  have z2 : vRl n r i ≤ vRl n r j ↔ ¬ vRl n r j < vRl n r i := (nlt_le _ _).symm
  simp only [Option.bind_some, z2, gdlT isb0, gdlT isb1, gdl0]
  by_cases a : tRl n r i = tRl n r j <;> by_cases b : fRl n r i = 1 <;> by_cases c : fRl n r j = 0 <;> by_cases d : vRl n r j < vRl n r i <;> simp [bI, a, b, c, d]
set_option maxHeartbeats 1000000 in
theorem e_isContr {n : xN} (h11 : n.1 1 1 = 40) {r s i j : Nat} (hr : r < 6) (hs : s ≤ 40) (ec : ∀ i, i < s → n.1 2 (40 * r + i) = n.1 46 (40 * r + i)) (hok : andA (okR n r) (s / 3) = true) (hi : i < s / 3) (hj : j < s / 3) : f_X3_isContradiction (nI r) (nI i) (nI j) n = some (bI (pC n r (i, j) = true)) := by
  have c0 : f_X1_cellOf_1 (nI r) (nI (3 * i)) n = some (tRl n r i) := e_cR (w := 0) h11 hr hs ec hi (by omega)
  have c1 : f_X1_cellOf_1 (nI r) (nI (3 * i + 1)) n = some (vRl n r i) := e_cR (w := 1) h11 hr hs ec hi (by omega)
  have c2 : f_X1_cellOf_1 (nI r) (nI (3 * i + 2)) n = some (fRl n r i) := e_cR (w := 2) h11 hr hs ec hi (by omega)
  have d0 : f_X1_cellOf_1 (nI r) (nI (3 * j)) n = some (tRl n r j) := e_cR (w := 0) h11 hr hs ec hj (by omega)
  have d1 : f_X1_cellOf_1 (nI r) (nI (3 * j + 1)) n = some (vRl n r j) := e_cR (w := 1) h11 hr hs ec hj (by omega)
  have d2 : f_X1_cellOf_1 (nI r) (nI (3 * j + 2)) n = some (fRl n r j) := e_cR (w := 2) h11 hr hs ec hj (by omega)
  have fi := (okR_f hok hi).2.2
  have fj := (okR_f hok hj).2.2
  unfold f_X3_isContradiction f_X3_isContradiction_L79 f_X3_isContradiction_L103 f_X3_isContradiction_L146 pC agF
  simp only [e_3i, nI_1, e_n2, c0, c1, c2, d0, d1, d2, Option.bind_some, gdlT isb0, gdlT isb1, gdl0]
  have z2 : vRl n r i ≤ vRl n r j ↔ ¬ vRl n r j < vRl n r i := (nlt_le _ _).symm
  have z3 : vRl n r j ≤ vRl n r i ↔ ¬ vRl n r i < vRl n r j := (nlt_le _ _).symm
  have m0 : ¬ (0 : Int32) = 1 := by decide
  have m1 : ¬ (1 : Int32) = 0 := by decide
  simp only [z2, z3]
  by_cases a : tRl n r i = tRl n r j
  · rcases fi with b | b <;> rcases fj with c | c <;> by_cases d : vRl n r j < vRl n r i <;> by_cases e : vRl n r i < vRl n r j <;> simp [bI, a, b, c, d, e]
  · have a' : ¬ tRl n r j = tRl n r i := fun z => a z.symm
    simp [bI, a, a']
