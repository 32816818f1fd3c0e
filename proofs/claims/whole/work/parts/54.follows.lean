/-! ===== promises 35, 37, 38: contradict, follows, borders ===== -/
def anyA (q : Nat → Bool) : Nat → Bool
  | 0 => false
  | i + 1 => anyA q i || q i
theorem anyA_n (q : Nat → Bool) : ∀ m, anyA q m = !andA (fun i => !q i) m := by
  intro m
  induction m with
  | zero => rfl
  | succ m ih => rw [anyA, andA, ih]; cases andA (fun i => !q i) m <;> cases q m <;> rfl
theorem bI_or (a b : Bool) : bI (a = true) ||| bI (b = true) = bI ((a || b) = true) := by cases a <;> cases b <;> decide
theorem okR_f {n : xN} {r i m : Nat} (h : andA (okR n r) m = true) (hi : i < m) : okRp n r i := of_decide_eq_true ((andA_iff _ _).mp h i hi)
theorem e_inT (a : Int32) : f_X4_isTrait a = some (bI (0 ≤ a.toInt ∧ a.toInt < 4)) := by
  rw [e_isTrait]; exact congrArg some (bI_c (by omega))
def muF (n : xN) (r t v i : Nat) : Bool := decide (tRl n r i = nI t) && (decide (fRl n r i = 1) && decide (vRl n r i ≤ nI v))
def leF (n : xN) (r t v i : Nat) : Bool := decide (tRl n r i = nI t) && (decide (fRl n r i = 0) && decide (nI v ≤ vRl n r i))
def folV (n : xN) (r t v m : Nat) : Int32 := if anyA (muF n r t v) m = true then 1 else if anyA (leF n r t v) m = true then 0 else -9
set_option maxHeartbeats 2000000 in
theorem e_folX (N : Nat) (hN : 100 ≤ N) {n : xN} (h11 : n.1 1 1 = 40) {r s t v : Nat} (hr : r < 6) (hs : s ≤ 40) (e3 : n.1 3 r = nI s) (ec : ∀ i, i < s → n.1 2 (40 * r + i) = n.1 46 (40 * r + i)) (hj : andA (okR n r) (s / 3) = true) : f_X3_follows_L37 N N (nI r) (nI t) (nI v) 0 0 n = some (folV n r t v (s / 3), n) := by
  have key := eq_forR (rc := f_X3_follows_L37 N) (body := f_X3_follows_L37b N) (fun f i (l : Int32) => f (nI r) (nI t) (nI v) l i n) (fun _ => rfl) (s / 3) (fun i => bI (anyA (leF n r t v) i = true)) (fun i => if allR (fun i => !muF n r t v i) (s / 3) (s / 3 - i) = true then some (if anyA (leF n r t v) (s / 3) = true then 0 else -9, n) else some (1, n)) ?_ ?_ N 0 (Nat.zero_le _) (by omega)
  · have e : f_X3_follows_L37 N N (nI r) (nI t) (nI v) 0 0 n = _ := key
    rw [e, Nat.sub_zero, allR_A]
    unfold folV
    rw [anyA_n (muF n r t v)]
    cases andA (fun i => !muF n r t v i) (s / 3) <;> rfl
  · intro f i hi hk
    have hk2 : f (nI r) (nI t) (nI v) (bI (anyA (leF n r t v) (i + 1) = true)) (nI (i + 1)) n = _ := hk
    show f_X3_follows_L37b N f (nI r) (nI t) (nI v) (bI (anyA (leF n r t v) i = true)) (nI i) n = _
    have hok := okR_f hj hi
    have c0 : f_X1_cellOf_1 (nI r) (nI (3 * i)) n = some (tRl n r i) := e_cR (w := 0) h11 hr hs ec hi (by omega)
    have c1 : f_X1_cellOf_1 (nI r) (nI (3 * i + 1)) n = some (vRl n r i) := e_cR (w := 1) h11 hr hs ec hi (by omega)
    have c2 : f_X1_cellOf_1 (nI r) (nI (3 * i + 2)) n = some (fRl n r i) := e_cR (w := 2) h11 hr hs ec hi (by omega)
    unfold f_X3_follows_L37b f_X3_follows_L107 f_X3_follows_L122 f_X3_follows_L139 f_X3_follows_L140 f_X3_follows_L143
    rw [e_size1 n hr, Option.bind_some, gdlT nz3, gdl0, e3, e_d3 hs, if_neg (by rw [nI_leI (by omega) (by omega)]; omega), e_3i, nI_1, nI_1, e_n2, c0, Option.bind_some, c1, Option.bind_some, c2, Option.bind_some, or_0, allR_s _ hi]
    have ho : ∀ b : Bool, leF n r t v i = b → anyA (leF n r t v) (i + 1) = (anyA (leF n r t v) i || b) := fun b hb => by rw [anyA, hb]
    have h1o : bI (anyA (leF n r t v) i = true) ||| 1 = bI ((anyA (leF n r t v) i || true) = true) := bI_or _ true
    by_cases a : tRl n r i = nI t
    · rw [if_pos a]
      rcases hok.2.2 with f0 | f1
      · have hm : muF n r t v i = false := by unfold muF; rw [f0]; simp
        rw [f0, if_neg (show ¬ (0 : Int32) = 1 by decide), if_pos rfl, if_pos rfl, hm]
        by_cases b : vRl n r i < nI v
        · have hl : leF n r t v i = false := by unfold leF; rw [decide_eq_false (fun z => (nlt_le _ _).mpr z b)]; simp
          rw [if_pos b, ← Bool.or_false (anyA (leF n r t v) i), ← ho _ hl, hk2]; rfl
        · have hl : leF n r t v i = true := by unfold leF; rw [decide_eq_true ((nlt_le _ _).mp b), f0, a]; simp
          rw [if_neg b, h1o, ← ho _ hl, hk2]; rfl
      · have hl : leF n r t v i = false := by unfold leF; rw [f1]; simp
        rw [f1, if_pos rfl, if_neg (show ¬ (1 : Int32) = 0 by decide), if_neg (show ¬ (1 : Int32) = 0 by decide)]
        by_cases b : nI v < vRl n r i
        · have hm : muF n r t v i = false := by unfold muF; rw [decide_eq_false (fun z => (nlt_le _ _).mpr z b)]; simp
          rw [if_pos b, ← Bool.or_false (anyA (leF n r t v) i), ← ho _ hl, hk2, hm]; rfl
        · have hm : muF n r t v i = true := by unfold muF; rw [decide_eq_true ((nlt_le _ _).mp b), f1, a]; simp
          rw [if_neg b, hm]; rfl
    · have hm : muF n r t v i = false := by unfold muF; rw [decide_eq_false a]; rfl
      have hl : leF n r t v i = false := by unfold leF; rw [decide_eq_false a]; rfl
      rw [if_neg a, ← Bool.or_false (anyA (leF n r t v) i), ← ho _ hl, hk2, hm]; rfl
  · intro f
    show f_X3_follows_L37b N f (nI r) (nI t) (nI v) (bI (anyA (leF n r t v) (s / 3) = true)) (nI (s / 3)) n = _
    unfold f_X3_follows_L37b f_X3_follows_L160
    rw [e_size1 n hr, Option.bind_some, gdlT nz3, gdl0, e3, e_d3 hs, if_pos (by rw [nI_leI (by omega) (by omega)]; omega), Nat.sub_self]
    cases anyA (leF n r t v) (s / 3) <;> rfl
set_option maxHeartbeats 2000000 in
theorem e_folM (N : Nat) (hN : 100 ≤ N) {n : xN} {r s t v : Nat} (hr : r < 6) (hs : s ≤ 40) (e3 : n.1 45 r = nI s) : f_X4_follows_L52 N N (nI r) (nI t) (nI v) 0 0 0 n = some (folV n r t v (s / 3), n) := by
  have key := eq_forG (rc := f_X4_follows_L52 N) (body := f_X4_follows_L52b N) (fun f i (l : Int32 × Int32) => f (nI r) (nI t) (nI v) l.1 l.2 i n) (fun _ => rfl) 0 (s / 3) (fun i => (bI (anyA (muF n r t v) i = true), bI (anyA (leF n r t v) i = true))) (some (folV n r t v (s / 3), n)) ?_ ?_ N 0 (Nat.le_refl _) (Nat.zero_le _) (by omega)
  · exact key
  · intro f i _ hi
    show f_X4_follows_L52b N f (nI r) (nI t) (nI v) (bI (anyA (muF n r t v) i = true)) (bI (anyA (leF n r t v) i = true)) (nI i) n = f (nI r) (nI t) (nI v) (bI ((anyA (muF n r t v) i || muF n r t v i) = true)) (bI ((anyA (leF n r t v) i || leF n r t v i) = true)) (nI (i + 1)) n
    have c0 : f_X4_rule (nI r) (nI i) 0 n = some (tRl n r i) := e_rule n hr (by omega) (show 0 < 3 by omega)
    have c1 : f_X4_rule (nI r) (nI i) 1 n = some (vRl n r i) := e_rule n hr (by omega) (show 1 < 3 by omega)
    have c2 : f_X4_rule (nI r) (nI i) 2 n = some (fRl n r i) := e_rule n hr (by omega) (show 2 < 3 by omega)
    unfold f_X4_follows_L52b f_X4_follows_L82 f_X4_follows_L118 f_X4_follows_L122 f_X4_follows_L123 f_X4_follows_L158 f_X4_follows_L162 f_X4_follows_L163
    rw [gdl_nI (by omega) hr, gdlT nz3, gdl0, nI_clamp (by omega), e3, e_d3 hs, if_neg (by rw [nI_leI (by omega) (by omega)]; omega), c0, c1, c2, nI_1]
    unfold muF leF
    have z1 : vRl n r i ≤ nI v ↔ ¬ nI v < vRl n r i := (nlt_le _ _).symm
    have z2 : nI v ≤ vRl n r i ↔ ¬ vRl n r i < nI v := (nlt_le _ _).symm
    simp only [Option.bind_some, z1, z2]
    generalize anyA (fun i => decide (tRl n r i = nI t) && (decide (fRl n r i = 1) && decide (vRl n r i ≤ nI v))) i = A
    generalize anyA (fun i => decide (tRl n r i = nI t) && (decide (fRl n r i = 0) && decide (nI v ≤ vRl n r i))) i = B
    by_cases a : tRl n r i = nI t <;> by_cases b : fRl n r i = 1 <;> by_cases c : fRl n r i = 0 <;> by_cases d : nI v < vRl n r i <;> by_cases e : vRl n r i < nI v <;> cases A <;> cases B <;> simp [bI, a, b, c, d, e]
  · intro f
    show f_X4_follows_L52b N f (nI r) (nI t) (nI v) (bI (anyA (muF n r t v) (s / 3) = true)) (bI (anyA (leF n r t v) (s / 3) = true)) (nI (s / 3)) n = _
    unfold f_X4_follows_L52b f_X4_follows_L191 folV
    rw [gdl_nI (by omega) hr, gdlT nz3, gdl0, nI_clamp (by omega), e3, e_d3 hs, if_pos (by rw [nI_leI (by omega) (by omega)]; omega)]
    cases anyA (muF n r t v) (s / 3) <;> cases anyA (leF n r t v) (s / 3) <;> rfl
set_option maxHeartbeats 1000000 in
theorem op_follows (N : Nat) (hN : 100 ≤ N) (a b c : Int32) : Op (f_X3_follows N a b c) (f_X4_follows N a b c) := by
  intro n h
  have hm1 : ∀ m : xN, (¬ (0 ≤ b.toInt ∧ b.toInt < 4) ∨ ¬ (0 ≤ c.toInt ∧ c.toInt ≤ 5)) → f_X4_follows N a b c m = some (-1, m) := by
    intro m hh
    unfold f_X4_follows f_X4_follows_L26
    rw [e_isRow, Option.bind_some, e_inT, Option.bind_some, e_in05, Option.bind_some]
    by_cases z : 0 ≤ a.toInt ∧ a.toInt ≤ 5
    · rw [bI_t z, if_neg (by decide)]
      by_cases y : 0 ≤ b.toInt ∧ b.toInt < 4
      · rw [bI_t y, if_neg (by decide), bI_f (hh.resolve_left (fun q => q y)), if_pos rfl]
      · rw [bI_f y, if_pos rfl]
    · rw [bI_f z, if_pos rfl]
  by_cases hb : 0 ≤ b.toInt ∧ b.toInt < 4
  · by_cases hv : 0 ≤ c.toInt ∧ c.toInt ≤ 5
    · obtain ⟨t, ht, rfl⟩ := i32_of (k := 4) hb.1 (by omega)
      obtain ⟨v, hvv, rfl⟩ := i32_of (k := 6) hv.1 (by omega)
      obtain ⟨x, n1, n2, e1, e2, e3⟩ := rul N hN a h (fun u => f_X3_follows_L37 N N a (nI t) (nI v) 0 0 u) (fun u => f_X4_follows_L52 N N a (nI t) (nI v) 0 0 0 u) (fun r s ea hr hs h3 e45 e3 ec hj => by
        subst ea
        exact ⟨folV n r t v (s / 3), n, n, e_folX N hN h.1.2.1 hr hs e3 ec hj, e_folM N hN hr hs e45, h, fun _ _ => rfl⟩)
      refine ⟨x, n1, n2, ?_, ?_, e3⟩
      · unfold f_X3_follows
        rw [e_isTraitX, Option.bind_some, bI_t hb, if_neg (by decide), e_isValue, Option.bind_some, bI_t hv, if_neg (by decide)]
        exact e1
      · unfold f_X4_follows f_X4_follows_L26
        rw [e_inT, Option.bind_some, bI_t hb, if_neg (by decide), e_in05, Option.bind_some, bI_t hv, if_neg (by decide)]
        exact e2
    · refine ⟨-1, n, n, ?_, hm1 n (Or.inr hv), h⟩
      unfold f_X3_follows f_X3_follows_L14
      rw [e_isTraitX, Option.bind_some, bI_t hb, if_neg (by decide), e_isValue, Option.bind_some, bI_f hv, if_pos rfl]
  · refine ⟨-1, n, n, ?_, hm1 n (Or.inl hb), h⟩
    unfold f_X3_follows f_X3_follows_L14
    rw [e_isTraitX, Option.bind_some, bI_f hb, if_pos rfl]
