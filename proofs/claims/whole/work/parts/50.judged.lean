/-! ===== pairs, counted from the end or from the front; promise 42: judged ===== -/
def stX (p : Nat × Nat → Bool) (g : Nat × Nat → Int32) (x : Nat × Nat) (s : Int32 × Int32) : Int32 × Int32 := if p x = true then (s.1 + 1, g x) else s
def stM (p : Nat × Nat → Bool) (g : Nat × Nat → Int32) (s : Int32 × Int32) (x : Nat × Nat) : Int32 × Int32 := if p x = true then (s.1 + 1, if s.1 = 0 then g x else s.2) else s
def cnL (p : Nat × Nat → Bool) : List (Nat × Nat) → Nat
  | [] => 0
  | x :: t => cnL p t + (if p x = true then 1 else 0)
def fsL (p : Nat × Nat → Bool) (g : Nat × Nat → Int32) (f : Int32) : List (Nat × Nat) → Int32
  | [] => f
  | x :: t => if p x = true then g x else fsL p g f t
theorem foldX (p : Nat × Nat → Bool) (g : Nat × Nat → Int32) : ∀ L : List (Nat × Nat), L.foldr (stX p g) (0, -9) = (nI (cnL p L), fsL p g (-9) L) := by
  intro L
  induction L with
  | nil => rfl
  | cons x t ih =>
    rw [List.foldr_cons, ih, stX, cnL, fsL]
    by_cases h : p x = true
    · rw [if_pos h, if_pos h, if_pos h, nI_1]
    · rw [if_neg h, if_neg h, if_neg h]; rfl
theorem foldM (p : Nat × Nat → Bool) (g : Nat × Nat → Int32) : ∀ (L : List (Nat × Nat)) (c : Nat) (f : Int32), c + L.length < 2 ^ 31 → L.foldl (stM p g) (nI c, f) = (nI (c + cnL p L), if c = 0 then fsL p g f L else f) := by
  intro L
  induction L with
  | nil => intro c f _; rw [List.foldl_nil, cnL, fsL]; simp
  | cons x t ih =>
    intro c f hc
    rw [List.length_cons] at hc
    rw [List.foldl_cons, stM, cnL, fsL]
    by_cases h : p x = true
    · rw [if_pos h, if_pos h, if_pos h]
      show t.foldl (stM p g) (nI c + 1, if nI c = 0 then g x else f) = _
      rw [nI_1, ih _ _ (by omega), if_neg (by omega)]
      refine Prod.ext (by show nI _ = nI _; congr 1; omega) ?_
      show (if nI c = 0 then g x else f) = _
      by_cases h0 : c = 0
      · subst h0; simp [nI_0]
      · rw [if_neg h0, if_neg (nI_ne0 (by omega) (by omega))]
    · rw [if_neg h, if_neg h, if_neg h, ih _ _ (by omega), Nat.add_zero]
theorem fold_XM (p : Nat × Nat → Bool) (g : Nat × Nat → Int32) {L : List (Nat × Nat)} (h : L.length < 2 ^ 31) : L.foldl (stM p g) (0, -9) = L.foldr (stX p g) (0, -9) := by
  have := foldM p g L 0 (-9) (by omega)
  rw [nI_0] at this
  rw [this, foldX, Nat.zero_add, if_pos rfl]
def rwL (l : Nat) : Nat → List (Nat × Nat)
  | 0 => []
  | d + 1 => rwL l d ++ [(l, l + d + 1)]
def alL (e : Nat) : Nat → List (Nat × Nat)
  | 0 => []
  | l + 1 => alL e l ++ rwL l (e - 1 - l)
theorem rwL_len (l : Nat) : ∀ d, (rwL l d).length = d := by
  intro d
  induction d with
  | zero => rfl
  | succ d ih => rw [rwL, List.length_append, ih]; rfl
theorem alL_len (e : Nat) : ∀ l, (alL e l).length ≤ l * e := by
  intro l
  induction l with
  | zero => rw [alL]; simp
  | succ l ih => rw [alL, List.length_append, rwL_len, Nat.succ_mul]; omega
/-- a ROW that is there -/
theorem Row_of {n : xN} (h : Inv n) {r : Nat} (hr : r < 6) (hs : 0 ≤ (n.1 45 r).toInt) : ∃ s : Nat, s ≤ 40 ∧ n.1 45 r = nI s ∧ n.1 3 r = nI s ∧ ∀ i, i < s → n.1 2 (40 * r + i) = n.1 46 (40 * r + i) := by
  obtain ⟨s1, s2, s3, s4⟩ := h.2.1 r hr
  obtain ⟨s, hs1, hs2⟩ := i32_of (k := 41) hs (by omega)
  refine ⟨s, by omega, hs2, by rw [s1, hs2], fun i hi => s4 i ?_⟩
  rw [hs2, nI_toInt (by omega)]
  omega
def clL (n : xN) (r i : Nat) : Int32 := n.1 46 (40 * r + i)
def andA (q : Nat → Bool) : Nat → Bool
  | 0 => true
  | i + 1 => andA q i && q i
theorem andA_iff (q : Nat → Bool) : ∀ m, andA q m = true ↔ ∀ i, i < m → q i = true := by
  intro m
  induction m with
  | zero => exact ⟨fun _ i h => absurd h (by omega), fun _ => rfl⟩
  | succ m ih =>
    rw [andA, Bool.and_eq_true, ih]
    constructor
    · rintro ⟨a, b⟩ i hi
      by_cases e : i = m
      · rw [e]; exact b
      · exact a i (by omega)
    · intro h
      exact ⟨fun i hi => h i (by omega), h m (by omega)⟩
theorem allR_A (q : Nat → Bool) (m : Nat) : allR q m m = andA q m := by
  have h1 := allR_iff q m m (Nat.le_refl _)
  have h2 := andA_iff q m
  cases a : andA q m
  · cases b : allR q m m
    · rfl
    · have := h2.mpr (fun i hi => h1.mp b i (by omega) hi)
      rw [a] at this; exact this.symm
  · exact h1.mpr (fun i _ hi => h2.mp a i hi)
theorem e_2i (i : Nat) : (2 : Int32) * nI i = nI (2 * i) := by rw [show (2 : Int32) = nI 2 from rfl, pk_mul]
theorem e_3i (i : Nat) : (3 : Int32) * nI i = nI (3 * i) := by rw [show (3 : Int32) = nI 3 from rfl, pk_mul]
theorem e_n2 (a : Nat) : nI a + 2 = nI (a + 2) := by rw [show (2 : Int32) = nI 2 from rfl, nI_add]
theorem e_d2 {s : Nat} (h : s ≤ 40) : nI s / 2 = nI (s / 2) := pk_div (d := 2) (by omega) (by omega) (by omega)
theorem e_d3 {s : Nat} (h : s ≤ 40) : nI s / 3 = nI (s / 3) := pk_div (d := 3) (by omega) (by omega) (by omega)
theorem e_m2 {s : Nat} (h : s ≤ 40) : nI s - nI s / 2 * 2 = nI (s % 2) := pk_rem (d := 2) (by omega) (by omega) (by omega)
theorem e_m3 {s : Nat} (h : s ≤ 40) : nI s - nI s / 3 * 3 = nI (s % 3) := pk_rem (d := 3) (by omega) (by omega) (by omega)
def okJ (n : xN) (T r i : Nat) : Bool := decide ((0 ≤ (clL n r (2 * i)).toInt ∧ (clL n r (2 * i)).toInt < (2 ^ T : Nat)) ∧ (clL n r (2 * i + 1) = 0 ∨ clL n r (2 * i + 1) = 1))
theorem nz2 : nzi 2 = true := by decide
theorem nz3 : nzi 3 = true := by decide
set_option maxHeartbeats 1000000 in
theorem e_refJ (N : Nat) (hN : 100 ≤ N) {n : xN} (h : Inv n) {T C r s : Nat} (hc : Crt n T C) (hr : r < 6) (hs : s ≤ 40) (e3 : n.1 3 r = nI s) (ec : ∀ i, i < s → n.1 2 (40 * r + i) = n.1 46 (40 * r + i)) :
    f_X3_refusedJudgements N (nI r) n = if s % 2 = 0 then (if andA (okJ n T r) (s / 2) = true then some (0, n) else some (-3, cF n 3)) else some (-3, cF n 5) := by
  have h1 := h.1
  have hs3 : 0 ≤ (n.1 3 r).toInt := by rw [e3, nI_toInt (by omega)]; omega
  unfold f_X3_refusedJudgements
  rw [e_rp1_ok n h1.1 hr hs3, Option.bind_some, if_pos rfl, e_size1 n hr, Option.bind_some, gdlT nz2, gdl0, e3, e_m2 hs]
  by_cases h2 : s % 2 = 0
  · rw [if_pos h2, if_pos (by rw [h2]; rfl)]
    have key := eq_forR (rc := f_X3_refusedJudgements_L40 N) (body := f_X3_refusedJudgements_L40b N) (fun f i (_ : Unit) => f (nI r) (nI s) i n) (fun _ => rfl) (s / 2) (fun _ => ()) (fun i => if allR (okJ n T r) (s / 2) (s / 2 - i) = true then some (0, n) else some (-3, cF n 3)) ?_ ?_ N 0 (Nat.zero_le _) (by omega)
    · rw [← allR_A]; exact key
    · intro f i hi hk
      show f_X3_refusedJudgements_L40b N f (nI r) (nI s) (nI i) n = _
      unfold f_X3_refusedJudgements_L40b f_X3_refusedJudgements_L90
      rw [gdlT nz2, gdl0, e_d2 hs, if_neg (by rw [nI_leI (by omega) (by omega)]; omega), e_2i, nI_1, nI_1, e_cell1 n h1.2.1 hr (show 2 * i < 40 by omega), Option.bind_some, e_isWayX n hc.1 hc.2.2.2.2.2.1, Option.bind_some, e_cell1 n h1.2.1 hr (show 2 * i + 1 < 40 by omega), Option.bind_some, e_isFlag, Option.bind_some, ec _ (by omega), ec _ (by omega), e_refuse3, Option.bind_some, allR_s _ hi]
      by_cases a1 : 0 ≤ (clL n r (2 * i)).toInt ∧ (clL n r (2 * i)).toInt < (2 ^ T : Nat)
      · have a1' := a1
        unfold clL at a1'
        rw [bI_t a1', if_neg (by decide)]
        by_cases a2 : clL n r (2 * i + 1) = 0 ∨ clL n r (2 * i + 1) = 1
        · have a2' := a2
          unfold clL at a2'
          have : okJ n T r i = true := by unfold okJ; exact decide_eq_true ⟨a1, a2⟩
          rw [bI_t a2', if_neg (by decide), this, Bool.true_and]
          exact hk
        · have a2' := a2
          unfold clL at a2'
          have : okJ n T r i = false := by unfold okJ; exact decide_eq_false (fun z => a2 z.2)
          rw [bI_f a2', if_pos rfl, this]; rfl
      · have a1' := a1
        unfold clL at a1'
        have : okJ n T r i = false := by unfold okJ; exact decide_eq_false (fun z => a1 z.1)
        rw [bI_f a1', if_pos rfl, this]; rfl
    · intro f
      show f_X3_refusedJudgements_L40b N f (nI r) (nI s) (nI (s / 2)) n = _
      unfold f_X3_refusedJudgements_L40b
      rw [gdlT nz2, gdl0, e_d2 hs, if_pos (by rw [nI_leI (by omega) (by omega)]; omega), Nat.sub_self]; rfl
  · rw [if_neg h2, if_neg (nI_ne0 (by omega) (by omega)), e_refuse5, Option.bind_some]
theorem e_in01 (a : Int32) : f_X4_in (Int32.toInt64 a) 0 1 = some (bI (a = 0 ∨ a = 1)) := by
  rw [e_inI]
  refine congrArg some (bI_c ?_)
  have q0 : (0 : Int64).toInt = 0 := rfl
  have q1 : (1 : Int64).toInt = 1 := rfl
  rw [q0, q1]
  constructor
  · intro ⟨x, y⟩
    obtain ⟨k, hk, rfl⟩ := i32_of (k := 2) x (by omega)
    rcases Nat.lt_or_ge k 1 with z | z
    · exact Or.inl (by rw [show k = 0 by omega]; rfl)
    · exact Or.inr (by rw [show k = 1 by omega]; rfl)
  · rintro (rfl | rfl) <;> decide
set_option maxHeartbeats 1000000 in
theorem e_areJ (N : Nat) (hN : 100 ≤ N) (n : xN) {T r s : Nat} (hT : T ≤ 6) (eT : n.1 39 1 = nI T) (hr : r < 6) (hs : s ≤ 40) (h2 : s % 2 = 0) (e3 : n.1 45 r = nI s) : f_X4_areJudged N (nI r) n = some (bI (andA (okJ n T r) (s / 2) = true)) := by
  unfold f_X4_areJudged
  have key := eq_forG (rc := f_X4_areJudged_L4 N n) (body := f_X4_areJudged_L4b N n) (fun f _ (s : Int32 × Int32) => f (nI r) s.1 s.2) (fun _ => rfl) 0 (s / 2) (fun i => (bI (andA (okJ n T r) i = true), nI (2 * i))) (some (bI (andA (okJ n T r) (s / 2) = true))) ?_ ?_ N 0 (Nat.le_refl _) (Nat.zero_le _) (by omega)
  · exact key
  · intro f i _ hi
    show f_X4_areJudged_L4b N n f (nI r) (bI (andA (okJ n T r) i = true)) (nI (2 * i)) = f (nI r) (bI ((andA (okJ n T r) i && okJ n T r i) = true)) (nI (2 * (i + 1)))
    unfold f_X4_areJudged_L4b f_X4_areJudged_L62 f_X4_areJudged_L63
    rw [gdl_nI (by omega) hr, gdl0, nI_clamp (by omega), e3, if_neg (by rw [nI_leI (by omega) (by omega)]; omega), (e_ix1 hr (show 2 * i < 40 by omega)).2, nI_1, gdl_nI (by omega) (by omega), gdl0, gdl_nI (by omega) (by omega), gdl0, nI_clamp (by omega), nI_clamp (by omega), e_isWayM n hT eT, Option.bind_some, e_in01, Option.bind_some, e_n2]
    rw [show 2 * i + 2 = 2 * (i + 1) by omega]
    cases ha : andA (okJ n T r) i
    · rfl
    · rw [bI_t rfl, if_neg (by decide), Bool.true_and]
      by_cases a1 : 0 ≤ (n.1 46 (40 * r + 2 * i)).toInt ∧ (n.1 46 (40 * r + 2 * i)).toInt < (2 ^ T : Nat)
      · rw [bI_t a1, if_neg (by decide)]
        by_cases a2 : n.1 46 (40 * r + 2 * i + 1) = 0 ∨ n.1 46 (40 * r + 2 * i + 1) = 1
        · have : okJ n T r i = true := by unfold okJ clL; exact decide_eq_true ⟨a1, a2⟩
          rw [bI_t a2, if_neg (by decide), this]; rfl
        · have : okJ n T r i = false := by unfold okJ clL; exact decide_eq_false (fun z => a2 z.2)
          rw [bI_f a2, if_pos rfl, this]; rfl
      · have : okJ n T r i = false := by unfold okJ clL; exact decide_eq_false (fun z => a1 z.1)
        rw [bI_f a1, if_pos rfl, this]; rfl
  · intro f
    show f_X4_areJudged_L4b N n f (nI r) (bI (andA (okJ n T r) (s / 2) = true)) (nI (2 * (s / 2))) = _
    unfold f_X4_areJudged_L4b
    rw [gdl_nI (by omega) hr, gdl0, nI_clamp (by omega), e3, if_pos (by rw [nI_leI (by omega) (by omega)]; omega), gdl_bI, gdl0]
