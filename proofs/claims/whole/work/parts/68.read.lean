/-! ===== promise 10: fault; the two ways to read a TEXT ===== -/
theorem fig_iff (c : Int32) {m : Nat} (hm : m ≤ 9) : (0 ≤ (c - 48).toInt ∧ (c - 48).toInt ≤ m) ↔ (48 ≤ c.toInt ∧ c.toInt ≤ 48 + m) := by
  have z48 : (48 : Int32).toInt = 48 := rfl
  have lo := i32_lo c
  have hi := i32_hi c
  by_cases h : -2147483648 ≤ c.toInt - 48
  · rw [i32_sub (by rw [z48]; omega) (by rw [z48]; omega), z48]; omega
  · have e : (c - 48).toInt = c.toInt - 48 + 4294967296 := by
      rw [Int32.toInt_sub, z48]
      show Int.bmod (c.toInt - 48) 4294967296 = _
      rw [Int.bmod_def]
      omega
    rw [e]; omega
theorem fig_of (c : Int32) {m : Nat} (hm : m ≤ 9) (h : 48 ≤ c.toInt ∧ c.toInt ≤ 48 + m) : ∃ q : Nat, q ≤ m ∧ c - 48 = nI q := by
  obtain ⟨a, b⟩ := (fig_iff c hm).mpr h
  obtain ⟨q, hq, e⟩ := i32_of (k := m + 1) a (by omega)
  exact ⟨q, by omega, e⟩
def FX (n u : xN) : Prop := (∀ c, c ≠ 13 → c ≠ 14 → c ≠ 16 → c ≠ 17 → c ≠ 18 → u.1 c = n.1 c) ∧ u.2 = n.2
theorem FX_s {n u : xN} (h : FX n u) {a : Nat} (ha : a = 13 ∨ a = 14 ∨ a = 16 ∨ a = 17 ∨ a = 18) (k : Nat) (v : Int32) : FX n (mI u a k v) := ⟨fun c h1 h2 h3 h4 h5 => by rw [mI1, if_neg (by omega), h.1 c h1 h2 h3 h4 h5], h.2⟩
def FM (m0 : xN) (t s : Nat) (v : xN) : Prop := (∀ c, c ≠ 39 → c ≠ 50 → c ≠ 51 → v.1 c = m0.1 c) ∧ v.2 = m0.2 ∧ (∀ k, k ≠ 16 → k ≠ 17 → k ≠ 18 → k ≠ 20 → k ≠ 22 → v.1 39 k = m0.1 39 k) ∧ v.1 39 16 = nI (80 * t) ∧ v.1 39 18 = nI s
theorem FM_a {m0 v : xN} {t s : Nat} (h : FM m0 t s v) {a : Nat} (ha : a = 50 ∨ a = 51) (k : Nat) (x : Int32) : FM m0 t s (mI v a k x) := by
  obtain ⟨h1, h2, h3, h4, h5⟩ := h
  refine ⟨fun c c1 c2 c3 => by rw [mI1, if_neg (by omega), h1 c c1 c2 c3], h2, fun k a b c d e => by rw [mI1, if_neg (by omega), h3 k a b c d e], by rw [mI1, if_neg (by omega), h4], by rw [mI1, if_neg (by omega), h5]⟩
theorem FM_f {m0 v : xN} {t s : Nat} (h : FM m0 t s v) {k : Nat} (hk : k = 17 ∨ k = 20 ∨ k = 22) (x : Int32) : FM m0 t s (mI v 39 k x) := by
  obtain ⟨h1, h2, h3, h4, h5⟩ := h
  refine ⟨fun c c1 c2 c3 => by rw [mI1, if_neg (by omega), h1 c c1 c2 c3], h2, fun j a b c d e => by rw [mI1, if_pos rfl, upd_o (by omega), h3 j a b c d e], by rw [mI1, if_pos rfl, upd_o (by omega), h4], by rw [mI1, if_pos rfl, upd_o (by omega), h5]⟩
def GV (th : Nat) (u v : xN) : Prop := ∀ j, j < 5 * th → u.1 14 j = v.1 50 j ∧ ∃ q : Nat, q ≤ 9 ∧ v.1 50 j = nI q
def CV (cl : Nat) (u v : xN) : Prop := ∀ k, k < cl → u.1 16 k = v.1 51 (3 * k) ∧ u.1 17 k = v.1 51 (3 * k + 1) ∧ u.1 18 k = v.1 51 (3 * k + 2) ∧ ∃ a b : Nat, a ≤ 5 ∧ v.1 51 (3 * k) = nI a ∧ b ≤ 3 ∧ v.1 51 (3 * k + 1) = nI b ∧ ((v.1 51 (3 * k + 2) = -9 ∧ a ≠ 2 ∧ a ≠ 5) ∨ ∃ c : Nat, c ≤ 3 ∧ v.1 51 (3 * k + 2) = nI c ∧ (a = 2 ∨ a = 5))
def Bnd (n m0 : xN) (t s i : Nat) (u v : xN) : Prop := FX n u ∧ FM m0 t s v ∧ i ≤ s ∧ v.1 39 17 = nI i ∧ ∃ th cl : Nat, th ≤ 6 ∧ cl ≤ 8 ∧ (th = 0 → cl = 0) ∧ u.1 13 0 = nI th ∧ u.1 13 1 = nI cl ∧ u.1 13 2 = 0 ∧ v.1 39 20 = nI th ∧ v.1 39 22 = nI cl ∧ GV th u v ∧ CV cl u v
def Fin (n m0 : xN) (t s : Nat) (r : Int32) (u v : xN) : Prop := FX n u ∧ FM m0 t s v ∧ (r = -9 → ∃ th cl : Nat, 0 < th ∧ th ≤ 6 ∧ cl ≤ 8 ∧ u.1 13 0 = nI th ∧ u.1 13 1 = nI cl ∧ v.1 39 20 = nI th ∧ v.1 39 22 = nI cl ∧ GV th u v ∧ CV cl u v)
def ch (n : xN) (t i : Nat) : Int32 := n.1 48 (80 * t + i)
/-- one sign more, on the class's side -/
theorem xR_fig (N f : Nat) {n u : xN} {t s p d : Nat} (hu : FX n u) (ht : t < 4) (hs : s ≤ 80) (h41 : n.1 4 1 = 80) (ec : ∀ i, i < s → n.1 5 (80 * t + i) = ch n t i) (hp : p < s) (ed : u.1 13 2 = nI d) (hd : 0 < d) (hd5 : d ≤ 5) : f_X0_readFrom_13_4_L24 N (f + 1) (nI t) (nI s) (nI p) u = Option.bind (f_X0_takesFigure_13 (ch n t p - 48) u) (fun r => if r.1 = 0 then some (nI p, r.2) else f_X0_readFrom_13_4_L24 N f (nI t) (nI s) (nI (p + 1)) r.2) := by
  show f_X0_readFrom_13_4_L24b N (f_X0_readFrom_13_4_L24 N f) (nI t) (nI s) (nI p) u = _
  unfold f_X0_readFrom_13_4_L24b f_X0_readFrom_13_4_L64
  rw [if_neg (by rw [nI_leI (by omega) (by omega)]; omega), e_cell4 u (by rw [hu.1 4 (by decide) (by decide) (by decide) (by decide) (by decide)]; exact h41) ht (by omega), Option.bind_some, ed, if_neg (nI_nle hd (by omega)), hu.1 5 (by decide) (by decide) (by decide) (by decide) (by decide), ec p hp, nI_1]
theorem xR_item (N f : Nat) {n u : xN} {t s p : Nat} (hu : FX n u) (ht : t < 4) (hs : s ≤ 80) (h41 : n.1 4 1 = 80) (ec : ∀ i, i < s → n.1 5 (80 * t + i) = ch n t i) (hp : p < s) (ed : u.1 13 2 = 0) : f_X0_readFrom_13_4_L24 N (f + 1) (nI t) (nI s) (nI p) u = Option.bind (f_X0_beginsItem_13 N (ch n t p) u) (fun r => if r.1 = 0 then some (nI p, r.2) else f_X0_readFrom_13_4_L24 N f (nI t) (nI s) (nI (p + 1)) r.2) := by
  show f_X0_readFrom_13_4_L24b N (f_X0_readFrom_13_4_L24 N f) (nI t) (nI s) (nI p) u = _
  unfold f_X0_readFrom_13_4_L24b f_X0_readFrom_13_4_L64
  rw [if_neg (by rw [nI_leI (by omega) (by omega)]; omega), e_cell4 u (by rw [hu.1 4 (by decide) (by decide) (by decide) (by decide) (by decide)]; exact h41) ht (by omega), Option.bind_some, ed, if_pos (by decide), hu.1 5 (by decide) (by decide) (by decide) (by decide) (by decide), ec p hp, nI_1]
theorem xR_end (N f : Nat) {u : xN} {t s : Nat} (hs : s ≤ 80) {d : Nat} (ed : u.1 13 2 = nI d) (hd5 : d ≤ 5) : f_X0_readFrom_13_4_L24 N (f + 1) (nI t) (nI s) (nI s) u = if 0 < d then some (nI s, u) else if u.1 13 0 = 0 then some (nI s, u) else some (-9, u) := by
  show f_X0_readFrom_13_4_L24b N (f_X0_readFrom_13_4_L24 N f) (nI t) (nI s) (nI s) u = _
  unfold f_X0_readFrom_13_4_L24b f_X0_readFrom_13_4_L94 f_X0_readFrom_13_4_L100
  rw [if_pos (by rw [nI_leI (by omega) (by omega)]; omega), ed]
  by_cases h : 0 < d
  · rw [if_pos (by rw [show (0 : Int32) = nI 0 from rfl, nI_ltI (by omega) (by omega)]; exact h), if_pos h]
  · rw [if_neg (by rw [show (0 : Int32) = nI 0 from rfl, nI_ltI (by omega) (by omega)]; exact h), if_neg h]
theorem e_gift (u : xN) {th d : Nat} (h0 : u.1 13 0 = nI (th + 1)) (h1 : u.1 13 1 = 0) (h2 : u.1 13 2 = nI d) (ht : th < 6) (hd : 0 < d) (hd5 : d ≤ 5) (x : Int32) : f_X0_takesFigure_13 x u = if 0 ≤ x.toInt ∧ x.toInt ≤ ((if d = 1 then 9 else 3 : Nat) : Int) then some (1, mI (mI u 14 (5 * th + (5 - d)) x) 13 2 (nI (d - 1))) else some (0, u) := by
  unfold f_X0_takesFigure_13 f_X0_takesFigure_13_L20 f_X0_takesGift_13 f_X0_takesGift_13_L14 f_X0_takesGift_13_L24
  have ix : nI (th + 1) * 5 - nI d = nI (5 * th + (5 - d)) := by
    rw [show (5 : Int32) = nI 5 from rfl, pk_mul, pk_sub (by omega), show (th + 1) * 5 - d = 5 * th + (5 - d) by omega]
  have e2 : ∀ (y : Int32), (mI u 14 (5 * th + (5 - d)) y).1 13 2 = nI d := fun y => by rw [mI1, if_neg (by decide), h2]
  have ed : nI d - 1 = nI (d - 1) := by
    have := nI_pred (d - 1)
    rw [show d - 1 + 1 = d by omega] at this
    exact this
  rw [if_pos h1, h0, h2, ix, gdl_nI (by omega) (by omega), gdl0, nI_clamp (by omega), e2, ed]
  have z9 : (9 : Int32).toInt = 9 := rfl
  have z3 : (3 : Int32).toInt = 3 := rfl
  simp only [i32_lt, i32_le, z0, z9, z3]
  by_cases c : d = 1
  · rw [if_pos (by rw [c]; rfl)]
    simp only [c, reduceIte]
    by_cases a : x.toInt < 0
    · rw [if_pos a, if_neg (by omega)]; rfl
    · rw [if_neg a]
      by_cases b : x.toInt ≤ 9
      · rw [if_pos b, if_pos (by omega)]; rfl
      · rw [if_neg b, if_neg (by omega)]; rfl
  · rw [if_neg (show ¬ nI d = 1 from fun z => c ((nI_eq (a := d) (b := 1) (by omega) (by omega)).mp z))]
    simp only [c, reduceIte]
    by_cases a : x.toInt < 0
    · rw [if_pos a, if_neg (by omega)]; rfl
    · rw [if_neg a]
      by_cases b : x.toInt ≤ 3
      · rw [if_pos b, if_pos (by omega)]; rfl
      · rw [if_neg b, if_neg (by omega)]; rfl
theorem e_trt (u : xN) {c d a : Nat} (h1 : u.1 13 1 = nI (c + 1)) (h2 : u.1 13 2 = nI d) (h16 : u.1 16 c = nI a) (ha : a ≤ 5) (hc : c < 8) (hd : d = 1 ∨ d = 2) (x : Int32) : f_X0_takesFigure_13 x u = if 0 ≤ x.toInt ∧ x.toInt ≤ 3 then (if d = 1 ∧ ofK a 2 = true then (if u.1 17 c = x then some (0, u) else some (1, mI (mI u 18 c x) 13 2 0)) else some (1, mI (mI u 17 c x) 13 2 (nI (d - 1)))) else some (0, u) := by
  unfold f_X0_takesFigure_13 f_X0_takesFigure_13_L20 f_X0_takesTrait_13 f_X0_takesTrait_13_L41 f_X0_takesTrait_13_L42 f_X0_takesTrait_13_L59 f_X0_takesTrait_13_L80
  have e2 : ∀ (w : Nat) (y : Int32), w ≠ 13 → (mI u w c y).1 13 2 = nI d := fun w y hw => by rw [mI1, if_neg (fun z => hw z.symm), h2]
  have ed : nI d - 1 = nI (d - 1) := by
    have := nI_pred (d - 1)
    rw [show d - 1 + 1 = d by omega] at this
    exact this
  rw [if_neg (by rw [h1]; exact nI_ne0 (by omega) (by omega)), e_isTraitX, Option.bind_some, h1, nI_pred, h2, gdl_nI (by omega) hc, gdl0, gdl_nI (by omega) hc, gdl0, gdl_nI (by omega) hc, gdl0, gdl_nI (by omega) hc, gdl0, nI_clamp (by omega), h16, show (2 : Int32) = nI 2 from rfl, e_ofKX u ha (by omega) (by omega), Option.bind_some, e2 17 x (by decide), e2 18 x (by decide), ed]
  have hin : inb (nI c) 8 = true := by rw [inb_nI (by omega)]; exact decide_eq_true hc
  by_cases hx : 0 ≤ x.toInt ∧ x.toInt < 4
  · rw [bI_t hx, if_neg (by decide), if_pos (show 0 ≤ x.toInt ∧ x.toInt ≤ 3 by omega)]
    rcases hd with rfl | rfl
    · rw [if_pos (show nI 1 = 1 from rfl)]
      cases hk : ofK a 2
      · simp [bI, gdl, isb]
      · by_cases hy : u.1 17 c = x
        · simp [bI, gdl, isb, hy, hin]
        · simp [bI, gdl, isb, hy, hin, nI_0]
    · rw [if_neg (show ¬ nI 2 = 1 by decide)]
      simp [gdl, isb]
  · rw [bI_f hx, if_pos rfl, if_neg (show ¬ (0 ≤ x.toInt ∧ x.toInt ≤ 3) by omega)]; rfl
/-- a CLAUSE begun -/
def bgC (u : xN) (cl a : Nat) : xN := mI (mI (mI (mI u 16 cl (nI a)) 18 cl (-9)) 13 1 (nI (cl + 1))) 13 2 (if ofK a 2 = true then 2 else 1)
theorem fs_bgC (N k : Nat) (a b : Int32) (u : xN) : f_X0_beginsClause_13_L20 N (k + 1) a b u = f_X0_beginsClause_13_L20b N (f_X0_beginsClause_13_L20 N k) a b u := rfl
theorem bgC_s (N k : Nat) (x : Int32) (u : xN) {cl j : Nat} (h1 : u.1 13 1 = nI cl) (hc : cl < 8) (hj : j ≤ 5) : f_X0_beginsClause_13_L20 N (k + 1) x (nI j) u = if xS 55 j = x then some (1, bgC u cl j) else f_X0_beginsClause_13_L20 N k x (nI (j + 1)) u := by
  rw [fs_bgC]
  unfold f_X0_beginsClause_13_L20b f_X0_beginsClause_13_L79 bgC
  have e1 : (mI u 16 cl (nI j)).1 13 1 = nI cl := by rw [mI1, if_neg (by decide), h1]
  have e2 : (mI (mI u 16 cl (nI j)) 18 cl (-9)).1 13 1 = nI cl := by rw [mI1, if_neg (by decide), e1]
  rw [if_neg (by rw [show (5 : Int32) = nI 5 from rfl, nI_ltI (by omega) (by omega)]; omega), gdl_nI (by omega) (by omega), gdl0, nI_clamp (by omega), h1, nI_clamp (by omega), e1, nI_clamp (by omega), e2, gdl_nI (by omega) hc, gdl_nI (by omega) hc, gdl0, show (2 : Int32) = nI 2 from rfl, e_ofKX _ hj (by omega) (by omega), Option.bind_some, nI_1, nI_1]
  by_cases h : xS 55 j = x
  · rw [if_pos h, if_pos h]
    cases ofK j 2 <;> rfl
  · rw [if_neg h, if_neg h]
def kL (x : Int32) : Int32 := if x = 99 then 0 else if x = 110 then 1 else if x = 98 then 2 else if x = 117 then 3 else if x = 104 then 4 else if x = 120 then 5 else -9
theorem e_kL (x : Int32) : f_X4_kindOfLetter x = some (kL x) := by
  unfold f_X4_kindOfLetter f_X4_kindOfLetter_L62 kL
  split
  · rfl
  · split
    · rfl
    · split
      · rfl
      · split
        · rfl
        · split
          · rfl
          · split <;> rfl
theorem bgC_e (N : Nat) (hN : 100 ≤ N) (x : Int32) (u : xN) {th cl : Nat} (h0 : u.1 13 0 = nI th) (h1 : u.1 13 1 = nI cl) (ht : 0 < th) (ht6 : th ≤ 6) (hc : cl < 8) : (∃ a : Nat, a ≤ 5 ∧ kL x = nI a ∧ f_X0_beginsClause_13 N x u = some (1, bgC u cl a)) ∨ (kL x = -9 ∧ f_X0_beginsClause_13 N x u = some (0, u)) := by
  have hl : f_X0_beginsClause_13 N x u = f_X0_beginsClause_13_L20 N N x 0 u := by
    unfold f_X0_beginsClause_13
    rw [if_neg (by rw [h0]; exact nI_ne0 ht (by omega)), h1, if_pos (by rw [show (8 : Int32) = nI 8 from rfl, nI_ltI (by omega) (by omega)]; exact hc)]
  have e : ∀ k, f_X0_beginsClause_13_L20 N (k + 7) x 0 u = if 99 = x then some (1, bgC u cl 0) else if 110 = x then some (1, bgC u cl 1) else if 98 = x then some (1, bgC u cl 2) else if 117 = x then some (1, bgC u cl 3) else if 104 = x then some (1, bgC u cl 4) else if 120 = x then some (1, bgC u cl 5) else some (0, u) := by
    intro k
    have s0 := bgC_s N (k + 6) x u h1 hc (j := 0) (by omega)
    have s1 := bgC_s N (k + 5) x u h1 hc (j := 1) (by omega)
    have s2 := bgC_s N (k + 4) x u h1 hc (j := 2) (by omega)
    have s3 := bgC_s N (k + 3) x u h1 hc (j := 3) (by omega)
    have s4 := bgC_s N (k + 2) x u h1 hc (j := 4) (by omega)
    have s5 := bgC_s N (k + 1) x u h1 hc (j := 5) (by omega)
    have s6 : f_X0_beginsClause_13_L20 N (k + 1) x (nI 6) u = some (0, u) := by
      rw [fs_bgC]; unfold f_X0_beginsClause_13_L20b; rw [if_pos (by decide)]
    rw [s6] at s5
    rw [s5] at s4
    rw [s4] at s3
    rw [s3] at s2
    rw [s2] at s1
    rw [s1] at s0
    exact s0
  have eN := e (N - 7)
  rw [show N - 7 + 7 = N by omega] at eN
  rw [hl, eN]
  unfold kL
  by_cases a0 : x = 99
  · exact Or.inl ⟨0, by omega, by rw [if_pos a0]; rfl, by rw [if_pos a0.symm]⟩
  · rw [if_neg a0, if_neg (show ¬ (99 : Int32) = x from fun z => a0 z.symm)]
    by_cases a1 : x = 110
    · exact Or.inl ⟨1, by omega, by rw [if_pos a1]; rfl, by rw [if_pos a1.symm]⟩
    · rw [if_neg a1, if_neg (show ¬ (110 : Int32) = x from fun z => a1 z.symm)]
      by_cases a2 : x = 98
      · exact Or.inl ⟨2, by omega, by rw [if_pos a2]; rfl, by rw [if_pos a2.symm]⟩
      · rw [if_neg a2, if_neg (show ¬ (98 : Int32) = x from fun z => a2 z.symm)]
        by_cases a3 : x = 117
        · exact Or.inl ⟨3, by omega, by rw [if_pos a3]; rfl, by rw [if_pos a3.symm]⟩
        · rw [if_neg a3, if_neg (show ¬ (117 : Int32) = x from fun z => a3 z.symm)]
          by_cases a4 : x = 104
          · exact Or.inl ⟨4, by omega, by rw [if_pos a4]; rfl, by rw [if_pos a4.symm]⟩
          · rw [if_neg a4, if_neg (show ¬ (104 : Int32) = x from fun z => a4 z.symm)]
            by_cases a5 : x = 120
            · exact Or.inl ⟨5, by omega, by rw [if_pos a5]; rfl, by rw [if_pos a5.symm]⟩
            · exact Or.inr ⟨by rw [if_neg a5], by rw [if_neg (fun z => a5 z.symm)]⟩
/-! the reference -/
theorem m_here {m0 v : xN} {n : xN} {t s p : Nat} (h : FM m0 t s v) (e48 : m0.1 48 = n.1 48) (ht : t < 4) (hp : p < 80) (ep : v.1 39 17 = nI p) : f_X4_here v = some (ch n t p) := by
  unfold f_X4_here
  rw [h.2.2.2.1, ep, nI_add, gdl_nI (by omega) (by omega), gdl0, nI_clamp (by omega), h.1 48 (by decide) (by decide) (by decide), e48]; rfl
def pl (v : xN) (p : Nat) : xN := mI v 39 17 (nI p)
theorem pl17 (v : xN) (p : Nat) : (pl v p).1 39 17 = nI p := by unfold pl; rw [mI1, if_pos rfl, upd_s]
theorem pl_o (v : xN) (p : Nat) {c : Nat} (h : c ≠ 39) : (pl v p).1 c = v.1 c := by unfold pl; rw [mI1, if_neg h]
theorem pl_f (v : xN) (p : Nat) {k : Nat} (h : k ≠ 17) : (pl v p).1 39 k = v.1 39 k := by unfold pl; rw [mI1, if_pos rfl, upd_o h]
theorem pl_pl (v : xN) (p q : Nat) : pl (pl v p) q = pl v q := mI_mI v 39 17 _ _
theorem pl_id {v : xN} {p : Nat} (h : v.1 39 17 = nI p) : pl v p = v := by unfold pl; rw [← h, mI_id]
theorem pl_FM {m0 v : xN} {t s p : Nat} (h : FM m0 t s v) : FM m0 t s (pl v p) := FM_f h (Or.inl rfl) _
theorem m_fig {m0 v n : xN} {t s p : Nat} (h : FM m0 t s v) (e48 : m0.1 48 = n.1 48) (ht : t < 4) (hs : s ≤ 80) (hp : p ≤ s) (ep : v.1 39 17 = nI p) {m : Nat} (hm : m ≤ 9) (x : Int32) : f_X4_figure (nI m) x v = if p < s ∧ (48 ≤ (ch n t p).toInt ∧ (ch n t p).toInt ≤ 48 + m) ∧ ¬ ch n t p - 48 = x then some (ch n t p - 48, pl v (p + 1)) else some (-9, v) := by
  unfold f_X4_figure f_X4_figure_L41
  rw [ep, h.2.2.2.2]
  by_cases hps : p = s
  · rw [if_pos (by rw [hps]), if_neg (by omega)]
  · have q48 : (48 : Int64).toInt = 48 := rfl
    have em : (Int32.toInt64 (48 + nI m)).toInt = 48 + m := by
      rw [i64_of, show (48 : Int32) = nI 48 from rfl, nI_add, nI_toInt (by omega)]; omega
    have hp1 : (mI v 39 17 (nI p + 1)) = pl v (p + 1) := by unfold pl; rw [nI_1]
    have e16 : (pl v (p + 1)).1 39 16 = nI (80 * t) := by rw [pl_f _ _ (by decide), h.2.2.2.1]
    have e48p : (pl v (p + 1)).1 48 = n.1 48 := by rw [pl_o _ _ (by decide), h.1 48 (by decide) (by decide) (by decide), e48]
    have ix : nI (80 * t) + nI (p + 1) - 1 = nI (80 * t + p) := by rw [nI_add, show 80 * t + (p + 1) = 80 * t + p + 1 by omega, nI_pred]
    rw [if_neg (fun z => hps ((nI_eq (by omega) (by omega)).mp z)), m_here h e48 ht (by omega) ep, Option.bind_some, e_inI, q48, em, Option.bind_some, Option.bind_some, hp1, e16, pl17, ix, gdl_nI (by omega) (by omega), gdl0, nI_clamp (by omega), e48p]
    by_cases a : 48 ≤ (ch n t p).toInt ∧ (ch n t p).toInt ≤ 48 + m
    · rw [bI_t a, if_neg (by decide)]
      by_cases b : ch n t p - 48 = x
      · rw [if_pos b, if_neg (fun z => z.2.2 b)]
      · rw [if_neg b, if_pos ⟨by omega, a, b⟩]; rfl
    · rw [bI_f a, if_pos rfl, if_neg (fun z => a z.2.1)]
/-- blanks passed over -/
def nbF (n : xN) (t s : Nat) : Nat → Nat → Nat
  | 0, i => i
  | k + 1, i => if i < s ∧ ch n t i = 32 then nbF n t s k (i + 1) else i
theorem m_skipL (N : Nat) {m0 n : xN} {t s : Nat} (e48 : m0.1 48 = n.1 48) (ht : t < 4) (hs : s ≤ 80) : ∀ (k f i : Nat) (v : xN), s - i ≤ k → k < f → i ≤ s → FM m0 t s v → v.1 39 17 = nI i → f_X4_skip_L0 N f v = some (pl v (nbF n t s k i)) := by
  intro k
  induction k with
  | zero =>
    intro f i v hk hf hi hv ei
    cases f with
    | zero => omega
    | succ f =>
      show f_X4_skip_L0b N (f_X4_skip_L0 N f) v = _
      unfold f_X4_skip_L0b
      rw [hv.2.2.2.2, ei, if_pos (by rw [nI_leI (by omega) (by omega)]; omega)]
      show some v = some (pl v i)
      rw [pl_id ei]
  | succ k ih =>
    intro f i v hk hf hi hv ei
    cases f with
    | zero => omega
    | succ f =>
      show f_X4_skip_L0b N (f_X4_skip_L0 N f) v = _
      unfold f_X4_skip_L0b
      rw [hv.2.2.2.2, ei, nbF]
      by_cases his : i < s
      · rw [if_neg (by rw [nI_leI (by omega) (by omega)]; omega), m_here hv e48 ht (by omega) ei, Option.bind_some]
        by_cases h32 : ch n t i = 32
        · rw [if_pos h32, if_pos ⟨his, h32⟩, nI_1]
          have := ih f (i + 1) (pl v (i + 1)) (by omega) (by omega) (by omega) (pl_FM hv) (pl17 _ _)
          rw [pl_pl] at this
          exact this
        · rw [if_neg h32, if_neg (fun z => h32 z.2), pl_id ei]
      · rw [if_pos (by rw [nI_leI (by omega) (by omega)]; omega), if_neg (fun z => his z.1), pl_id ei]
theorem m_skip (N : Nat) (hN : 100 ≤ N) {m0 n v : xN} {t s i : Nat} (e48 : m0.1 48 = n.1 48) (ht : t < 4) (hs : s ≤ 80) (hi : i ≤ s) (hv : FM m0 t s v) (ei : v.1 39 17 = nI i) : f_X4_skip N v = some (pl v (nbF n t s 81 i)) := by
  have := m_skipL N e48 ht hs 81 (N + 1) i v (by omega) (by omega) hi hv ei
  exact this
theorem xR_skip (N : Nat) {n u : xN} {t s : Nat} (hu : FX n u) (ht : t < 4) (hs : s ≤ 80) (h41 : n.1 4 1 = 80) (ec : ∀ i, i < s → n.1 5 (80 * t + i) = ch n t i) (ed : u.1 13 2 = 0) : ∀ (k i f : Nat), s - i ≤ k → s - i < f → i ≤ s → ∃ f', f' ≤ f ∧ s - nbF n t s k i < f' ∧ i ≤ nbF n t s k i ∧ nbF n t s k i ≤ s ∧ (nbF n t s k i < s → ¬ ch n t (nbF n t s k i) = 32) ∧ f_X0_readFrom_13_4_L24 N f (nI t) (nI s) (nI i) u = f_X0_readFrom_13_4_L24 N f' (nI t) (nI s) (nI (nbF n t s k i)) u := by
  intro k
  induction k with
  | zero => intro i f hk hf hi; exact ⟨f, Nat.le_refl _, hf, Nat.le_refl _, hi, fun h => absurd h (by show ¬ i < s; omega), rfl⟩
  | succ k ih =>
    intro i f hk hf hi
    rw [nbF]
    by_cases h : i < s ∧ ch n t i = 32
    · rw [if_pos h]
      cases f with
      | zero => omega
      | succ f =>
        obtain ⟨f', a, b, c, d, e, g⟩ := ih (i + 1) f (by omega) (by omega) (by omega)
        refine ⟨f', by omega, b, by omega, d, e, ?_⟩
        rw [xR_item N f hu ht hs h41 ec h.1 ed]
        unfold f_X0_beginsItem_13
        rw [if_pos h.2, Option.bind_some, if_neg (show ¬ (1 : Int32) = 0 by decide), g]
    · rw [if_neg h]
      exact ⟨f, Nat.le_refl _, hf, Nat.le_refl _, hi, fun z y => h ⟨z, y⟩, rfl⟩
