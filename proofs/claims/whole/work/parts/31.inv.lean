/-! ===== what holds between two calls: the class's memory (labels 0 .. 38) and the reference's (39 .. 53) ===== -/
def I_con (c1 c4 : Nat → Int32) : Prop := c1 0 = 6 ∧ c1 1 = 40 ∧ c1 2 = 0 ∧ c4 0 = 4 ∧ c4 1 = 80 ∧ c4 2 = 32
def I_row (W K : Nat) (xs xc ms mc : Nat → Int32) : Prop := ∀ r, r < K → xs r = ms r ∧ -1 ≤ (ms r).toInt ∧ (ms r).toInt ≤ W ∧ ∀ i : Nat, (i : Int) < (ms r).toInt → xc (W * r + i) = mc (W * r + i)
def I_find (x9 m14 : Int32) (xf mf : Nat → Int32) : Prop := x9 = m14 ∧ ∀ f, f < 6 → xf f = mf f
def I_told (x10 m11 : Int32) (x11 m12 x12 m13 : Int64) : Prop := x10 = m11 ∧ x11 = m12 ∧ x12 = m13
/-- what the THINGS of a WAY give together -/
def sumS (g : Nat → Int32) (way w : Nat) : Nat → Int32
  | 0 => 0
  | i + 1 => sumS g way w i + (if way.testBit i = true then g (5 * i + w) else 0)
def I_court (xt xn mt mn : Int32) (xg xs xk xr xo mg mk mr mo : Nat → Int32) : Prop :=
  xt = mt ∧ xn = mn ∧ ∃ T C : Nat, T ≤ 6 ∧ C ≤ 8 ∧ mt = nI T ∧ mn = nI C ∧ (T = 0 → C = 0) ∧
    (∀ i, i < T → ∀ w, w < 5 → xg (5 * i + w) = mg (5 * i + w) ∧ ∃ q : Nat, q ≤ 9 ∧ mg (5 * i + w) = nI q) ∧
    (∀ way, way < 2 ^ T → ∀ w, w < 5 → xs (5 * way + w) = sumS mg way w T) ∧
    (∀ k, k < C → xk k = mk k ∧ xr k = mr k ∧ xo k = mo k ∧ ∃ a b : Nat, a ≤ 5 ∧ mk k = nI a ∧ b ≤ 3 ∧ mr k = nI b ∧ ((mo k = -9 ∧ a ≠ 2 ∧ a ≠ 5) ∨ ∃ c : Nat, c ≤ 3 ∧ mo k = nI c ∧ (a = 2 ∨ a = 5)))
/-- the d-th past of a segment of the reference's row (the last one: what is now) -/
def snapR (row : Nat → Int32) (b0 dn d j : Nat) : Int32 := if d < dn then row (b0 + 10 + 9 * d + j) else row (b0 + 1 + j)
def okSnap (C : Nat) (s : Nat → Int32) : Prop := (∃ o : Nat, o < 2 ^ C ∧ s 0 = nI o) ∧ ∀ t, t < 4 → ∃ a b : Nat, a < b ∧ b ≤ 5 ∧ s (1 + 2 * t) = nI a ∧ s (2 + 2 * t) = nI b
def setBit (o : Int32) (k : Nat) (v : Int32) : Int32 := if v = 1 then o ||| ((1 : Int32) <<< (nI k &&& 31)) else o &&& (((1 : Int32) <<< (nI k &&& 31)) ^^^ (-1))
def I_stand (C : Nat) (so sd : Int32) (sb sp sw row : Nat → Int32) (b0 : Nat) : Prop :=
  so = row (b0 + 1) ∧ sd = row b0 ∧ (∀ b, b < 8 → sb b = row (b0 + 2 + b)) ∧ ∃ dn : Nat, dn ≤ 40 ∧ row b0 = nI dn ∧ (∀ d, d ≤ dn → okSnap C (snapR row b0 dn d)) ∧
    ∀ d, d < dn → (∃ q : Nat, q < 8 ∧ sp d = nI q ∧ sw d = snapR row b0 dn d (1 + q) ∧ ∀ j, j < 9 → j ≠ 1 + q → snapR row b0 dn d j = snapR row b0 dn (d + 1) j) ∨
      (∃ k : Nat, k < C ∧ sp d = nI (8 + k) ∧ (sw d = 0 ∨ sw d = 1) ∧ snapR row b0 dn d 0 = setBit (snapR row b0 dn (d + 1) 0) k (sw d) ∧ ∀ j, j < 9 → j ≠ 0 → snapR row b0 dn d j = snapR row b0 dn (d + 1) j)
def I_kept (C : Nat) (ki ko kd : Int32) (kb kp kw row : Nat → Int32) (b0 : Nat) : Prop := (ki = 0 ∧ row b0 = -1) ∨ (ki = 1 ∧ I_stand C ko kd kb kp kw row b0)
def cOf (n : xN) : Nat := (n.1 39 3).toNatClampNeg
def Inv (n : xN) : Prop :=
  I_con (n.1 1) (n.1 4) ∧ I_row 40 6 (n.1 3) (n.1 2) (n.1 45) (n.1 46) ∧ I_row 80 4 (n.1 6) (n.1 5) (n.1 47) (n.1 48) ∧
  I_find (n.1 0 9) (n.1 39 14) (n.1 38) (n.1 49) ∧ I_told (n.1 0 10) (n.1 39 11) (n.2 0 11) (n.2 39 12) (n.2 0 12) (n.2 39 13) ∧
  I_court (n.1 7 0) (n.1 7 1) (n.1 39 1) (n.1 39 3) (n.1 8) (n.1 9) (n.1 10) (n.1 11) (n.1 12) (n.1 41) (n.1 42) (n.1 43) (n.1 44) ∧ (∀ w, w < 5 → n.1 15 w = 0) ∧
  I_stand (cOf n) (n.1 19 1) (n.1 19 2) (n.1 20) (n.1 21) (n.1 22) (n.1 40) 0 ∧
  I_kept (cOf n) (n.1 24 0) (n.1 24 1) (n.1 24 2) (n.1 25) (n.1 26) (n.1 27) (n.1 40) 370 ∧
  I_kept (cOf n) (n.1 28 0) (n.1 28 1) (n.1 28 2) (n.1 29) (n.1 30) (n.1 31) (n.1 40) 740 ∧
  I_kept (cOf n) (n.1 32 0) (n.1 32 1) (n.1 32 2) (n.1 33) (n.1 34) (n.1 35) (n.1 40) 1110
/-- two calls, the class's and the reference's, that answer alike -/
def Op (fx fm : xN → Option (Int32 × xN)) : Prop := ∀ n, Inv n → ∃ r n1 n2, fx n = some (r, n1) ∧ fm n1 = some (r, n2) ∧ Inv n2
def OpP (fx fm : xN → Option Int32) : Prop := ∀ n, Inv n → ∃ r, fx n = some r ∧ fm n = some r
def OpL (fx fm : xN → Option Int64) : Prop := ∀ n, Inv n → ∃ r, fx n = some r ∧ fm n = some r
def OpX (fx : xN → Option (Int32 × xN)) (fm : xN → Option Int32) : Prop := ∀ n, Inv n → ∃ r n1, fx n = some (r, n1) ∧ fm n1 = some r ∧ Inv n1
/-- a FINDING, on each side -/
def cF (n : xN) (f : Nat) : xN := mI (mI n 0 9 (nI f)) 38 f (n.1 38 f + 1)
def mF (n : xN) (f : Nat) : xN := mI (mI n 39 14 (nI f)) 49 f (n.1 49 f + 1)
theorem e_refuse (n : xN) {f : Nat} (h : f < 6) : f_X3_refuse (nI f) n = some (-3, cF n f) := by
  unfold f_X3_refuse cF
  rw [gdl_nI (by omega) h, gdl_nI (by omega) h, gdl0, nI_clamp (by omega), mI1, if_neg (by decide)]
theorem e_find (n : xN) {f : Nat} (h : f < 6) : f_X4_find (nI f) n = some (-3, mF n f) := by
  unfold f_X4_find mF
  rw [gdl_nI (by omega) h, gdl_nI (by omega) h, gdl0, nI_clamp (by omega), mI1, if_neg (by decide)]
theorem Inv_F {n : xN} {f : Nat} (hf : f < 6) (h : Inv n) : Inv (mF (cF n f) f) := by
  obtain ⟨h1, h2, h3, h4, h5, h6, h7, h8, h9, h10, h11⟩ := h
  unfold Inv cOf at *
  simp only [mF, cF, mI1, mI2, reduceIte, Nat.reduceEqDiff] at *
  refine ⟨h1, h2, h3, ⟨by simp [upd], fun g hg => ?_⟩, by simpa [upd] using h5, by simpa [upd] using h6, h7, by simpa [upd] using h8, by simpa [upd] using h9, by simpa [upd] using h10, by simpa [upd] using h11⟩
  simp only [upd]
  rw [h4.2 f hf, h4.2 g hg]
/-- n places from lo on are v -/
def fillF (n : xN) (a lo hi : Nat) (v : Int32) : xN := (va_up n.1 a (fun j => if lo ≤ j ∧ j < hi then v else n.1 a j), n.2)
theorem fillF1 {n : xN} {a b lo hi : Nat} {v : Int32} : (fillF n a lo hi v).1 b = if b = a then (fun j => if lo ≤ j ∧ j < hi then v else n.1 a j) else n.1 b := by simp [fillF, va_up]
theorem fillF2 {n : xN} {a lo hi : Nat} {v : Int32} : (fillF n a lo hi v).2 = n.2 := rfl
theorem fillF_0 (n : xN) (a lo : Nat) (v : Int32) : fillF n a lo lo v = n := by
  unfold fillF
  refine Prod.ext (funext fun b => funext fun j => ?_) rfl
  simp only [va_up]
  split
  · rename_i h; subst h; exact if_neg (by omega)
  · rfl
theorem fillF_s (n : xN) (a lo hi : Nat) (v : Int32) (h : lo ≤ hi) : mI (fillF n a lo hi v) a hi v = fillF n a lo (hi + 1) v := by
  unfold fillF mI
  refine Prod.ext (funext fun b => funext fun j => ?_) rfl
  simp only [va_up]
  by_cases hb : b = a
  · simp only [hb, reduceIte]
    by_cases hj : j = hi
    · subst hj; rw [upd_s, if_pos (by omega)]
    · rw [upd_o hj]
      by_cases h3 : lo ≤ j ∧ j < hi
      · rw [if_pos h3, if_pos (by omega)]
      · rw [if_neg h3, if_neg (by omega)]
  · simp only [hb, reduceIte]
theorem I_row_new {W K : Nat} (hW : W = 40 ∨ W = 80) {xs xc ms mc : Nat → Int32} (h : I_row W K xs xc ms mc) {r k : Nat} (hr : r < K) (hk : k ≤ W) (v : Int32) : I_row W K (upd xs r (nI k)) (fun j => if W * r ≤ j ∧ j < W * r + k then v else xc j) (upd ms r (nI k)) (fun j => if W * r ≤ j ∧ j < W * r + W then v else mc j) := by
  intro q hq
  by_cases e : q = r
  · subst e
    rw [upd_s, upd_s]
    have hb : (nI k).toInt = k := nI_toInt (by omega)
    refine ⟨rfl, by omega, by omega, fun i hi => ?_⟩
    dsimp only
    rw [if_pos (by omega), if_pos (by omega)]
  · rw [upd_o e, upd_o e]
    obtain ⟨a, b, c, d⟩ := h q hq
    refine ⟨a, b, c, fun i hi => ?_⟩
    have : ¬ (W * r ≤ W * q + i ∧ W * q + i < W * r + W) := by
      rcases hW with rfl | rfl <;> omega
    dsimp only
    rw [if_neg (by omega), if_neg this]
    exact d i hi
theorem I_row_put {W K : Nat} (hW : W = 40 ∨ W = 80) {xs xc ms mc : Nat → Int32} (h : I_row W K xs xc ms mc) (p : Nat) (v : Int32) : I_row W K xs (upd xc p v) ms (upd mc p v) := by
  intro q hq
  obtain ⟨a, b, c, d⟩ := h q hq
  refine ⟨a, b, c, fun i hi => ?_⟩
  by_cases e : W * q + i = p
  · rw [e, upd_s, upd_s]
  · rw [upd_o e, upd_o e]
    exact d i hi
theorem I_row_del {W K : Nat} {xs xc ms mc : Nat → Int32} (h : I_row W K xs xc ms mc) (r : Nat) : I_row W K (upd xs r (-1)) xc (upd ms r (-1)) mc := by
  intro q hq
  obtain ⟨a, b, c, d⟩ := h q hq
  by_cases e : q = r
  · subst e
    rw [upd_s, upd_s]
    have hm : (-1 : Int32).toInt = -1 := by decide
    exact ⟨rfl, by omega, by omega, fun i hi => absurd hi (by omega)⟩
  · rw [upd_o e, upd_o e]
    exact ⟨a, b, c, d⟩
