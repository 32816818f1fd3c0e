/-! ===== deeds: what is kept of them ===== -/
theorem snap_c {row row' : Nat → Int32} {b0 b0' dn d j : Nat} (h : ∀ i, i < 370 → row' (b0' + i) = row (b0 + i)) (hd : dn ≤ 40) (hj : j < 9) : snapR row' b0' dn d j = snapR row b0 dn d j := by
  unfold snapR
  split
  · have := h (10 + 9 * d + j) (by omega)
    rw [show b0' + 10 + 9 * d + j = b0' + (10 + 9 * d + j) by omega, show b0 + 10 + 9 * d + j = b0 + (10 + 9 * d + j) by omega]
    exact this
  · have := h (1 + j) (by omega)
    rw [show b0' + 1 + j = b0' + (1 + j) by omega, show b0 + 1 + j = b0 + (1 + j) by omega]
    exact this
theorem okS_c {C : Nat} {s s' : Nat → Int32} (h : ∀ j, j < 9 → s' j = s j) (hs : okSnap C s) : okSnap C s' := by
  obtain ⟨a, b⟩ := hs
  refine ⟨by rw [h 0 (by omega)]; exact a, fun t ht => ?_⟩
  obtain ⟨x, y, h1, h2, h3, h4⟩ := b t ht
  exact ⟨x, y, h1, h2, by rw [h _ (by omega)]; exact h3, by rw [h _ (by omega)]; exact h4⟩
theorem IS_c {C : Nat} {so so' sd sd' : Int32} {sb sb' sp sp' sw sw' row row' : Nat → Int32} {b0 b0' : Nat} (h : ∀ i, i < 370 → row' (b0' + i) = row (b0 + i)) (eo : so' = so) (ed : sd' = sd) (eb : ∀ b, b < 8 → sb' b = sb b) (ep : ∀ d, d < 40 → sp' d = sp d) (ew : ∀ d, d < 40 → sw' d = sw d) (hs : I_stand C so sd sb sp sw row b0) : I_stand C so' sd' sb' sp' sw' row' b0' := by
  obtain ⟨h1, h2, h3, dn, hdn, e0, hok, hh⟩ := hs
  have r0 : row' b0' = row b0 := h 0 (by omega)
  refine ⟨by rw [eo, h1, h 1 (by omega)], by rw [ed, h2, r0], fun b hb => by rw [eb b hb, h3 b hb]; have := h (2 + b) (by omega); rw [show b0' + 2 + b = b0' + (2 + b) by omega, show b0 + 2 + b = b0 + (2 + b) by omega, this], dn, hdn, by rw [r0, e0], fun d hd => okS_c (fun j hj => snap_c h hdn hj) (hok d hd), fun d hd => ?_⟩
  rcases hh d hd with ⟨q, hq, a, b, c⟩ | ⟨k, hk, a, b, c, e⟩
  · refine Or.inl ⟨q, hq, by rw [ep d (by omega), a], by rw [ew d (by omega), b, snap_c h hdn (by omega)], fun j hj hne => ?_⟩
    rw [snap_c h hdn hj, snap_c h hdn hj, c j hj hne]
  · refine Or.inr ⟨k, hk, by rw [ep d (by omega), a], by rw [ew d (by omega)]; exact b, ?_, fun j hj hne => ?_⟩
    · rw [snap_c h hdn (by omega), snap_c h hdn (by omega), ew d (by omega), c]
    · rw [snap_c h hdn hj, snap_c h hdn hj, e j hj hne]
theorem IK_c {C : Nat} {ki ko kd : Int32} {kb kp kw row row' : Nat → Int32} {b0 : Nat} (h : ∀ i, i < 370 → row' (b0 + i) = row (b0 + i)) (hk : I_kept C ki ko kd kb kp kw row b0) : I_kept C ki ko kd kb kp kw row' b0 := by
  rcases hk with ⟨a, b⟩ | ⟨a, b⟩
  · exact Or.inl ⟨a, by have := h 0 (by omega); rw [Nat.add_zero] at this; rw [this, b]⟩
  · exact Or.inr ⟨a, IS_c h rfl rfl (fun _ _ => rfl) (fun _ _ => rfl) (fun _ _ => rfl) b⟩
/-- a deed more -/
theorem IS_deed {C : Nat} {so sd : Int32} {sb sp sw row : Nat → Int32} (hs : I_stand C so sd sb sp sw row 0) {dn : Nat} (e0 : row 0 = nI dn) (hd : dn < 40) {so' : Int32} {sb' sp' sw' row' : Nat → Int32}
    (r0 : row' 0 = nI (dn + 1)) (r1 : ∀ d, d < dn → ∀ j, j < 9 → row' (10 + 9 * d + j) = row (10 + 9 * d + j)) (r2 : ∀ j, j < 9 → row' (10 + 9 * dn + j) = row (1 + j)) (eo : so' = row' 1) (eb : ∀ b, b < 8 → sb' b = row' (2 + b)) (ep : ∀ d, d < dn → sp' d = sp d) (ew : ∀ d, d < dn → sw' d = sw d) (hok : okSnap C (fun j => row' (1 + j)))
    (hr : (∃ q : Nat, q < 8 ∧ sp' dn = nI q ∧ sw' dn = row (1 + (1 + q)) ∧ ∀ j, j < 9 → j ≠ 1 + q → row (1 + j) = row' (1 + j)) ∨ (∃ k : Nat, k < C ∧ sp' dn = nI (8 + k) ∧ (sw' dn = 0 ∨ sw' dn = 1) ∧ row 1 = setBit (row' 1) k (sw' dn) ∧ ∀ j, j < 9 → j ≠ 0 → row (1 + j) = row' (1 + j))) :
    I_stand C so' (nI (dn + 1)) sb' sp' sw' row' 0 := by
  obtain ⟨h1, h2, h3, dn', hdn, e0', hok0, hh⟩ := hs
  have ed : dn' = dn := (nI_eq (by omega) (by omega)).mp (e0'.symm.trans e0)
  subst ed
  have sA : ∀ d, d ≤ dn' → ∀ j, j < 9 → snapR row' 0 (dn' + 1) d j = snapR row 0 dn' d j := by
    intro d hd1 j hj
    unfold snapR
    rw [if_pos (by omega)]
    by_cases z : d < dn'
    · rw [if_pos z, show 0 + 10 + 9 * d + j = 10 + 9 * d + j by omega, r1 d z j hj]
    · rw [if_neg z, show 0 + 10 + 9 * d + j = 10 + 9 * dn' + j by omega, r2 j hj, show 0 + 1 + j = 1 + j by omega]
  have sB : ∀ j, snapR row' 0 (dn' + 1) (dn' + 1) j = row' (1 + j) := by
    intro j
    unfold snapR
    rw [if_neg (by omega), show 0 + 1 + j = 1 + j by omega]
  have sN : ∀ j, snapR row 0 dn' dn' j = row (1 + j) := by
    intro j
    unfold snapR
    rw [if_neg (by omega), show 0 + 1 + j = 1 + j by omega]
  refine ⟨eo, r0.symm, fun b hb => by rw [eb b hb, show 0 + 2 + b = 2 + b by omega], dn' + 1, by omega, r0, fun d hd1 => ?_, fun d hd1 => ?_⟩
  · by_cases z : d ≤ dn'
    · exact okS_c (fun j hj => sA d z j hj) (hok0 d z)
    · have : d = dn' + 1 := by omega
      subst this
      exact okS_c (fun j _ => sB j) hok
  · by_cases z : d < dn'
    · rcases hh d z with ⟨q, hq, a, b, c⟩ | ⟨k, hk, a, b, c, e⟩
      · exact Or.inl ⟨q, hq, by rw [ep d z, a], by rw [ew d z, b, sA d (by omega) _ (by omega)], fun j hj hne => by rw [sA d (by omega) j hj, sA (d + 1) (by omega) j hj, c j hj hne]⟩
      · exact Or.inr ⟨k, hk, by rw [ep d z, a], by rw [ew d z]; exact b, by rw [sA d (by omega) 0 (by omega), sA (d + 1) (by omega) 0 (by omega), ew d z, c], fun j hj hne => by rw [sA d (by omega) j hj, sA (d + 1) (by omega) j hj, e j hj hne]⟩
    · have : d = dn' := by omega
      subst this
      rcases hr with ⟨q, hq, a, b, c⟩ | ⟨k, hk, a, b, c, e⟩
      · exact Or.inl ⟨q, hq, a, by rw [b, sA d (Nat.le_refl _) _ (by omega), sN], fun j hj hne => by rw [sA d (Nat.le_refl _) j hj, sB, sN, c j hj hne]⟩
      · exact Or.inr ⟨k, hk, a, b, by rw [sA d (Nat.le_refl _) 0 (by omega), sB, sN, c], fun j hj hne => by rw [sA d (Nat.le_refl _) j hj, sB, sN, e j hj hne]⟩
/-- what the deeds change is all that is new -/
theorem Inv_dd {n m : xN} (h : Inv n) (e : ∀ b, (b ≤ 12 ∨ b = 15 ∨ (23 ≤ b ∧ b ≤ 35) ∨ b = 38 ∨ (41 ≤ b ∧ b ≤ 49)) → m.1 b = n.1 b) (e39 : ∀ k, (k = 1 ∨ k = 3 ∨ k = 11 ∨ k = 14) → m.1 39 k = n.1 39 k) (e2 : m.2 = n.2) (er : ∀ p, 370 ≤ p → m.1 40 p = n.1 40 p) (hs : I_stand (cOf n) (m.1 19 1) (m.1 19 2) (m.1 20) (m.1 21) (m.1 22) (m.1 40) 0) : Inv m := by
  unfold Inv cOf at *
  obtain ⟨h1, h2, h3, h4, h5, h6, h7, h8, h9, h10, h11⟩ := h
  rw [e2, e39 1 (by simp), e39 3 (by simp), e39 11 (by simp), e39 14 (by simp), e 0 (by simp), e 1 (by simp), e 2 (by simp), e 3 (by simp), e 4 (by simp), e 5 (by simp), e 6 (by simp), e 7 (by simp), e 8 (by simp), e 9 (by simp), e 10 (by simp), e 11 (by simp), e 12 (by simp), e 15 (by simp), e 24 (by simp), e 25 (by simp), e 26 (by simp), e 27 (by simp), e 28 (by simp), e 29 (by simp), e 30 (by simp), e 31 (by simp), e 32 (by simp), e 33 (by simp), e 34 (by simp), e 35 (by simp), e 38 (by simp), e 41 (by simp), e 42 (by simp), e 43 (by simp), e 44 (by simp), e 45 (by simp), e 46 (by simp), e 47 (by simp), e 48 (by simp), e 49 (by simp)]
  exact ⟨h1, h2, h3, h4, h5, h6, h7, hs, IK_c (fun i _ => er _ (by omega)) h9, IK_c (fun i _ => er _ (by omega)) h10, IK_c (fun i _ => er _ (by omega)) h11⟩
/-- the reference keeps the past -/
def kpI (m : xN) (dn i : Nat) : xN := (va_up m.1 40 (fun p => if 10 + 9 * dn ≤ p ∧ p < 10 + 9 * dn + i then m.1 40 (p - (9 + 9 * dn)) else m.1 40 p), m.2)
theorem kpI1 {m : xN} {dn i b : Nat} : (kpI m dn i).1 b = if b = 40 then (fun p => if 10 + 9 * dn ≤ p ∧ p < 10 + 9 * dn + i then m.1 40 (p - (9 + 9 * dn)) else m.1 40 p) else m.1 b := by simp [kpI, va_up]
theorem kpI_0 (m : xN) (dn : Nat) : kpI m dn 0 = m := by
  refine Prod.ext (funext fun b => ?_) rfl
  rw [kpI1]
  split
  · rename_i h; subst h
    funext p
    rw [if_neg (by omega)]
  · rfl
theorem kpI_s (m : xN) (dn : Nat) {i : Nat} (hi : i < 9) : mI (kpI m dn i) 40 (10 + 9 * dn + i) ((kpI m dn i).1 40 (1 + i)) = kpI m dn (i + 1) := by
  refine Prod.ext (funext fun b => ?_) rfl
  rw [mI1, kpI1, kpI1]
  by_cases h : b = 40
  · subst h
    rw [if_pos rfl, if_pos rfl, kpI1, if_pos rfl]
    funext p
    by_cases hp : p = 10 + 9 * dn + i
    · subst hp
      rw [upd_s, if_neg (by omega), if_pos (by omega), show 10 + 9 * dn + i - (9 + 9 * dn) = 1 + i by omega]
    · rw [upd_o hp]
      by_cases h3 : 10 + 9 * dn ≤ p ∧ p < 10 + 9 * dn + i
      · rw [if_pos h3, if_pos (by omega)]
      · rw [if_neg h3, if_neg (by omega)]
  · rw [if_neg h, if_neg h, kpI1, if_neg h]
theorem tn0 : Int32.toNatClampNeg 0 = 0 := by decide
theorem tn1 : Int32.toNatClampNeg 1 = 1 := by decide
theorem ib0 : inb 0 1480 = true := by decide
theorem ib1 : inb 1 1480 = true := by decide
theorem e_keepPast (N : Nat) (hN : 100 ≤ N) (m : xN) {dn : Nat} (e0 : m.1 40 0 = nI dn) (hd : dn < 40) : f_X4_keepPast N m = some (mI (kpI m dn 9) 40 0 (nI (dn + 1))) := by
  unfold f_X4_keepPast
  have r0 : ∀ i, (kpI m dn i).1 40 0 = nI dn := fun i => by rw [kpI1, if_pos rfl, if_neg (by omega), e0]
  have key := eq_forG (rc := f_X4_keepPast_L2 N) (body := f_X4_keepPast_L2b N) (fun f i (u : xN) => f i u) (fun _ => rfl) 0 9 (fun i => kpI m dn i) (some (mI (kpI m dn 9) 40 0 (nI (dn + 1)))) ?_ ?_ N 0 (Nat.le_refl _) (Nat.zero_le _) (by omega)
  · have k2 : f_X4_keepPast_L2 N N 0 (kpI m dn 0) = _ := key
    rw [kpI_0] at k2
    exact k2
  · intro f i _ hi
    show f_X4_keepPast_L2b N f (nI i) (kpI m dn i) = f (nI (i + 1)) (kpI m dn (i + 1))
    have ix : (10 : Int32) + (9 : Int32) * nI dn + nI i = nI (10 + 9 * dn + i) := by rw [show (10 : Int32) = nI 10 from rfl, show (9 : Int32) = nI 9 from rfl, pk_mul, nI_add, nI_add]
    have i1 : (1 : Int32) + nI i = nI (1 + i) := by rw [show (1 : Int32) = nI 1 from rfl, nI_add]
    unfold f_X4_keepPast_L2b
    rw [if_neg (by rw [show (9 : Int32) = nI 9 from rfl, nI_leI (by omega) (by omega)]; omega), tn0, r0, ix, i1, gdlT ib0, gdl_nI (by omega) (by omega), gdl_nI (by omega) (by omega), gdl0, nI_clamp (by omega), nI_clamp (by omega), kpI_s m dn hi, nI_1]
  · intro f
    show f_X4_keepPast_L2b N f (nI 9) (kpI m dn 9) = _
    unfold f_X4_keepPast_L2b
    rw [if_pos (by decide), tn0, gdlT ib0, gdlT ib0, gdl0, r0, nI_1]
theorem Dn_of {n : xN} (h : Inv n) : ∃ dn : Nat, dn ≤ 40 ∧ n.1 40 0 = nI dn ∧ n.1 19 2 = nI dn := by
  obtain ⟨-, -, -, -, -, -, -, ⟨h1, h2, h3, dn, hdn, e0, -⟩, -⟩ := h
  exact ⟨dn, hdn, e0, by rw [h2, e0]⟩
theorem cOf_c {n : xN} {T C : Nat} (hc : Crt n T C) : cOf n = C := by
  unfold cOf
  have := hc.2.1
  rw [hc.2.2.2.2.1, nI_clamp (by omega)]
/-- the class notes a deed -/
def ntF (u : xN) (dn : Nat) (p w : Int32) : xN := mI (mI (mI u 21 dn p) 22 dn w) 19 2 (nI (dn + 1))
theorem e_note (u : xN) {dn : Nat} (e : u.1 19 2 = nI dn) (hd : dn < 40) (p w : Int32) : f_X2_noteDeed_19 p w u = some (ntF u dn p w) := by
  unfold f_X2_noteDeed_19 ntF
  have e1 : (mI u 21 dn p).1 19 2 = nI dn := by rw [mI1, if_neg (by decide), e]
  have e2 : (mI (mI u 21 dn p) 22 dn w).1 19 2 = nI dn := by rw [mI1, if_neg (by decide), e1]
  rw [e, nI_clamp (by omega), e1, nI_clamp (by omega), e2, gdl_nI (by omega) hd, gdl_nI (by omega) hd, gdl0, nI_1]
