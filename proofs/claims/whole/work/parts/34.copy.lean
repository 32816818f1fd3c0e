/-! ===== copy and mean ===== -/
def cpR (n : xN) (s d lo hi : Nat) : xN := (va_up n.1 46 (fun p => if d + lo ≤ p ∧ p < d + hi then n.1 46 (s + (p - d)) else n.1 46 p), n.2)
theorem cpR1 {n : xN} {b s d lo hi : Nat} : (cpR n s d lo hi).1 b = if b = 46 then (fun p => if d + lo ≤ p ∧ p < d + hi then n.1 46 (s + (p - d)) else n.1 46 p) else n.1 b := by simp [cpR, va_up]
theorem cpR_0 (n : xN) (s d k : Nat) : cpR n s d k k = n := by
  unfold cpR
  refine Prod.ext (funext fun b => funext fun j => ?_) rfl
  simp only [va_up]
  split
  · rename_i h; subst h; exact if_neg (by omega)
  · rfl
theorem cpR_f (n : xN) (s d k : Nat) (h : ¬ (d ≤ s + k ∧ s + k < d + k)) : mI (cpR n s d 0 k) 46 (d + k) ((cpR n s d 0 k).1 46 (s + k)) = cpR n s d 0 (k + 1) := by
  unfold cpR mI
  refine Prod.ext (funext fun b => funext fun p => ?_) rfl
  simp only [va_up]
  by_cases hb : b = 46
  · simp only [hb, reduceIte]
    by_cases hp : p = d + k
    · subst hp
      rw [upd_s, if_neg (by omega), if_pos (by omega), show d + k - d = k by omega]
    · rw [upd_o hp]
      by_cases h3 : d + 0 ≤ p ∧ p < d + k
      · rw [if_pos h3, if_pos (by omega)]
      · rw [if_neg h3, if_neg (by omega)]
  · simp only [hb, reduceIte]
theorem cpR_b (n : xN) (s d c k : Nat) (hk : k < c) (h : ¬ (d + (c - k) ≤ s + (c - 1 - k) ∧ s + (c - 1 - k) < d + c)) : mI (cpR n s d (c - k) c) 46 (d + (c - 1 - k)) ((cpR n s d (c - k) c).1 46 (s + (c - 1 - k))) = cpR n s d (c - (k + 1)) c := by
  unfold cpR mI
  refine Prod.ext (funext fun b => funext fun p => ?_) rfl
  simp only [va_up]
  by_cases hb : b = 46
  · simp only [hb, reduceIte]
    by_cases hp : p = d + (c - 1 - k)
    · subst hp
      rw [upd_s, if_neg h, if_pos (by omega), show d + (c - 1 - k) - d = c - 1 - k by omega]
    · rw [upd_o hp]
      by_cases h3 : d + (c - k) ≤ p ∧ p < d + c
      · rw [if_pos h3, if_pos (by omega)]
      · rw [if_neg h3, if_neg (by omega)]
  · simp only [hb, reduceIte]
theorem ix40 {r i t : Nat} : ((40 : Int32) * nI r + nI i) + nI t = nI (40 * r + i + t) := by
  have z : (40 : Int32) = nI 40 := rfl
  rw [z, pk_mul, nI_add, nI_add]
theorem e_copyF (N : Nat) (hN : 400 ≤ N) (n : xN) {r i t j c : Nat} (hr : r < 6) (ht : t < 6) (hi : i + c ≤ 40) (hj : j + c ≤ 40) (h : r = t → j ≤ i) : f_X4_copy_L96 N N (nI r) (nI i) (nI t) (nI j) (nI c) 0 0 n = some (1, cpR n (40 * r + i) (40 * t + j) 0 c) := by
  have key := eq_for (rc := fun k i' s => f_X4_copy_L96 N k (nI r) (nI i) (nI t) (nI j) (nI c) 0 i' s) (body := fun k i' s => f_X4_copy_L96b N (fun _ _ _ _ _ _ a b => k a b) (nI r) (nI i) (nI t) (nI j) (nI c) 0 i' s) (fun _ _ _ => rfl) 0 c (fun k => cpR n (40 * r + i) (40 * t + j) 0 k) (some (1, cpR n (40 * r + i) (40 * t + j) 0 c)) ?_ ?_ N 0 (Nat.le_refl _) (by omega) (by omega)
  · rw [cpR_0] at key; exact key
  · intro k q _ hq
    unfold f_X4_copy_L96b f_X4_copy_L120
    rw [if_neg (by rw [nI_leI (by omega) (by omega)]; omega), if_pos rfl, ix40, ix40, gdl_nI (by omega) (by omega), gdl_nI (by omega) (by omega), gdl0, nI_clamp (by omega), nI_clamp (by omega), nI_1, cpR_f _ _ _ _ (by by_cases e : r = t <;> omega)]
  · intro k
    unfold f_X4_copy_L96b
    exact if_pos (by rw [nI_leI (by omega) (by omega)]; omega)
theorem e_copyB (N : Nat) (hN : 400 ≤ N) (n : xN) {r i t j c : Nat} (hr : r < 6) (ht : t < 6) (hi : i + c ≤ 40) (hj : j + c ≤ 40) (h : r = t → i ≤ j) : f_X4_copy_L96 N N (nI r) (nI i) (nI t) (nI j) (nI c) 1 0 n = some (1, cpR n (40 * r + i) (40 * t + j) 0 c) := by
  have key := eq_for (rc := fun k i' s => f_X4_copy_L96 N k (nI r) (nI i) (nI t) (nI j) (nI c) 1 i' s) (body := fun k i' s => f_X4_copy_L96b N (fun _ _ _ _ _ _ a b => k a b) (nI r) (nI i) (nI t) (nI j) (nI c) 1 i' s) (fun _ _ _ => rfl) 0 c (fun k => cpR n (40 * r + i) (40 * t + j) (c - k) c) (some (1, cpR n (40 * r + i) (40 * t + j) 0 c)) ?_ ?_ N 0 (Nat.le_refl _) (by omega) (by omega)
  · rw [show c - 0 = c from rfl, cpR_0] at key; exact key
  · intro k q _ hq
    unfold f_X4_copy_L96b f_X4_copy_L120
    have e1 : (nI c - 1) - nI q = nI (c - 1 - q) := by
      rw [show (1 : Int32) = nI 1 from rfl, pk_sub (by omega), pk_sub (by omega)]
    rw [if_neg (by rw [nI_leI (by omega) (by omega)]; omega), if_neg (by decide), e1, ix40, ix40, gdl_nI (by omega) (by omega), gdl_nI (by omega) (by omega), gdl0, nI_clamp (by omega), nI_clamp (by omega), nI_1, cpR_b _ _ _ _ _ hq (by by_cases e : r = t <;> omega)]
  · intro k
    unfold f_X4_copy_L96b
    rw [if_pos (by rw [nI_leI (by omega) (by omega)]; omega), Nat.sub_self]
theorem e_isSpan (n : xN) {r : Nat} (hr : r < 6) (i c : Int32) : f_X4_isSpan (nI r) i c n = some (bI (0 ≤ i.toInt ∧ i.toInt + c.toInt ≤ (n.1 45 r).toInt)) := by
  unfold f_X4_isSpan f_X4_isSpan_L24 f_X4_isSpan_L25
  rw [gdl_nI (by omega) hr, gdl0, nI_clamp (by omega)]
  have e : ((Int32.toInt64 i) + (Int32.toInt64 c)).toInt = i.toInt + c.toInt := by
    have a1 := i32_lo i; have a2 := i32_hi i; have a3 := i32_lo c; have a4 := i32_hi c
    rw [Int64.toInt_add, i64_of, i64_of, Int.bmod_eq_of_le] <;> omega
  simp only [lg_cmp_gt, Int64.lt_iff_toInt_lt, e, i64_of]
  simp only [i32_lt, z0]
  by_cases h1 : i.toInt < 0
  · rw [if_pos h1, bI_f (by omega)]; rfl
  · rw [if_neg h1]
    by_cases h2 : (n.1 45 r).toInt < i.toInt + c.toInt
    · rw [if_pos h2, bI_f (by omega)]; rfl
    · rw [if_neg h2, bI_t (by omega)]; rfl
theorem I_row_cp {xs xc ms mc : Nat → Int32} (h : I_row 40 6 xs xc ms mc) {r i t j c : Nat} (hr : r < 6) (ht : t < 6) (hi : (i : Int) + c ≤ (ms r).toInt) (hj : (j : Int) + c ≤ (ms t).toInt) : I_row 40 6 xs (va_cpy xc xc (40 * r + i) (40 * t + j) c) ms (fun p => if 40 * t + j + 0 ≤ p ∧ p < 40 * t + j + c then mc (40 * r + i + (p - (40 * t + j))) else mc p) := by
  intro q hq
  obtain ⟨a, b, e, d⟩ := h q hq
  refine ⟨a, b, e, fun k hk => ?_⟩
  obtain ⟨_, _, e2, d2⟩ := h r hr
  obtain ⟨_, _, e3, d3⟩ := h t ht
  simp only [va_cpy]
  by_cases hp : 40 * t + j + 0 ≤ 40 * q + k ∧ 40 * q + k < 40 * t + j + c
  · rw [if_pos hp, if_pos (by omega)]
    have hk2 : 40 * r + i + (40 * q + k - (40 * t + j)) = 40 * r + (i + (40 * q + k - (40 * t + j))) := by omega
    rw [hk2]
    exact d2 _ (by omega)
  · rw [if_neg hp, if_neg (by omega)]
    exact d k hk
set_option maxHeartbeats 2000000 in
theorem op_copy (N : Nat) (hN : 400 ≤ N) (a i b j c : Int32) : Op (f_X3_copy a i b j c) (f_X4_copy N a i b j c) := by
  intro n h
  obtain ⟨h1, h2, h3, h4, h5, h6, h7, h8, h9, h10, h11⟩ := id h
  by_cases ha : 0 ≤ a.toInt ∧ a.toInt < 6
  · by_cases hb : 0 ≤ b.toInt ∧ b.toInt < 6
    · have ha' : 0 ≤ a.toInt ∧ a.toInt ≤ 5 := by omega
      have hb' : 0 ≤ b.toInt ∧ b.toInt ≤ 5 := by omega
      by_cases hc : 0 ≤ c
      · obtain ⟨r, hr, rfl⟩ := i32_of ha.1 (k := 6) (by omega)
        obtain ⟨t, ht, rfl⟩ := i32_of hb.1 (k := 6) (by omega)
        obtain ⟨s1, s2, s3, s4⟩ := h2 r hr
        obtain ⟨u1, u2, u3, u4⟩ := h2 t ht
        by_cases hs : 0 ≤ (n.1 45 r).toInt
        · by_cases hu : 0 ≤ (n.1 45 t).toInt
          · have hs' : ¬ n.1 45 r < 0 := by rw [i32_lt, z0]; omega
            have hc' := (le0 _).mp hc
            by_cases k1 : 0 ≤ i.toInt ∧ i.toInt + c.toInt ≤ (n.1 45 r).toInt
            · by_cases k2 : 0 ≤ j.toInt ∧ j.toInt + c.toInt ≤ (n.1 45 t).toInt
              · obtain ⟨q, hq, rfl⟩ := i32_of hc' (k := 41) (by omega)
                obtain ⟨i', hi', rfl⟩ := i32_of k1.1 (k := 41) (by have := (nI_toInt (n := q) (by omega)); omega)
                obtain ⟨j', hj', rfl⟩ := i32_of k2.1 (k := 41) (by have := (nI_toInt (n := q) (by omega)); omega)
                have q1 := nI_toInt (n := q) (by omega)
                have q2 := nI_toInt (n := i') (by omega)
                have q3 := nI_toInt (n := j') (by omega)
                have z : (40 : Int32) = nI 40 := rfl
                have hcp : cpok (nI (40 * r + i')) (nI (40 * t + j')) (nI q) 240 240 = true := by
                  simp only [cpok, nI_toInt (show 40 * r + i' < 2 ^ 31 by omega), nI_toInt (show 40 * t + j' < 2 ^ 31 by omega), q1, Bool.and_eq_true, decide_eq_true_eq]
                  omega
                have hx : f_X3_copy (nI r) (nI i') (nI t) (nI j') (nI q) n = some (1, mCp n 2 2 (nI (40 * r + i')) (nI (40 * t + j')) (nI q)) := by
                  simp [f_X3_copy, e_isPlace1 n h1.1, bI_t ha, bI_t hb, hc, e_isThere1 n hr, e_isThere1 n ht, s1, u1, bI_t hs, bI_t hu, e_has1 n hr _ _ ⟨by rw [s1]; omega, by rw [s1]; omega⟩, e_has1 n ht _ _ ⟨by rw [u1]; omega, by rw [u1]; omega⟩, bI_t (show 0 ≤ (nI i').toInt ∧ 0 ≤ (nI q).toInt ∧ (nI i').toInt + (nI q).toInt ≤ (n.1 45 r).toInt by omega), bI_t (show 0 ≤ (nI j').toInt ∧ 0 ≤ (nI q).toInt ∧ (nI j').toInt + (nI q).toInt ≤ (n.1 45 t).toInt by omega), f_X1_moveStretch_1, h1.2.1, z, pk_mul, nI_add, Nat.mul_comm r 40, Nat.mul_comm t 40, gdlT hcp, gdl0]
                have hm : ∀ m : xN, m.1 45 = n.1 45 → f_X4_copy N (nI r) (nI i') (nI t) (nI j') (nI q) m = some (1, cpR m (40 * r + i') (40 * t + j') 0 q) := by
                  intro m em
                  by_cases hji : nI j' ≤ nI i'
                  · have := (nI_leI (by omega) (by omega)).mp hji
                    simp [f_X4_copy, e_isRow, bI_t ha', bI_t hb', hc, gdl_nI (show r < 2 ^ 31 by omega) hr, gdl_nI (show t < 2 ^ 31 by omega) ht, gdl0, nI_clamp (show r < 2 ^ 31 by omega), nI_clamp (show t < 2 ^ 31 by omega), em, hs', (le0 _).mpr hu, e_isSpan m hr, e_isSpan m ht, bI_t k1, bI_t k2, hji, f_X4_copy_L91, e_copyF N hN m hr ht (show i' + q ≤ 40 by omega) (show j' + q ≤ 40 by omega) (fun _ => this)]
                  · have : ¬ j' ≤ i' := fun q => hji ((nI_leI (by omega) (by omega)).mpr q)
                    simp [f_X4_copy, e_isRow, bI_t ha', bI_t hb', hc, gdl_nI (show r < 2 ^ 31 by omega) hr, gdl_nI (show t < 2 ^ 31 by omega) ht, gdl0, nI_clamp (show r < 2 ^ 31 by omega), nI_clamp (show t < 2 ^ 31 by omega), em, hs', (le0 _).mpr hu, e_isSpan m hr, e_isSpan m ht, bI_t k1, bI_t k2, hji, f_X4_copy_L91, e_copyB N hN m hr ht (show i' + q ≤ 40 by omega) (show j' + q ≤ 40 by omega) (fun _ => by omega)]
                refine Op_mk hx (hm _ (by simp [mCp, va_up])) rfl ?_
                unfold Inv cOf at *
                simp only [cpR1, mCp, va_up, reduceIte, Nat.reduceEqDiff, cpR, nI_clamp (show 40 * r + i' < 2 ^ 31 by omega), nI_clamp (show 40 * t + j' < 2 ^ 31 by omega), nI_clamp (show q < 2 ^ 31 by omega)] at *
                exact ⟨h1, I_row_cp h2 hr ht (by omega) (by omega), h3, h4, h5, h6, h7, h8, h9, h10, h11⟩
              · refine ⟨-3, cF n 2, mF (cF n 2) 2, ?_, ?_, Inv_F (by decide) h⟩
                · simp [f_X3_copy, f_X3_copy_L92, e_isPlace1 n h1.1, bI_t ha, bI_t hb, hc, e_isThere1 n hr, e_isThere1 n ht, s1, u1, bI_t hs, bI_t hu, e_has1 n hr _ _ ⟨by rw [s1]; omega, by rw [s1]; omega⟩, e_has1 n ht _ _ ⟨by rw [u1]; omega, by rw [u1]; omega⟩, bI_t (show 0 ≤ i.toInt ∧ 0 ≤ c.toInt ∧ i.toInt + c.toInt ≤ (n.1 45 r).toInt by omega), bI_f (show ¬ (0 ≤ j.toInt ∧ 0 ≤ c.toInt ∧ j.toInt + c.toInt ≤ (n.1 45 t).toInt) by omega), e_refuse2]
                · have em : (cF n 2).1 45 = n.1 45 := cF1 (by decide) (by decide)
                  simp [f_X4_copy, f_X4_copy_L74, e_isRow, bI_t ha', bI_t hb', hc, gdl_nI (show r < 2 ^ 31 by omega) hr, gdl_nI (show t < 2 ^ 31 by omega) ht, gdl0, nI_clamp (show r < 2 ^ 31 by omega), nI_clamp (show t < 2 ^ 31 by omega), em, hs', (le0 _).mpr hu, e_isSpan _ hr, e_isSpan _ ht, bI_t k1, bI_f k2, e_find2]
            · refine ⟨-3, cF n 2, mF (cF n 2) 2, ?_, ?_, Inv_F (by decide) h⟩
              · simp [f_X3_copy, f_X3_copy_L92, e_isPlace1 n h1.1, bI_t ha, bI_t hb, hc, e_isThere1 n hr, e_isThere1 n ht, s1, u1, bI_t hs, bI_t hu, e_has1 n hr _ _ ⟨by rw [s1]; omega, by rw [s1]; omega⟩, bI_f (show ¬ (0 ≤ i.toInt ∧ 0 ≤ c.toInt ∧ i.toInt + c.toInt ≤ (n.1 45 r).toInt) by omega), e_refuse2]
              · have em : (cF n 2).1 45 = n.1 45 := cF1 (by decide) (by decide)
                simp [f_X4_copy, f_X4_copy_L74, e_isRow, bI_t ha', bI_t hb', hc, gdl_nI (show r < 2 ^ 31 by omega) hr, gdl_nI (show t < 2 ^ 31 by omega) ht, gdl0, nI_clamp (show r < 2 ^ 31 by omega), nI_clamp (show t < 2 ^ 31 by omega), em, hs', (le0 _).mpr hu, e_isSpan _ hr, bI_f k1, e_find2]
          · refine ⟨-3, cF n 1, mF (cF n 1) 1, ?_, ?_, Inv_F (by decide) h⟩
            · simp [f_X3_copy, f_X3_copy_L57, e_isPlace1 n h1.1, bI_t ha, bI_t hb, hc, e_isThere1 n hr, e_isThere1 n ht, s1, u1, bI_t hs, bI_f hu, e_refuse1]
            · have em : (cF n 1).1 45 = n.1 45 := cF1 (by decide) (by decide)
              have hu' : ¬ (0 : Int32) ≤ n.1 45 t := fun q => hu ((le0 _).mp q)
              have hs' : ¬ n.1 45 r < 0 := by rw [i32_lt, z0]; omega
              simp [f_X4_copy, f_X4_copy_L45, e_isRow, bI_t ha', bI_t hb', hc, gdl_nI (show r < 2 ^ 31 by omega) hr, gdl_nI (show t < 2 ^ 31 by omega) ht, gdl0, nI_clamp (show r < 2 ^ 31 by omega), nI_clamp (show t < 2 ^ 31 by omega), em, hs', hu', e_find1]
        · refine ⟨-3, cF n 1, mF (cF n 1) 1, ?_, ?_, Inv_F (by decide) h⟩
          · simp [f_X3_copy, f_X3_copy_L57, e_isPlace1 n h1.1, bI_t ha, bI_t hb, hc, e_isThere1 n hr, s1, bI_f hs, e_refuse1]
          · have em : (cF n 1).1 45 = n.1 45 := cF1 (by decide) (by decide)
            have hs' : n.1 45 r < 0 := by rw [i32_lt, z0]; omega
            simp [f_X4_copy, f_X4_copy_L45, e_isRow, bI_t ha', bI_t hb', hc, gdl_nI (show r < 2 ^ 31 by omega) hr, gdl0, nI_clamp (show r < 2 ^ 31 by omega), em, hs', e_find1]
      · exact ⟨-3, cF n 5, mF (cF n 5) 5, by simp [f_X3_copy, e_isPlace1 n h1.1, bI_t ha, bI_t hb, hc, e_refuse5], by simp [f_X4_copy, e_isRow, bI_t ha', bI_t hb', hc, e_find5], Inv_F (by decide) h⟩
    · have ha' : 0 ≤ a.toInt ∧ a.toInt ≤ 5 := by omega
      have hb' : ¬ (0 ≤ b.toInt ∧ b.toInt ≤ 5) := by omega
      exact ⟨-1, n, n, by simp [f_X3_copy, f_X3_copy_L22, e_isPlace1 n h1.1, bI_t ha, bI_f hb], by simp [f_X4_copy, f_X4_copy_L14, e_isRow, bI_t ha', bI_f hb'], h⟩
  · have ha' : ¬ (0 ≤ a.toInt ∧ a.toInt ≤ 5) := by omega
    exact ⟨-1, n, n, by simp [f_X3_copy, f_X3_copy_L22, e_isPlace1 n h1.1, bI_f ha], by simp [f_X4_copy, f_X4_copy_L14, e_isRow, bI_f ha'], h⟩
def sumL (f : Nat → Int32) (b : Nat) : Nat → Int64
  | 0 => 0
  | k + 1 => sumL f b k + Int32.toInt64 (f (b + k))
theorem sumL_c {f g : Nat → Int32} {b k : Nat} (h : ∀ i, i < k → f (b + i) = g (b + i)) : sumL f b k = sumL g b k := by
  induction k with
  | zero => rfl
  | succ k ih => rw [sumL, sumL, ih (fun i hi => h i (by omega)), h k (by omega)]
theorem e_meanX (N : Nat) (hN : 400 ≤ N) (n : xN) (hc : n.1 1 1 = 40) {r c : Nat} (hr : r < 6) (h0 : 0 < c) (hw : c ≤ 40) : f_X3_mean_L41 N N (nI r) (nI c) 0 0 n = some (1, mI n 0 10 (Int64.toInt32 (sumL (n.1 2) (40 * r) c / Int32.toInt64 (nI c)))) := by
  have key := eq_for (rc := fun k i s => f_X3_mean_L41 N k (nI r) (nI c) s i n) (body := fun k i s => f_X3_mean_L41b N (fun _ _ a b _ => k b a) (nI r) (nI c) s i n) (fun _ _ _ => rfl) 0 c (fun i => sumL (n.1 2) (40 * r) i) (some (1, mI n 0 10 (Int64.toInt32 (sumL (n.1 2) (40 * r) c / Int32.toInt64 (nI c))))) ?_ ?_ N 0 (Nat.le_refl _) (by omega) (by omega)
  · exact key
  · intro k i _ hi
    unfold f_X3_mean_L41b
    rw [if_neg (by rw [nI_leI (by omega) (by omega)]; omega), e_cell1 n hc hr (show i < 40 by omega), Option.bind_some, nI_1]
    rfl
  · intro k
    unfold f_X3_mean_L41b
    have hz : nzl (Int32.toInt64 (nI c)) = true := by
      rw [nI_l (by omega)]
      simp only [nzl, Bool.not_eq_true', decide_eq_false_iff_not]
      intro q
      have := congrArg Int64.toInt q
      rw [lN_toInt (by omega)] at this
      have z : (0 : Int64).toInt = 0 := rfl
      omega
    rw [if_pos (by rw [nI_leI (by omega) (by omega)]; omega), gdlT hz, gdl0]
theorem e_meanM (N : Nat) (hN : 400 ≤ N) (n : xN) {r c : Nat} (hr : r < 6) (hs : n.1 45 r = nI c) (h0 : 0 < c) (hw : c ≤ 40) : f_X4_mean_L44 N N (nI r) 0 0 n = some (1, mI n 39 11 (Int64.toInt32 (sumL (n.1 46) (40 * r) c / Int32.toInt64 (nI c)))) := by
  have key := eq_for (rc := fun k i s => f_X4_mean_L44 N k (nI r) s i n) (body := fun k i s => f_X4_mean_L44b N (fun _ a b _ => k b a) (nI r) s i n) (fun _ _ _ => rfl) 0 c (fun i => sumL (n.1 46) (40 * r) i) (some (1, mI n 39 11 (Int64.toInt32 (sumL (n.1 46) (40 * r) c / Int32.toInt64 (nI c))))) ?_ ?_ N 0 (Nat.le_refl _) (by omega) (by omega)
  · exact key
  · intro k i _ hi
    unfold f_X4_mean_L44b
    rw [gdl_nI (by omega) hr, gdl0, nI_clamp (by omega), hs, if_neg (by rw [nI_leI (by omega) (by omega)]; omega), (e_ix1 hr (show i < 40 by omega)).2, gdl_nI (by omega) (by omega), gdl0, nI_clamp (by omega), nI_1]
    rfl
  · intro k
    unfold f_X4_mean_L44b f_X4_tell
    have hz : nzl (Int32.toInt64 (nI c)) = true := by
      rw [nI_l (by omega)]
      simp only [nzl, Bool.not_eq_true', decide_eq_false_iff_not]
      intro q
      have := congrArg Int64.toInt q
      rw [lN_toInt (by omega)] at this
      have z : (0 : Int64).toInt = 0 := rfl
      omega
    rw [gdl_nI (by omega) hr, gdl0, nI_clamp (by omega), hs, if_pos (by rw [nI_leI (by omega) (by omega)]; omega), gdl_nI (by omega) hr, gdlT hz, gdl0]
    rfl
set_option maxHeartbeats 1000000 in
theorem op_mean (N : Nat) (hN : 400 ≤ N) (a : Int32) : Op (f_X3_mean N a) (f_X4_mean N a) := by
  intro n h
  obtain ⟨h1, h2, h3, h4, h5, h6, h7, h8, h9, h10, h11⟩ := id h
  by_cases ha : 0 ≤ a.toInt ∧ a.toInt < 6
  · obtain ⟨r, hr, rfl⟩ := i32_of ha.1 (k := 6) (by omega)
    obtain ⟨s1, s2, s3, s4⟩ := h2 r hr
    by_cases hs : 0 ≤ (n.1 45 r).toInt
    · obtain ⟨c, hc, ec⟩ := i32_of hs (k := 41) (by omega)
      have cz : (n.1 45 r).toInt = c := by rw [ec, nI_toInt (by omega)]
      by_cases h0 : 0 < c
      · have hlt : (0 : Int32) < nI c := by rw [i32_lt, z0, nI_toInt (by omega)]; omega
        have hle : (0 : Int32) ≤ nI c := by rw [le0, nI_toInt (by omega)]; omega
        have hne : ¬ nI c = 0 := by intro q; rw [q] at hlt; exact absurd hlt (by decide)
        have hx : f_X3_mean N (nI r) n = some (1, mI n 0 10 (Int64.toInt32 (sumL (n.1 2) (40 * r) c / Int32.toInt64 (nI c)))) := by
          simp [f_X3_mean, e_rp1_ok n h1.1 hr (by rw [s1]; exact hs), e_size1 n hr, s1, ec, hlt, e_meanX N hN n h1.2.1 hr h0 (by omega)]
        have hm : ∀ m : xN, m.1 45 = n.1 45 → f_X4_mean N (nI r) m = some (1, mI m 39 11 (Int64.toInt32 (sumL (m.1 46) (40 * r) c / Int32.toInt64 (nI c)))) := by
          intro m em
          simp [f_X4_mean, e_isRow, bI_t (nIr (r := r) 5 (by omega) (by omega)), gdl_nI (show r < 2 ^ 31 by omega) hr, gdl0, nI_clamp (show r < 2 ^ 31 by omega), em, ec, hle, hne, e_meanM N hN m hr (by rw [em, ec]) h0 (by omega)]
        refine Op_mk hx (hm _ (by simp [mI1])) rfl ?_
        have es : sumL (n.1 2) (40 * r) c = sumL (n.1 46) (40 * r) c := sumL_c (fun i hi => s4 i (by omega))
        unfold Inv cOf at *
        simp only [mI1, mI2, reduceIte, Nat.reduceEqDiff] at *
        refine ⟨h1, h2, h3, by simpa [upd] using h4, ?_, by simpa [upd] using h6, h7, by simpa [upd] using h8, by simpa [upd] using h9, by simpa [upd] using h10, by simpa [upd] using h11⟩
        exact ⟨by simp [upd, es], h5.2⟩
      · have c0 : c = 0 := by omega
        subst c0
        have e0 : n.1 45 r = 0 := ec
        refine ⟨-3, cF n 4, mF (cF n 4) 4, ?_, ?_, Inv_F (by decide) h⟩
        · simp [f_X3_mean, e_rp1_ok n h1.1 hr (by rw [s1]; exact hs), e_size1 n hr, s1, e0, e_refuse4]
        · have em : (cF n 4).1 45 = n.1 45 := cF1 (by decide) (by decide)
          simp [f_X4_mean, e_isRow, bI_t (nIr (r := r) 5 (by omega) (by omega)), gdl_nI (show r < 2 ^ 31 by omega) hr, gdl0, nI_clamp (show r < 2 ^ 31 by omega), em, e0, e_find4]
    · refine ⟨-3, cF n 1, mF (cF n 1) 1, by simp [f_X3_mean, e_rp1_no n h1.1 hr (by rw [s1]; exact hs)], ?_, Inv_F (by decide) h⟩
      have h0 : ¬ (0 : Int32) ≤ (cF n 1).1 45 r := by rw [cF1 (by decide) (by decide), le0]; exact hs
      simp [f_X4_mean, e_isRow, bI_t (nIr (r := r) 5 (by omega) (by omega)), gdl_nI (show r < 2 ^ 31 by omega) hr, gdl0, nI_clamp (show r < 2 ^ 31 by omega), h0, e_find1]
  · have ha' : ¬ (0 ≤ a.toInt ∧ a.toInt ≤ 5) := by omega
    exact ⟨-1, n, n, by simp [f_X3_mean, e_rp1_bad n h1.1 ha], by simp [f_X4_mean, e_isRow, bI_f ha'], h⟩
