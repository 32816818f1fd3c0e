/-! ===== promise 52: digest ===== -/
def mx (c : Nat → Int32) (h : Int64) : Nat → Int64
  | 0 => h
  | i + 1 => (31 : Int64) * mx c h i + Int32.toInt64 (c i)
theorem mx_c {c d : Nat → Int32} {h : Int64} : ∀ k, (∀ i, i < k → c i = d i) → mx c h k = mx d h k := by
  intro k
  induction k with
  | zero => intro _; rfl
  | succ k ih => intro e; rw [mx, mx, ih (fun i hi => e i (by omega)), e k (by omega)]
theorem mx_add (c : Nat → Int32) (h : Int64) (a : Nat) : ∀ k, mx c h (a + k) = mx (fun i => c (a + i)) (mx c h a) k := by
  intro k
  induction k with
  | zero => rfl
  | succ k ih => rw [← Nat.add_assoc, mx, mx, ih]
def rwH (W : Nat) (sz cell : Nat → Int32) (h : Int64) : Nat → Int64
  | 0 => h
  | r + 1 => mx (fun i => cell (W * r + i)) ((31 : Int64) * rwH W sz cell h r + Int32.toInt64 (sz r)) (sz r).toInt.toNat
def c9 (N : Nat) (n : xN) (w : Nat) : Int32 := (f_X3_countNumber N (nI w) n).getD 0
theorem c9_of (N : Nat) (hN : 100 ≤ N) {n : xN} (h : Inv n) {w : Nat} (hw : w < 9) : f_X3_countNumber N (nI w) n = some (c9 N n w) ∧ f_X4_countOf N (nI w) n = some (c9 N n w) := by
  obtain ⟨v, e1, e2⟩ := cnt_both N hN h (show w ≤ 8 by omega)
  have : c9 N n w = v := by unfold c9; rw [e1]; rfl
  rw [this]; exact ⟨e1, e2⟩
theorem dX1 (N : Nat) (hN : 100 ≤ N) {n : xN} (h : Inv n) : f_X3_digest N n = f_X3_digest_L30 N n N (mx (c9 N n) 17 9) 0 := by
  unfold f_X3_digest
  have key := eq_forG (rc := f_X3_digest_L6 N n) (body := f_X3_digest_L6b N n) (fun f i (l : Int64) => f l i) (fun _ => rfl) 0 9 (fun i => mx (c9 N n) 17 i) (f_X3_digest_L30 N n N (mx (c9 N n) 17 9) 0) ?_ ?_ N 0 (Nat.le_refl _) (Nat.zero_le _) (by omega)
  · exact key
  · intro f i _ hi
    show f_X3_digest_L6b N n f (mx (c9 N n) 17 i) (nI i) = f (mx (c9 N n) 17 (i + 1)) (nI (i + 1))
    unfold f_X3_digest_L6b f_X3_mixed
    rw [if_neg (by rw [show (9 : Int32) = nI 9 from rfl, nI_leI (by omega) (by omega)]; omega), (c9_of N hN h hi).1, Option.bind_some, Option.bind_some, nI_1]; rfl
  · intro f
    show f_X3_digest_L6b N n f _ (nI 9) = _
    unfold f_X3_digest_L6b
    rw [if_pos (by decide)]
theorem dM1 (N : Nat) (hN : 100 ≤ N) {n : xN} (h : Inv n) : f_X4_digest N n = f_X4_digest_L33 N n N (mx (c9 N n) 17 9) 0 := by
  unfold f_X4_digest
  have key := eq_forG (rc := f_X4_digest_L6 N n) (body := f_X4_digest_L6b N n) (fun f i (l : Int64) => f l i) (fun _ => rfl) 0 9 (fun i => mx (c9 N n) 17 i) (f_X4_digest_L33 N n N (mx (c9 N n) 17 9) 0) ?_ ?_ N 0 (Nat.le_refl _) (Nat.zero_le _) (by omega)
  · exact key
  · intro f i _ hi
    show f_X4_digest_L6b N n f (mx (c9 N n) 17 i) (nI i) = f (mx (c9 N n) 17 (i + 1)) (nI (i + 1))
    unfold f_X4_digest_L6b
    rw [if_neg (by rw [show (9 : Int32) = nI 9 from rfl, nI_leI (by omega) (by omega)]; omega), (c9_of N hN h hi).2, Option.bind_some, nI_1]; rfl
  · intro f
    show f_X4_digest_L6b N n f _ (nI 9) = _
    unfold f_X4_digest_L6b
    rw [if_pos (by decide)]
theorem dX2 (N : Nat) (hN : 100 ≤ N) {n : xN} (hbd : ∀ b, b < 8 → n.1 20 b = bdM (n.1 40) b) (H : Int64) : f_X3_digest_L30 N n N H 0 = f_X3_digest_L58 N n N (mx (bdM (n.1 40)) H 8) 0 := by
  have key := eq_forG (rc := f_X3_digest_L30 N n) (body := f_X3_digest_L30b N n) (fun f i (l : Int64) => f l i) (fun _ => rfl) 0 8 (fun i => mx (bdM (n.1 40)) H i) (f_X3_digest_L58 N n N (mx (bdM (n.1 40)) H 8) 0) ?_ ?_ N 0 (Nat.le_refl _) (Nat.zero_le _) (by omega)
  · exact key
  · intro f i _ hi
    show f_X3_digest_L30b N n f (mx (bdM (n.1 40)) H i) (nI i) = f (mx (bdM (n.1 40)) H (i + 1)) (nI (i + 1))
    unfold f_X3_digest_L30b f_X3_mixed
    rw [if_neg (by rw [show (8 : Int32) = nI 8 from rfl, nI_leI (by omega) (by omega)]; omega), gdl_nI (by omega) hi, gdl0, nI_clamp (by omega), hbd i hi, Option.bind_some, nI_1]; rfl
  · intro f
    show f_X3_digest_L30b N n f _ (nI 8) = _
    unfold f_X3_digest_L30b
    rw [if_pos (by decide)]
theorem dM2 (N : Nat) (hN : 100 ≤ N) {n : xN} (H : Int64) : f_X4_digest_L33 N n N H 0 = f_X4_digest_L63 N n N (mx (bdM (n.1 40)) H 8) 0 := by
  have key := eq_forG (rc := f_X4_digest_L33 N n) (body := f_X4_digest_L33b N n) (fun f i (l : Int64) => f l i) (fun _ => rfl) 0 8 (fun i => mx (bdM (n.1 40)) H i) (f_X4_digest_L63 N n N (mx (bdM (n.1 40)) H 8) 0) ?_ ?_ N 0 (Nat.le_refl _) (Nat.zero_le _) (by omega)
  · exact key
  · intro f i _ hi
    show f_X4_digest_L33b N n f (mx (bdM (n.1 40)) H i) (nI i) = f (mx (bdM (n.1 40)) H (i + 1)) (nI (i + 1))
    unfold f_X4_digest_L33b
    rw [if_neg (by rw [show (8 : Int32) = nI 8 from rfl, nI_leI (by omega) (by omega)]; omega), show (2 : Int32) = nI 2 from rfl, nI_add, gdl_nI (by omega) (by omega), gdl0, nI_clamp (by omega), nI_1]; rfl
  · intro f
    show f_X4_digest_L33b N n f _ (nI 8) = _
    unfold f_X4_digest_L33b
    rw [if_pos (by decide)]
theorem g41 {n : xN} {T C i : Nat} (hc : Crt n T C) (hi : i < 5 * T) : n.1 8 i = n.1 41 i := by
  have := (hc.2.2.2.2.2.2.2.2.2 (i / 5) (by omega) (i % 5) (by omega)).1
  rw [show 5 * (i / 5) + i % 5 = i by omega] at this
  exact this
theorem dX3 (N : Nat) (hN : 100 ≤ N) {n : xN} {T C : Nat} (hc : Crt n T C) (H : Int64) : f_X3_digest_L58 N n N H 0 = f_X3_digest_L93 N n N (mx (n.1 41) H (5 * T)) 0 := by
  have hT := hc.1
  have e5 : nI T * 5 = nI (5 * T) := by rw [show (5 : Int32) = nI 5 from rfl, pk_mul, Nat.mul_comm]
  have key := eq_forG (rc := f_X3_digest_L58 N n) (body := f_X3_digest_L58b N n) (fun f i (l : Int64) => f l i) (fun _ => rfl) 0 (5 * T) (fun i => mx (n.1 41) H i) (f_X3_digest_L93 N n N (mx (n.1 41) H (5 * T)) 0) ?_ ?_ N 0 (Nat.le_refl _) (Nat.zero_le _) (by omega)
  · exact key
  · intro f i _ hi
    show f_X3_digest_L58b N n f (mx (n.1 41) H i) (nI i) = f (mx (n.1 41) H (i + 1)) (nI (i + 1))
    unfold f_X3_digest_L58b f_X3_mixed
    rw [hc.2.2.2.2.2.1, e5, if_neg (by rw [nI_leI (by omega) (by omega)]; omega), gdl_nI (by omega) (by omega), gdl0, nI_clamp (by omega), g41 hc hi, Option.bind_some, nI_1]; rfl
  · intro f
    show f_X3_digest_L58b N n f _ (nI (5 * T)) = _
    unfold f_X3_digest_L58b
    rw [hc.2.2.2.2.2.1, e5, if_pos (by rw [nI_leI (by omega) (by omega)]; omega)]
theorem dM3 (N : Nat) (hN : 100 ≤ N) {n : xN} {T C : Nat} (hc : Crt n T C) (H : Int64) : f_X4_digest_L63 N n N H 0 = f_X4_digest_L95 N n N (mx (n.1 41) H (5 * T)) 0 := by
  have hT := hc.1
  have e5 : (5 : Int32) * nI T = nI (5 * T) := by rw [show (5 : Int32) = nI 5 from rfl, pk_mul]
  have key := eq_forG (rc := f_X4_digest_L63 N n) (body := f_X4_digest_L63b N n) (fun f i (l : Int64) => f l i) (fun _ => rfl) 0 (5 * T) (fun i => mx (n.1 41) H i) (f_X4_digest_L95 N n N (mx (n.1 41) H (5 * T)) 0) ?_ ?_ N 0 (Nat.le_refl _) (Nat.zero_le _) (by omega)
  · exact key
  · intro f i _ hi
    show f_X4_digest_L63b N n f (mx (n.1 41) H i) (nI i) = f (mx (n.1 41) H (i + 1)) (nI (i + 1))
    unfold f_X4_digest_L63b
    rw [hc.2.2.2.1, e5, if_neg (by rw [nI_leI (by omega) (by omega)]; omega), gdl_nI (by omega) (by omega), gdl0, nI_clamp (by omega), nI_1]; rfl
  · intro f
    show f_X4_digest_L63b N n f _ (nI (5 * T)) = _
    unfold f_X4_digest_L63b
    rw [hc.2.2.2.1, e5, if_pos (by rw [nI_leI (by omega) (by omega)]; omega)]
def cK (n : xN) (T o i : Nat) : Int32 := clV n T o (i / 5) (i % 5)
theorem dX4 (N : Nat) (hN : 100 ≤ N) {n : xN} {T C o : Nat} (hc : Crt n T C) (hbd : ∀ b, b < 8 → n.1 20 b = bdM (n.1 40) b) (xo : n.1 19 1 = nI o) (ho : o < 2 ^ 31) (H : Int64) : f_X3_digest_L93 N n N H 0 = f_X3_digest_L139 N n N (mx (cK n T o) H (5 * C)) 0 := by
  have hC := hc.2.1
  have key := eq_forG (rc := f_X3_digest_L93 N n) (body := f_X3_digest_L93b N n) (fun f i (l : Int64) => f l i) (fun _ => rfl) 0 C (fun i => mx (cK n T o) H (5 * i)) (f_X3_digest_L139 N n N (mx (cK n T o) H (5 * C)) 0) ?_ ?_ N 0 (Nat.le_refl _) (Nat.zero_le _) (by omega)
  · exact key
  · intro f k _ hk
    show f_X3_digest_L93b N n f (mx (cK n T o) H (5 * k)) (nI k) = f (mx (cK n T o) H (5 * (k + 1))) (nI (k + 1))
    unfold f_X3_digest_L93b
    rw [hc.2.2.2.2.2.2.1, if_neg (by rw [nI_leI (by omega) (by omega)]; omega)]
    have key2 := eq_forG (rc := f_X3_digest_L107 N n f) (body := f_X3_digest_L107b N n f) (fun f i (l : Int64) => f l (nI k) i) (fun _ => rfl) 0 5 (fun i => mx (cK n T o) H (5 * k + i)) (f (mx (cK n T o) H (5 * (k + 1))) (nI (k + 1))) ?_ ?_ N 0 (Nat.le_refl _) (Nat.zero_le _) (by omega)
    · exact key2
    · intro g i _ hi
      show f_X3_digest_L107b N n f g (mx (cK n T o) H (5 * k + i)) (nI k) (nI i) = g (mx (cK n T o) H (5 * k + (i + 1))) (nI k) (nI (i + 1))
      unfold f_X3_digest_L107b f_X3_mixed
      rw [if_neg (by rw [show (4 : Int32) = nI 4 from rfl, nI_ltI (by omega) (by omega)]; omega), e_clNum N hN n hc hbd xo ho hk (by omega), Option.bind_some, Option.bind_some, nI_1, show 5 * k + (i + 1) = (5 * k + i) + 1 by omega]
      conv => rhs; rw [mx]
      have : cK n T o (5 * k + i) = clV n T o k i := by unfold cK; rw [show (5 * k + i) / 5 = k by omega, show (5 * k + i) % 5 = i by omega]
      rw [this]
    · intro g
      show f_X3_digest_L107b N n f g (mx (cK n T o) H (5 * k + 5)) (nI k) (nI 5) = _
      unfold f_X3_digest_L107b
      rw [if_pos (by decide), nI_1]; rfl
  · intro f
    show f_X3_digest_L93b N n f _ (nI C) = _
    unfold f_X3_digest_L93b
    rw [hc.2.2.2.2.2.2.1, if_pos (by rw [nI_leI (by omega) (by omega)]; omega)]
theorem nz5 : nzi 5 = true := by decide
theorem dM4 (N : Nat) (hN : 100 ≤ N) {n : xN} {T C o : Nat} (hc : Crt n T C) (eo : n.1 40 1 = nI o) (ho : o < 2 ^ 31) (H : Int64) : f_X4_digest_L95 N n N H 0 = f_X4_digest_L131 N n N (mx (cK n T o) H (5 * C)) 1 := by
  have hC := hc.2.1
  have e5 : (5 : Int32) * nI C = nI (5 * C) := by rw [show (5 : Int32) = nI 5 from rfl, pk_mul]
  have key := eq_forG (rc := f_X4_digest_L95 N n) (body := f_X4_digest_L95b N n) (fun f i (l : Int64) => f l i) (fun _ => rfl) 0 (5 * C) (fun i => mx (cK n T o) H i) (f_X4_digest_L131 N n N (mx (cK n T o) H (5 * C)) 1) ?_ ?_ N 0 (Nat.le_refl _) (Nat.zero_le _) (by omega)
  · exact key
  · intro f i _ hi
    show f_X4_digest_L95b N n f (mx (cK n T o) H i) (nI i) = f (mx (cK n T o) H (i + 1)) (nI (i + 1))
    have ed : nI i / 5 = nI (i / 5) := pk_div (d := 5) (by omega) (by omega) (by omega)
    have em : nI i - nI i / 5 * 5 = nI (i % 5) := pk_rem (d := 5) (by omega) (by omega) (by omega)
    unfold f_X4_digest_L95b
    rw [hc.2.2.2.2.1, e5, if_neg (by rw [nI_leI (by omega) (by omega)]; omega), gdlT nz5, gdlT nz5, gdl0, em, ed, e_toldOf N hN n hc eo ho (show i / 5 < C by omega) (by omega), Option.bind_some, nI_1]; rfl
  · intro f
    show f_X4_digest_L95b N n f _ (nI (5 * C)) = _
    unfold f_X4_digest_L95b
    rw [hc.2.2.2.2.1, e5, if_pos (by rw [nI_leI (by omega) (by omega)]; omega)]
def cP (n : xN) (k : Nat) : Int32 := n.1 40 (370 * (1 + k))
theorem fs_d139 (N k : Nat) (n : xN) (a : Int64) (b : Int32) : f_X3_digest_L139 N n (k + 1) a b = f_X3_digest_L139b N n (f_X3_digest_L139 N n k) a b := rfl
theorem dX5 (N : Nat) (hN : 100 ≤ N) {n : xN} (h : Inv n) (H : Int64) : f_X3_digest_L139 N n N H 0 = Option.bind (f_X1_mixInto_1 N (mx (cP n) H 3) n) (fun r => Option.bind (f_X1_mixInto_4 N r n) (fun r => some r)) := by
  obtain ⟨-, -, -, -, -, -, -, -, k1, k2, k3⟩ := h
  have s0 : ∀ k a, f_X3_digest_L139 N n (k + 1) a 0 = f_X3_digest_L139 N n k ((31 : Int64) * a + Int32.toInt64 (cP n 0)) 1 := by
    intro k a
    rw [fs_d139]
    unfold f_X3_digest_L139b f_X3_digest_L170 f_X3_mixed
    rw [if_neg (by decide), if_pos rfl]
    rcases kept_s k1 with ⟨a1, b1, -⟩ | ⟨a1, b1, -⟩
    · have : cP n 0 = -1 := b1
      rw [if_pos a1, Option.bind_some, this]; rfl
    · have : cP n 0 = n.1 24 2 := b1.symm
      rw [if_neg (by rw [a1]; decide), if_pos rfl, Option.bind_some, this]; rfl
  have s1 : ∀ k a, f_X3_digest_L139 N n (k + 1) a 1 = f_X3_digest_L139 N n k ((31 : Int64) * a + Int32.toInt64 (cP n 1)) 2 := by
    intro k a
    rw [fs_d139]
    unfold f_X3_digest_L139b f_X3_digest_L170 f_X3_mixed
    rw [if_neg (by decide), if_neg (by decide), if_pos rfl]
    rcases kept_s k2 with ⟨a1, b1, -⟩ | ⟨a1, b1, -⟩
    · have : cP n 1 = -1 := b1
      rw [if_pos a1, Option.bind_some, this]; rfl
    · have : cP n 1 = n.1 28 2 := b1.symm
      rw [if_neg (by rw [a1]; decide), if_neg (by decide), if_pos rfl, Option.bind_some, this]; rfl
  have s2 : ∀ k a, f_X3_digest_L139 N n (k + 1) a 2 = f_X3_digest_L139 N n k ((31 : Int64) * a + Int32.toInt64 (cP n 2)) 3 := by
    intro k a
    rw [fs_d139]
    unfold f_X3_digest_L139b f_X3_digest_L170 f_X3_mixed
    rw [if_neg (by decide), if_neg (by decide), if_neg (by decide), if_pos rfl]
    rcases kept_s k3 with ⟨a1, b1, -⟩ | ⟨a1, b1, -⟩
    · have : cP n 2 = -1 := b1
      rw [if_pos a1, Option.bind_some, this]; rfl
    · have : cP n 2 = n.1 32 2 := b1.symm
      rw [if_neg (by rw [a1]; decide), if_neg (by decide), if_neg (by decide), if_pos rfl, Option.bind_some, this]; rfl
  have s3 : ∀ k a, f_X3_digest_L139 N n (k + 1) a 3 = Option.bind (f_X1_mixInto_1 N a n) (fun r => Option.bind (f_X1_mixInto_4 N r n) (fun r => some r)) := by
    intro k a
    rw [fs_d139]
    unfold f_X3_digest_L139b
    rw [if_pos (by decide)]
  have e : ∀ k, f_X3_digest_L139 N n (k + 4) H 0 = Option.bind (f_X1_mixInto_1 N (mx (cP n) H 3) n) (fun r => Option.bind (f_X1_mixInto_4 N r n) (fun r => some r)) := by
    intro k
    rw [show k + 4 = k + 3 + 1 from rfl, s0, show k + 3 = k + 2 + 1 from rfl, s1, show k + 2 = k + 1 + 1 from rfl, s2, s3]
    rfl
  have := e (N - 4)
  rw [show N - 4 + 4 = N by omega] at this
  exact this
theorem dM5 (N : Nat) (hN : 100 ≤ N) (n : xN) (H : Int64) : f_X4_digest_L131 N n N H 1 = f_X4_digest_L164 N n N (mx (cP n) H 3) 0 := by
  have key := eq_forG (rc := f_X4_digest_L131 N n) (body := f_X4_digest_L131b N n) (fun f i (l : Int64) => f l i) (fun _ => rfl) 1 4 (fun i => mx (cP n) H (i - 1)) (f_X4_digest_L164 N n N (mx (cP n) H 3) 0) ?_ ?_ N 1 (Nat.le_refl _) (by omega) (by omega)
  · exact key
  · intro f i h1 hi
    show f_X4_digest_L131b N n f (mx (cP n) H (i - 1)) (nI i) = f (mx (cP n) H (i + 1 - 1)) (nI (i + 1))
    unfold f_X4_digest_L131b
    rw [if_neg (by rw [show (4 : Int32) = nI 4 from rfl, nI_leI (by omega) (by omega)]; omega), i_add0, show (370 : Int32) = nI 370 from rfl, pk_mul, gdl_nI (by omega) (by omega), gdl0, nI_clamp (by omega), nI_1, show i + 1 - 1 = i - 1 + 1 by omega]
    conv => rhs; rw [mx]
    unfold cP
    rw [show 370 * (1 + (i - 1)) = 370 * i by rw [show 1 + (i - 1) = i by omega]]
  · intro f
    show f_X4_digest_L131b N n f _ (nI 4) = _
    unfold f_X4_digest_L131b
    rw [if_pos (by decide)]
set_option maxHeartbeats 1000000 in
theorem dX6_1 (N : Nat) (hN : 100 ≤ N) {n : xN} (h10 : n.1 1 0 = 6) (h11 : n.1 1 1 = 40) (h2 : I_row 40 6 (n.1 3) (n.1 2) (n.1 45) (n.1 46)) (H : Int64) : f_X1_mixInto_1 N H n = some (rwH 40 (n.1 45) (n.1 46) H 6) := by
  unfold f_X1_mixInto_1
  have key := eq_forG (rc := f_X1_mixInto_1_L5 N n) (body := f_X1_mixInto_1_L5b N n) (fun f i (l : Int64) => f l i) (fun _ => rfl) 0 6 (fun i => rwH 40 (n.1 45) (n.1 46) H i) (some (rwH 40 (n.1 45) (n.1 46) H 6)) ?_ ?_ N 0 (Nat.le_refl _) (Nat.zero_le _) (by omega)
  · exact key
  · intro f r _ hr
    show f_X1_mixInto_1_L5b N n f (rwH 40 (n.1 45) (n.1 46) H r) (nI r) = f (rwH 40 (n.1 45) (n.1 46) H (r + 1)) (nI (r + 1))
    obtain ⟨s1, s2, s3, s4⟩ := h2 r hr
    unfold f_X1_mixInto_1_L5b f_X3_mixed
    rw [h10, if_neg (by rw [show (6 : Int32) = nI 6 from rfl, nI_leI (by omega) (by omega)]; omega), gdl_nI (by omega) hr, gdl0, nI_clamp (by omega), s1, Option.bind_some, rwH]
    generalize (31 : Int64) * rwH 40 (n.1 45) (n.1 46) H r + Int32.toInt64 (n.1 45 r) = G
    by_cases hs : 0 ≤ (n.1 45 r).toInt
    · obtain ⟨s, hs1, hs2⟩ := i32_of (k := 40 + 1) hs (by omega)
      have e3 : n.1 3 r = nI s := by rw [s1, hs2]
      rw [hs2, nI_toInt (by omega), Int.toNat_natCast]
      have key2 := eq_forG (rc := f_X1_mixInto_1_L29 N n f) (body := f_X1_mixInto_1_L29b N n f) (fun g i (l : Int64) => g l (nI r) i) (fun _ => rfl) 0 s (fun i => mx (fun i => n.1 46 (40 * r + i)) G i) (f (mx (fun i => n.1 46 (40 * r + i)) G s) (nI (r + 1))) ?_ ?_ N 0 (Nat.le_refl _) (Nat.zero_le _) (by omega)
      · exact key2
      · intro g i _ hi
        show f_X1_mixInto_1_L29b N n f g (mx (fun i => n.1 46 (40 * r + i)) G i) (nI r) (nI i) = g (mx (fun i => n.1 46 (40 * r + i)) G (i + 1)) (nI r) (nI (i + 1))
        unfold f_X1_mixInto_1_L29b f_X3_mixed
        rw [gdl_nI (by omega) hr, gdl0, nI_clamp (by omega), e3, if_neg (by rw [nI_leI (by omega) (by omega)]; omega), e_cell1 n h11 hr (show i < 40 by omega), Option.bind_some, Option.bind_some, nI_1, s4 i (by rw [hs2, nI_toInt (by omega)]; omega)]; rfl
      · intro g
        show f_X1_mixInto_1_L29b N n f g _ (nI r) (nI s) = _
        unfold f_X1_mixInto_1_L29b
        rw [gdl_nI (by omega) hr, gdl0, nI_clamp (by omega), e3, if_pos (by rw [nI_leI (by omega) (by omega)]; omega), nI_1]
    · rw [show (n.1 45 r).toInt.toNat = 0 by omega]
      cases N with
      | zero => omega
      | succ N' =>
        show f_X1_mixInto_1_L29b (N' + 1) n f (f_X1_mixInto_1_L29 (N' + 1) n f N') G (nI r) 0 = _
        unfold f_X1_mixInto_1_L29b
        rw [gdl_nI (by omega) hr, gdl0, nI_clamp (by omega), s1, if_pos (by rw [i32_le, z0]; omega), nI_1]; rfl
  · intro f
    show f_X1_mixInto_1_L5b N n f _ (nI 6) = _
    unfold f_X1_mixInto_1_L5b
    rw [h10, if_pos (by decide)]
set_option maxHeartbeats 1000000 in
theorem dM6_1 (N : Nat) (hN : 100 ≤ N) {n : xN} (h2 : I_row 40 6 (n.1 3) (n.1 2) (n.1 45) (n.1 46)) (H : Int64) : f_X4_digest_L164 N n N H 0 = f_X4_digest_L232 N n N (rwH 40 (n.1 45) (n.1 46) H 6) 0 := by
  have key := eq_forG (rc := f_X4_digest_L164 N n) (body := f_X4_digest_L164b N n) (fun f i (l : Int64) => f l i) (fun _ => rfl) 0 6 (fun i => rwH 40 (n.1 45) (n.1 46) H i) (f_X4_digest_L232 N n N (rwH 40 (n.1 45) (n.1 46) H 6) 0) ?_ ?_ N 0 (Nat.le_refl _) (Nat.zero_le _) (by omega)
  · exact key
  · intro f r _ hr
    show f_X4_digest_L164b N n f (rwH 40 (n.1 45) (n.1 46) H r) (nI r) = f (rwH 40 (n.1 45) (n.1 46) H (r + 1)) (nI (r + 1))
    obtain ⟨s1, s2, s3, s4⟩ := h2 r hr
    unfold f_X4_digest_L164b
    rw [if_neg (by rw [show (6 : Int32) = nI 6 from rfl, nI_leI (by omega) (by omega)]; omega), gdl_nI (by omega) hr, gdl0, nI_clamp (by omega), rwH]
    generalize (31 : Int64) * rwH 40 (n.1 45) (n.1 46) H r + Int32.toInt64 (n.1 45 r) = G
    by_cases hs : 0 ≤ (n.1 45 r).toInt
    · obtain ⟨s, hs1, hs2⟩ := i32_of (k := 40 + 1) hs (by omega)
      rw [hs2, nI_toInt (by omega), Int.toNat_natCast]
      have key2 := eq_forG (rc := f_X4_digest_L187 N n f) (body := f_X4_digest_L187b N n f) (fun g i (l : Int64) => g l (nI r) i) (fun _ => rfl) 0 s (fun i => mx (fun i => n.1 46 (40 * r + i)) G i) (f (mx (fun i => n.1 46 (40 * r + i)) G s) (nI (r + 1))) ?_ ?_ N 0 (Nat.le_refl _) (Nat.zero_le _) (by omega)
      · exact key2
      · intro g i _ hi
        show f_X4_digest_L187b N n f g (mx (fun i => n.1 46 (40 * r + i)) G i) (nI r) (nI i) = g (mx (fun i => n.1 46 (40 * r + i)) G (i + 1)) (nI r) (nI (i + 1))
        unfold f_X4_digest_L187b
        rw [gdl_nI (by omega) hr, gdl0, nI_clamp (by omega), hs2, if_neg (by rw [nI_leI (by omega) (by omega)]; omega), show (40 : Int32) = nI 40 from rfl, pk_mul, nI_add, gdl_nI (by omega) (by omega), gdl0, nI_clamp (by omega), nI_1]; rfl
      · intro g
        show f_X4_digest_L187b N n f g _ (nI r) (nI s) = _
        unfold f_X4_digest_L187b
        rw [gdl_nI (by omega) hr, gdl0, nI_clamp (by omega), hs2, if_pos (by rw [nI_leI (by omega) (by omega)]; omega), nI_1]
    · rw [show (n.1 45 r).toInt.toNat = 0 by omega]
      cases N with
      | zero => omega
      | succ N' =>
        show f_X4_digest_L187b (N' + 1) n f (f_X4_digest_L187 (N' + 1) n f N') G (nI r) 0 = _
        unfold f_X4_digest_L187b
        rw [gdl_nI (by omega) hr, gdl0, nI_clamp (by omega), if_pos (by rw [i32_le, z0]; omega), nI_1]; rfl
  · intro f
    show f_X4_digest_L164b N n f _ (nI 6) = _
    unfold f_X4_digest_L164b
    rw [if_pos (by decide)]
set_option maxHeartbeats 1000000 in
theorem dX6_4 (N : Nat) (hN : 100 ≤ N) {n : xN} (h10 : n.1 4 0 = 4) (h11 : n.1 4 1 = 80) (h2 : I_row 80 4 (n.1 6) (n.1 5) (n.1 47) (n.1 48)) (H : Int64) : f_X1_mixInto_4 N H n = some (rwH 80 (n.1 47) (n.1 48) H 4) := by
  unfold f_X1_mixInto_4
  have key := eq_forG (rc := f_X1_mixInto_4_L5 N n) (body := f_X1_mixInto_4_L5b N n) (fun f i (l : Int64) => f l i) (fun _ => rfl) 0 4 (fun i => rwH 80 (n.1 47) (n.1 48) H i) (some (rwH 80 (n.1 47) (n.1 48) H 4)) ?_ ?_ N 0 (Nat.le_refl _) (Nat.zero_le _) (by omega)
  · exact key
  · intro f r _ hr
    show f_X1_mixInto_4_L5b N n f (rwH 80 (n.1 47) (n.1 48) H r) (nI r) = f (rwH 80 (n.1 47) (n.1 48) H (r + 1)) (nI (r + 1))
    obtain ⟨s1, s2, s3, s4⟩ := h2 r hr
    unfold f_X1_mixInto_4_L5b f_X3_mixed
    rw [h10, if_neg (by rw [show (4 : Int32) = nI 4 from rfl, nI_leI (by omega) (by omega)]; omega), gdl_nI (by omega) hr, gdl0, nI_clamp (by omega), s1, Option.bind_some, rwH]
    generalize (31 : Int64) * rwH 80 (n.1 47) (n.1 48) H r + Int32.toInt64 (n.1 47 r) = G
    by_cases hs : 0 ≤ (n.1 47 r).toInt
    · obtain ⟨s, hs1, hs2⟩ := i32_of (k := 80 + 1) hs (by omega)
      have e3 : n.1 6 r = nI s := by rw [s1, hs2]
      rw [hs2, nI_toInt (by omega), Int.toNat_natCast]
      have key2 := eq_forG (rc := f_X1_mixInto_4_L29 N n f) (body := f_X1_mixInto_4_L29b N n f) (fun g i (l : Int64) => g l (nI r) i) (fun _ => rfl) 0 s (fun i => mx (fun i => n.1 48 (80 * r + i)) G i) (f (mx (fun i => n.1 48 (80 * r + i)) G s) (nI (r + 1))) ?_ ?_ N 0 (Nat.le_refl _) (Nat.zero_le _) (by omega)
      · exact key2
      · intro g i _ hi
        show f_X1_mixInto_4_L29b N n f g (mx (fun i => n.1 48 (80 * r + i)) G i) (nI r) (nI i) = g (mx (fun i => n.1 48 (80 * r + i)) G (i + 1)) (nI r) (nI (i + 1))
        unfold f_X1_mixInto_4_L29b f_X3_mixed
        rw [gdl_nI (by omega) hr, gdl0, nI_clamp (by omega), e3, if_neg (by rw [nI_leI (by omega) (by omega)]; omega), e_cell4 n h11 hr (show i < 80 by omega), Option.bind_some, Option.bind_some, nI_1, s4 i (by rw [hs2, nI_toInt (by omega)]; omega)]; rfl
      · intro g
        show f_X1_mixInto_4_L29b N n f g _ (nI r) (nI s) = _
        unfold f_X1_mixInto_4_L29b
        rw [gdl_nI (by omega) hr, gdl0, nI_clamp (by omega), e3, if_pos (by rw [nI_leI (by omega) (by omega)]; omega), nI_1]
    · rw [show (n.1 47 r).toInt.toNat = 0 by omega]
      cases N with
      | zero => omega
      | succ N' =>
        show f_X1_mixInto_4_L29b (N' + 1) n f (f_X1_mixInto_4_L29 (N' + 1) n f N') G (nI r) 0 = _
        unfold f_X1_mixInto_4_L29b
        rw [gdl_nI (by omega) hr, gdl0, nI_clamp (by omega), s1, if_pos (by rw [i32_le, z0]; omega), nI_1]; rfl
  · intro f
    show f_X1_mixInto_4_L5b N n f _ (nI 4) = _
    unfold f_X1_mixInto_4_L5b
    rw [h10, if_pos (by decide)]
set_option maxHeartbeats 1000000 in
theorem dM6_4 (N : Nat) (hN : 100 ≤ N) {n : xN} (h2 : I_row 80 4 (n.1 6) (n.1 5) (n.1 47) (n.1 48)) (H : Int64) : f_X4_digest_L232 N n N H 0 = some (rwH 80 (n.1 47) (n.1 48) H 4) := by
  have key := eq_forG (rc := f_X4_digest_L232 N n) (body := f_X4_digest_L232b N n) (fun f i (l : Int64) => f l i) (fun _ => rfl) 0 4 (fun i => rwH 80 (n.1 47) (n.1 48) H i) (some (rwH 80 (n.1 47) (n.1 48) H 4)) ?_ ?_ N 0 (Nat.le_refl _) (Nat.zero_le _) (by omega)
  · exact key
  · intro f r _ hr
    show f_X4_digest_L232b N n f (rwH 80 (n.1 47) (n.1 48) H r) (nI r) = f (rwH 80 (n.1 47) (n.1 48) H (r + 1)) (nI (r + 1))
    obtain ⟨s1, s2, s3, s4⟩ := h2 r hr
    unfold f_X4_digest_L232b
    rw [if_neg (by rw [show (4 : Int32) = nI 4 from rfl, nI_leI (by omega) (by omega)]; omega), gdl_nI (by omega) hr, gdl0, nI_clamp (by omega), rwH]
    generalize (31 : Int64) * rwH 80 (n.1 47) (n.1 48) H r + Int32.toInt64 (n.1 47 r) = G
    by_cases hs : 0 ≤ (n.1 47 r).toInt
    · obtain ⟨s, hs1, hs2⟩ := i32_of (k := 80 + 1) hs (by omega)
      rw [hs2, nI_toInt (by omega), Int.toNat_natCast]
      have key2 := eq_forG (rc := f_X4_digest_L254 N n f) (body := f_X4_digest_L254b N n f) (fun g i (l : Int64) => g l (nI r) i) (fun _ => rfl) 0 s (fun i => mx (fun i => n.1 48 (80 * r + i)) G i) (f (mx (fun i => n.1 48 (80 * r + i)) G s) (nI (r + 1))) ?_ ?_ N 0 (Nat.le_refl _) (Nat.zero_le _) (by omega)
      · exact key2
      · intro g i _ hi
        show f_X4_digest_L254b N n f g (mx (fun i => n.1 48 (80 * r + i)) G i) (nI r) (nI i) = g (mx (fun i => n.1 48 (80 * r + i)) G (i + 1)) (nI r) (nI (i + 1))
        unfold f_X4_digest_L254b
        rw [gdl_nI (by omega) hr, gdl0, nI_clamp (by omega), hs2, if_neg (by rw [nI_leI (by omega) (by omega)]; omega), show (80 : Int32) = nI 80 from rfl, pk_mul, nI_add, gdl_nI (by omega) (by omega), gdl0, nI_clamp (by omega), nI_1]; rfl
      · intro g
        show f_X4_digest_L254b N n f g _ (nI r) (nI s) = _
        unfold f_X4_digest_L254b
        rw [gdl_nI (by omega) hr, gdl0, nI_clamp (by omega), hs2, if_pos (by rw [nI_leI (by omega) (by omega)]; omega), nI_1]
    · rw [show (n.1 47 r).toInt.toNat = 0 by omega]
      cases N with
      | zero => omega
      | succ N' =>
        show f_X4_digest_L254b (N' + 1) n f (f_X4_digest_L254 (N' + 1) n f N') G (nI r) 0 = _
        unfold f_X4_digest_L254b
        rw [gdl_nI (by omega) hr, gdl0, nI_clamp (by omega), if_pos (by rw [i32_le, z0]; omega), nI_1]; rfl
  · intro f
    show f_X4_digest_L232b N n f _ (nI 4) = _
    unfold f_X4_digest_L232b
    rw [if_pos (by decide)]
theorem op_digest (N : Nat) (hN : 100 ≤ N) : OpL (f_X3_digest N) (f_X4_digest N) := by
  intro n h
  obtain ⟨T, C, hc⟩ := Crt_of h
  obtain ⟨o, ho, eo, xo, hbd⟩ := On_of h hc
  have h8 := p8 hc.2.1
  obtain ⟨⟨a1, a2, a3, a4, a5, a6⟩, h2, h3, -⟩ := id h
  refine ⟨rwH 80 (n.1 47) (n.1 48) (rwH 40 (n.1 45) (n.1 46) (mx (cP n) (mx (cK n T o) (mx (n.1 41) (mx (bdM (n.1 40)) (mx (c9 N n) 17 9) 8) (5 * T)) (5 * C)) 3) 6) 4, ?_, ?_⟩
  · rw [dX1 N hN h, dX2 N hN hbd, dX3 N hN hc, dX4 N hN hc hbd xo (by omega), dX5 N hN h, dX6_1 N hN a1 a2 h2, Option.bind_some, dX6_4 N hN a4 a5 h3]; rfl
  · rw [dM1 N hN h, dM2 N hN, dM3 N hN hc, dM4 N hN hc eo (by omega), dM5 N hN, dM6_1 N hN h2, dM6_4 N hN h3]
