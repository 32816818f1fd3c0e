/-! ===== which clauses hold of a way, as a set ===== -/
def maskN (p : Nat → Bool) : Nat → Nat
  | 0 => 0
  | k + 1 => maskN p k + (if p k = true then 2 ^ k else 0)
theorem maskN_lt (p : Nat → Bool) (C : Nat) : maskN p C < 2 ^ C := by
  induction C with
  | zero => exact Nat.one_pos
  | succ k ih =>
    rw [maskN, Nat.pow_succ]
    split <;> omega
theorem maskN_or (p : Nat → Bool) (k : Nat) : maskN p k ||| 2 ^ k = maskN p k + 2 ^ k := by
  have h := Nat.two_pow_add_eq_or_of_lt (maskN_lt p k) 1
  rw [Nat.mul_one] at h
  rw [Nat.or_comm, ← h, Nat.add_comm]
theorem maskN_tb (p : Nat → Bool) (C k : Nat) : (maskN p C).testBit k = (decide (k < C) && p k) := by
  induction C with
  | zero => simp [maskN]
  | succ c ih =>
    rw [maskN]
    by_cases hp : p c = true
    · rw [if_pos hp, ← maskN_or, Nat.testBit_or, ih, Nat.testBit_two_pow]
      by_cases hk : k = c
      · subst hk; simp [hp]
      · have : ¬ c = k := fun q => hk q.symm
        by_cases h2 : k < c
        · have : k < c + 1 := by omega
          simp [*]
        · have : ¬ k < c + 1 := by omega
          simp [*]
    · rw [if_neg hp, Nat.add_zero, ih]
      by_cases hk : k = c
      · subst hk; simp [hp]
      · by_cases h2 : k < c
        · have : k < c + 1 := by omega
          simp [*]
        · have : ¬ k < c + 1 := by omega
          simp [*]
theorem maskN_c {p q : Nat → Bool} {C : Nat} (h : ∀ k, k < C → p k = q k) : maskN p C = maskN q C := by
  induction C with
  | zero => rfl
  | succ c ih => rw [maskN, maskN, ih (fun k hk => h k (by omega)), h c (by omega)]
theorem nI_and {a b : Nat} (ha : a < 2 ^ 31) (hb : b < 2 ^ 31) : nI a &&& nI b = nI (a &&& b) := by
  apply b_ext
  intro i _
  rw [b_and, bt_nI (by omega), bt_nI (by omega), bt_nI (Nat.lt_of_le_of_lt Nat.and_le_left (by omega)), Nat.testBit_and]
theorem nI_or {a b : Nat} (ha : a < 2 ^ 31) (hb : b < 2 ^ 31) : nI a ||| nI b = nI (a ||| b) := by
  apply b_ext
  intro i _
  rw [b_or, bt_nI (by omega), bt_nI (by omega), bt_nI (Nat.lt_trans (Nat.or_lt_two_pow ha hb) (by omega)), Nat.testBit_or]
theorem p2 {k m : Nat} (h : k ≤ m) : 2 ^ k ≤ 2 ^ m := Nat.pow_le_pow_right (by decide) h
theorem mask_step (p : Nat → Bool) {k : Nat} (hk : k ≤ 20) : nI (maskN p k) ||| ((1 : Int32) <<< (nI k &&& 31)) = nI (maskN p k + 2 ^ k) := by
  have h1 := maskN_lt p k
  have h2 : 2 ^ k ≤ 2 ^ 20 := p2 hk
  have h3 : (2 : Nat) ^ 20 < 2 ^ 31 := by decide
  rw [sh1 (by omega), nI_or (by omega) (by omega), maskN_or]
/-- the court, as both sides have it -/
def kn (n : xN) (k : Nat) : Nat := (n.1 42 k).toNatClampNeg
def tr (n : xN) (k : Nat) : Nat := (n.1 43 k).toNatClampNeg
def sc (n : xN) (k : Nat) : Nat := if n.1 44 k = -9 then (tr n k + 1) % 4 else (n.1 44 k).toNatClampNeg
def Crt (n : xN) (T C : Nat) : Prop := T ≤ 6 ∧ C ≤ 8 ∧ (T = 0 → C = 0) ∧ n.1 39 1 = nI T ∧ n.1 39 3 = nI C ∧ n.1 7 0 = nI T ∧ n.1 7 1 = nI C ∧
  (∀ way, way < 2 ^ T → ∀ w, w < 5 → n.1 9 (5 * way + w) = sumS (n.1 41) way w T) ∧
  (∀ k, k < C → kn n k ≤ 5 ∧ n.1 42 k = nI (kn n k) ∧ n.1 10 k = nI (kn n k) ∧ tr n k < 4 ∧ n.1 43 k = nI (tr n k) ∧ n.1 11 k = nI (tr n k) ∧ n.1 12 k = n.1 44 k ∧ sec (n.1 44 k) (tr n k) (sc n k) ∧ ((kn n k = 2 ∨ kn n k = 5) → n.1 44 k = nI (sc n k) ∧ sc n k < 4) ∧ ((kn n k ≠ 2 ∧ kn n k ≠ 5) → n.1 44 k = -9)) ∧
  (∀ i, i < T → ∀ w, w < 5 → n.1 8 (5 * i + w) = n.1 41 (5 * i + w) ∧ ∃ q : Nat, q ≤ 9 ∧ n.1 41 (5 * i + w) = nI q)
theorem Crt_of {n : xN} (h : Inv n) : ∃ T C, Crt n T C := by
  obtain ⟨-, -, -, -, -, ⟨e1, e2, T, C, hT, hC, eT, eC, h0, hg, hs, hk⟩, -⟩ := h
  refine ⟨T, C, hT, hC, h0, eT, eC, by rw [e1, eT], by rw [e2, eC], hs, fun k hkC => ?_, hg⟩
  obtain ⟨a1, a2, a3, a, b, ha, ea, hb, eb, ho⟩ := hk k hkC
  have ka : kn n k = a := by rw [kn, ea, nI_clamp (by omega)]
  have tb : tr n k = b := by rw [tr, eb, nI_clamp (by omega)]
  rcases ho with ⟨o1, o2, o3⟩ | ⟨c, hc, ec, o2⟩
  · have es : sc n k = (b + 1) % 4 := by rw [sc, if_pos o1, tb]
    rw [ka, tb, es]
    exact ⟨ha, ea, by rw [a1, ea], by omega, eb, by rw [a2, eb], a3, Or.inr ⟨o1, rfl⟩, fun q => absurd q (by omega), fun _ => o1⟩
  · have hn : ¬ n.1 44 k = -9 := by
      rw [ec]
      intro q
      have := congrArg Int32.toInt q
      rw [nI_toInt (by omega)] at this
      have z : (-9 : Int32).toInt = -9 := by decide
      omega
    have es : sc n k = c := by rw [sc, if_neg hn, ec, nI_clamp (by omega)]
    rw [ka, tb, es]
    exact ⟨ha, ea, by rw [a1, ea], by omega, eb, by rw [a2, eb], a3, Or.inl ⟨ec, by omega⟩, fun _ => ⟨ec, by omega⟩, fun q => absurd q (by omega)⟩
theorem Crt_keep {n m : xN} {T C : Nat} (h : Crt n T C) (e39 : m.1 39 1 = n.1 39 1 ∧ m.1 39 3 = n.1 39 3) (e7 : m.1 7 = n.1 7) (e8 : m.1 8 = n.1 8) (e9 : m.1 9 = n.1 9) (e10 : m.1 10 = n.1 10) (e11 : m.1 11 = n.1 11) (e12 : m.1 12 = n.1 12) (e41 : m.1 41 = n.1 41) (e42 : m.1 42 = n.1 42) (e43 : m.1 43 = n.1 43) (e44 : m.1 44 = n.1 44) : Crt m T C := by
  unfold Crt sc kn tr at *
  rw [e39.1, e39.2, e7, e8, e9, e10, e11, e12, e41, e42, e43, e44]
  exact h
def hbK (n : xN) (bd : Nat → Int32) (T way k : Nat) : Bool := hB bd (vS (n.1 41) T way) (kn n k) (tr n k) (sc n k)
/-- the set of the clauses that hold of a way, by borders -/
def HN (n : xN) (bd : Nat → Int32) (T C way : Nat) : Nat := maskN (hbK n bd T way) C
theorem HN_lt (n : xN) (bd : Nat → Int32) (T C way : Nat) : HN n bd T C way < 2 ^ C := maskN_lt _ _
theorem hB_c {bd bd' v : Nat → Int32} {a t o : Nat} (h : ∀ b, b < 8 → bd b = bd' b) (ht : t < 4) (ho : o < 4) : hB bd v a t o = hB bd' v a t o := by
  unfold hB
  rw [h (2 * t) (by omega), h (2 * t + 1) (by omega), h (2 * o) (by omega), h (2 * o + 1) (by omega)]
theorem HN_c {n : xN} {bd bd' : Nat → Int32} {T C way : Nat} (hc : Crt n T C) (h : ∀ b, b < 8 → bd b = bd' b) : HN n bd T C way = HN n bd' T C way := by
  refine maskN_c (fun k hk => ?_)
  obtain ⟨-, -, -, -, -, -, -, -, hcl, -⟩ := hc
  obtain ⟨-, -, -, ht, -, -, -, ho, -⟩ := hcl k hk
  exact hB_c h ht (sec_lt ho)
theorem e_holdsIn (N : Nat) (hN : 10 ≤ N) (n : xN) {T C way k : Nat} (hc : Crt n T C) (hw : way < 2 ^ 31) (hk : k < C) : f_X4_holdsIn N (nI k) (nI way) n = some (bI (hbK n (bdM (n.1 40)) T way k = true)) := by
  obtain ⟨hT, hC, -, eT, eC, -, -, -, hcl, -⟩ := hc
  obtain ⟨ha, ea, -, ht, et, -, -, ho, h2, -⟩ := hcl k hk
  unfold f_X4_holdsIn
  rw [gdl_nI (by omega) (by omega), gdl_nI (by omega) (by omega), gdl_nI (by omega) (by omega), gdl0, nI_clamp (by omega)]
  rw [show f_X4_holdsOf N (n.1 42 k) (n.1 43 k) (n.1 44 k) (nI way) n = f_X4_holdsOf N (nI (kn n k)) (nI (tr n k)) (n.1 44 k) (nI way) n by rw [← ea, ← et], e_holdsOf N hN n hT eT hw ha ht h2, Option.bind_some, gdl_bI, gdl0]
  rfl
theorem e_heldByM (N : Nat) (hN : 10 ≤ N) (n : xN) {T C way : Nat} (hc : Crt n T C) (hw : way < 2 ^ 31) : f_X4_heldBy N (nI way) n = some (nI (HN n (bdM (n.1 40)) T C way)) := by
  obtain ⟨hT, hC, -, eT, eC, -⟩ := id hc
  unfold f_X4_heldBy
  have key := eq_for (rc := fun k i s => f_X4_heldBy_L4 N n k (nI way) s i) (body := fun k i s => f_X4_heldBy_L4b N n (fun _ a b => k b a) (nI way) s i) (fun _ _ _ => rfl) 0 C (fun i => nI (maskN (hbK n (bdM (n.1 40)) T way) i)) (some (nI (HN n (bdM (n.1 40)) T C way))) ?_ ?_ N 0 (Nat.le_refl _) (by omega) (by omega)
  · exact key
  · intro k i _ hi
    unfold f_X4_heldBy_L4b f_X4_heldBy_L29
    rw [eC, if_neg (by rw [nI_leI (by omega) (by omega)]; omega), e_holdsIn N hN n hc hw hi, Option.bind_some, nI_1]
    by_cases h : hbK n (bdM (n.1 40)) T way i = true
    · rw [bI_t h, if_neg (by decide), mask_step _ (by omega), maskN, if_pos h]
    · rw [bI_f h, if_pos rfl, or_0, maskN, if_neg h]; rfl
  · intro k
    unfold f_X4_heldBy_L4b
    rw [eC, if_pos (by rw [nI_leI (by omega) (by omega)]; omega)]
    rfl
theorem e_heldAsK20 {n : xN} {T C way k a : Nat} (hc : Crt n T C) (hw : way < 2 ^ T) (hk : k < C) (ha : a ≤ 5) : f_X0_isHeldAs_7_20 (nI a) (nI k) (nI way) n = some (bI (hB (n.1 20) (vS (n.1 41) T way) a (tr n k) (sc n k) = true)) := by
  obtain ⟨hT, hC, -, eT, eC, -, -, hs, hcl, -⟩ := hc
  obtain ⟨-, -, -, ht, -, et, eo, ho, -⟩ := hcl k hk
  exact e_heldAs20 n hT hw ha (by omega) et ht (by rw [eo]; exact ho) (hs way hw)
theorem e_heldBy20 (N : Nat) (hN : 10 ≤ N) (n : xN) {T C way : Nat} (hc : Crt n T C) (hw : way < 2 ^ T) : f_X0_heldBy_7_20 N (nI way) n = some (nI (HN n (n.1 20) T C way)) := by
  obtain ⟨hT, hC, -, -, -, -, eC, hs, hcl, -⟩ := id hc
  unfold f_X0_heldBy_7_20
  have key := eq_for (rc := fun k i s => f_X0_heldBy_7_20_L5 N n k (nI way) s i) (body := fun k i s => f_X0_heldBy_7_20_L5b N n (fun _ a b => k b a) (nI way) s i) (fun _ _ _ => rfl) 0 C (fun i => nI (maskN (hbK n (n.1 20) T way) i)) (some (nI (HN n (n.1 20) T C way))) ?_ ?_ N 0 (Nat.le_refl _) (by omega) (by omega)
  · exact key
  · intro k i _ hi
    obtain ⟨ha, -, ea, -⟩ := hcl i hi
    unfold f_X0_heldBy_7_20_L5b f_X0_heldBy_7_20_L39
    rw [eC, if_neg (by rw [nI_leI (by omega) (by omega)]; omega), gdl_nI (by omega) (by omega), gdl0, nI_clamp (by omega), ea, e_heldAsK20 hc hw hi ha, Option.bind_some, nI_1]
    by_cases h : hB (n.1 20) (vS (n.1 41) T way) (kn n i) (tr n i) (sc n i) = true
    · rw [bI_t h, if_neg (by decide), mask_step _ (by omega), maskN, if_pos (show hbK n (n.1 20) T way i = true from h)]
    · rw [bI_f h, if_pos rfl, maskN, if_neg (show ¬ hbK n (n.1 20) T way i = true from h)]; rfl
  · intro k
    unfold f_X0_heldBy_7_20_L5b
    rw [eC, if_pos (by rw [nI_leI (by omega) (by omega)]; omega)]
    rfl
theorem e_heldAsK37 {n : xN} {T C way k a : Nat} (hc : Crt n T C) (hw : way < 2 ^ T) (hk : k < C) (ha : a ≤ 5) : f_X0_isHeldAs_7_37 (nI a) (nI k) (nI way) n = some (bI (hB (n.1 37) (vS (n.1 41) T way) a (tr n k) (sc n k) = true)) := by
  obtain ⟨hT, hC, -, eT, eC, -, -, hs, hcl, -⟩ := hc
  obtain ⟨-, -, -, ht, -, et, eo, ho, -⟩ := hcl k hk
  exact e_heldAs37 n hT hw ha (by omega) et ht (by rw [eo]; exact ho) (hs way hw)
theorem e_heldBy37 (N : Nat) (hN : 10 ≤ N) (n : xN) {T C way : Nat} (hc : Crt n T C) (hw : way < 2 ^ T) : f_X0_heldBy_7_37 N (nI way) n = some (nI (HN n (n.1 37) T C way)) := by
  obtain ⟨hT, hC, -, -, -, -, eC, hs, hcl, -⟩ := id hc
  unfold f_X0_heldBy_7_37
  have key := eq_for (rc := fun k i s => f_X0_heldBy_7_37_L5 N n k (nI way) s i) (body := fun k i s => f_X0_heldBy_7_37_L5b N n (fun _ a b => k b a) (nI way) s i) (fun _ _ _ => rfl) 0 C (fun i => nI (maskN (hbK n (n.1 37) T way) i)) (some (nI (HN n (n.1 37) T C way))) ?_ ?_ N 0 (Nat.le_refl _) (by omega) (by omega)
  · exact key
  · intro k i _ hi
    obtain ⟨ha, -, ea, -⟩ := hcl i hi
    unfold f_X0_heldBy_7_37_L5b f_X0_heldBy_7_37_L39
    rw [eC, if_neg (by rw [nI_leI (by omega) (by omega)]; omega), gdl_nI (by omega) (by omega), gdl0, nI_clamp (by omega), ea, e_heldAsK37 hc hw hi ha, Option.bind_some, nI_1]
    by_cases h : hB (n.1 37) (vS (n.1 41) T way) (kn n i) (tr n i) (sc n i) = true
    · rw [bI_t h, if_neg (by decide), mask_step _ (by omega), maskN, if_pos (show hbK n (n.1 37) T way i = true from h)]
    · rw [bI_f h, if_pos rfl, maskN, if_neg (show ¬ hbK n (n.1 37) T way i = true from h)]; rfl
  · intro k
    unfold f_X0_heldBy_7_37_L5b
    rw [eC, if_pos (by rw [nI_leI (by omega) (by omega)]; omega)]
    rfl
/-- met: all that are on hold -/
def met (h o : Nat) : Prop := h &&& o = o
theorem e_isMet {h o : Nat} (hh : h < 2 ^ 31) (ho : o < 2 ^ 31) : f_X3_isMet (nI h) (nI o) = some (bI (h &&& o = o)) := by
  unfold f_X3_isMet f_X3_isMet_L12
  rw [nI_and hh ho]
  have e : (nI (h &&& o) = nI o) ↔ h &&& o = o := nI_eq (Nat.lt_of_le_of_lt Nat.and_le_left hh) ho
  by_cases q : h &&& o = o
  · rw [if_pos (e.mpr q), bI_t q]; rfl
  · rw [if_neg (fun z => q (e.mp z)), bI_f q]; rfl
theorem met_M {h o : Nat} (hh : h < 2 ^ 31) (ho : o < 2 ^ 31) : (nI o &&& (nI h ^^^ (-1)) = 0) ↔ h &&& o = o := by
  rw [← met_iff, nI_and hh ho]
  exact nI_eq (Nat.lt_of_le_of_lt Nat.and_le_left hh) ho
theorem p8 {C : Nat} (h : C ≤ 8) : 2 ^ C ≤ 256 := p2 (m := 8) h
theorem e_goodM (N : Nat) (hN : 10 ≤ N) (n : xN) {T C way o : Nat} (hc : Crt n T C) (hw : way < 2 ^ 31) (eo : n.1 40 1 = nI o) (ho : o < 2 ^ 31) : f_X4_isGood N (nI way) n = some (bI (HN n (bdM (n.1 40)) T C way &&& o = o)) := by
  have h8 := p8 hc.2.1
  have hl := HN_lt n (bdM (n.1 40)) T C way
  unfold f_X4_isGood f_X4_isGood_L22
  rw [gdlT (show inb 1 1480 = true by decide), gdl0, show Int32.toNatClampNeg 1 = 1 by decide, e_heldByM N hN n hc hw, Option.bind_some, eo]
  by_cases q : HN n (bdM (n.1 40)) T C way &&& o = o
  · rw [if_pos ((met_M (by omega) ho).mpr q), bI_t q]; rfl
  · rw [if_neg (fun z => q ((met_M (by omega) ho).mp z)), bI_f q]; rfl
theorem e_goodX (N : Nat) (hN : 10 ≤ N) (n : xN) {T C way o : Nat} (hc : Crt n T C) (hw : way < 2 ^ T) (eo : n.1 19 1 = nI o) (ho : o < 2 ^ 31) : f_X3_isGood N (nI way) n = some (bI (HN n (n.1 20) T C way &&& o = o)) := by
  have h8 := p8 hc.2.1
  have hl := HN_lt n (n.1 20) T C way
  unfold f_X3_isGood
  rw [e_heldBy20 N hN n hc hw, Option.bind_some, eo, e_isMet (by omega) ho, Option.bind_some, gdl_bI, gdl0]
theorem e_waysM (n : xN) {T : Nat} (hT : T ≤ 6) (eT : n.1 39 1 = nI T) : f_X4_ways n = some (nI (2 ^ T)) := by
  unfold f_X4_ways
  rw [eT, sh1 (by omega)]
theorem e_waysX (n : xN) {T : Nat} (hT : T ≤ 6) (eT : n.1 7 0 = nI T) : f_X0_ways_7 n = some (nI (2 ^ T)) := by
  unfold f_X0_ways_7
  rw [eT, sh1 (by omega)]
theorem e_isWayM (n : xN) {T : Nat} (hT : T ≤ 6) (eT : n.1 39 1 = nI T) (a : Int32) : f_X4_isWay a n = some (bI (0 ≤ a.toInt ∧ a.toInt < (2 ^ T : Nat))) := by
  have h6 : 2 ^ T ≤ 2 ^ 6 := p2 hT
  unfold f_X4_isWay
  rw [e_waysM n hT eT, Option.bind_some]
  generalize 2 ^ T = W at *
  rw [e_inm a _ (by rw [nI_toInt (by omega)]; omega), Option.bind_some, gdl_bI, gdl0]
  exact congrArg some (bI_c (by rw [nI_toInt (by omega)]))
theorem e_isWayX (n : xN) {T : Nat} (hT : T ≤ 6) (eT : n.1 7 0 = nI T) (a : Int32) : f_X0_isWay_7 a n = some (bI (0 ≤ a.toInt ∧ a.toInt < (2 ^ T : Nat))) := by
  have h6 : 2 ^ T ≤ 2 ^ 6 := p2 hT
  unfold f_X0_isWay_7 f_X0_isWay_7_L16 f_X0_isWay_7_L17
  rw [e_waysX n hT eT, Option.bind_some]
  simp only [i32_lt, i32_le, z0]
  rw [nI_toInt (by omega)]
  by_cases h1 : a.toInt < 0
  · rw [if_pos h1, bI_f (by omega)]; rfl
  · rw [if_neg h1]
    by_cases h2 : ((2 ^ T : Nat) : Int) ≤ a.toInt
    · rw [if_pos h2, bI_f (by omega)]; rfl
    · rw [if_neg h2, bI_t (by omega)]; rfl
