/-! ===== bits (the first family began as kit/laws/BITS.to-paste) ===== -/
/-! ===== Int32 by its bits: bt x i ===== -/
def bt (x : Int32) (i : Nat) : Bool := x.toBitVec.getLsbD i
theorem b_ext {x y : Int32} (h : ∀ i, i < 32 → bt x i = bt y i) : x = y := Int32.toBitVec_inj.mp (BitVec.eq_of_getLsbD_eq (fun i hi => h i hi))
theorem b_or (x y : Int32) (i : Nat) : bt (x ||| y) i = (bt x i || bt y i) := by unfold bt; rw [Int32.toBitVec_or, BitVec.getLsbD_or]
theorem b_and (x y : Int32) (i : Nat) : bt (x &&& y) i = (bt x i && bt y i) := by unfold bt; rw [Int32.toBitVec_and, BitVec.getLsbD_and]
theorem b_xor (x y : Int32) (i : Nat) : bt (x ^^^ y) i = (bt x i ^^ bt y i) := by unfold bt; rw [Int32.toBitVec_xor, BitVec.getLsbD_xor]
theorem b_big {x : Int32} {i : Nat} (h : 32 ≤ i) : bt x i = false := BitVec.getLsbD_of_ge _ _ h
theorem b_255 (i : Nat) : bt 255 i = decide (i < 8) := by
  rcases Nat.lt_or_ge i 32 with h | h
  · exact (by decide +kernel : ∀ i, i < 32 → bt 255 i = decide (i < 8)) i h
  · rw [b_big h, decide_eq_false (by omega)]
theorem b_65535 (i : Nat) : bt 65535 i = decide (i < 16) := by
  rcases Nat.lt_or_ge i 32 with h | h
  · exact (by decide +kernel : ∀ i, i < 32 → bt 65535 i = decide (i < 16)) i h
  · rw [b_big h, decide_eq_false (by omega)]
theorem b_m1 : ∀ i, i < 32 → bt (-1) i = true := by decide +kernel
theorem b_0 (i : Nat) : bt 0 i = false := BitVec.getLsbD_zero
theorem s_l : ∀ n, n < 32 → ((nI n &&& 31).toBitVec.smod 32).toNat = n := by decide +kernel
theorem s_u : ∀ n, n < 32 → (((nI n).toUInt32 &&& Int32.toUInt32 31).toBitVec % 32).toNat = n := by decide +kernel
theorem b_shl (n : Nat) (hn : n < 32) (x : Int32) {i : Nat} (hi : i < 32) : bt (x <<< (nI n &&& 31)) i = (decide (n ≤ i) && bt x (i - n)) := by
  unfold bt
  rw [Int32.toBitVec_shiftLeft]
  show (x.toBitVec <<< ((nI n &&& 31).toBitVec.smod 32).toNat).getLsbD i = _
  rw [s_l n hn, BitVec.getLsbD_shiftLeft]
  rcases Nat.lt_or_ge i n with h | h
  · simp [h, Nat.not_le.mpr h]
  · simp [hi, h, Nat.not_lt.mpr h]
theorem b_ushr (n : Nat) (hn : n < 32) (x : Int32) (i : Nat) : bt ((x.toUInt32 >>> ((nI n).toUInt32 &&& Int32.toUInt32 31)).toInt32) i = bt x (n + i) := by
  show (x.toUInt32 >>> ((nI n).toUInt32 &&& Int32.toUInt32 31)).toBitVec.getLsbD i = x.toUInt32.toBitVec.getLsbD (n + i)
  rw [UInt32.toBitVec_shiftRight]
  show (x.toUInt32.toBitVec >>> (((nI n).toUInt32 &&& Int32.toUInt32 31).toBitVec % 32).toNat).getLsbD i = _
  rw [s_u n hn, BitVec.getLsbD_ushiftRight]
theorem b_sshr (n : Nat) (hn : n < 32) (x : Int32) {i : Nat} (hi : i < 32) : bt (x >>> (nI n &&& 31)) i = if n + i < 32 then bt x (n + i) else bt x 31 := by
  unfold bt
  rw [Int32.toBitVec_shiftRight]
  show (x.toBitVec.sshiftRight ((nI n &&& 31).toBitVec.smod 32).toNat).getLsbD i = _
  rw [s_l n hn, BitVec.getLsbD_sshiftRight, BitVec.msb_eq_getLsbD_last]
  simp [hi]
theorem bt_nI {w i : Nat} (hw : w < 2 ^ 32) : bt (nI w) i = w.testBit i := by
  unfold bt
  show (nI w).toBitVec.toNat.testBit i = _
  rw [pk_tn hw]
theorem and_sh {w i : Nat} (hw : w < 2 ^ 31) (hi : i < 32) : (nI w >>> (nI i &&& 31)) &&& 1 = nI (w / 2 ^ i % 2) := by
  rw [pk_shrN hw (nI i &&& 31) i (s_l i hi)]
  have h := pk_andN (n := w / 2 ^ i) (Nat.lt_of_le_of_lt (Nat.div_le_self _ _) (by omega)) (m := 1) 1 (by decide)
  rw [h]
theorem tb_div (w i : Nat) : (w.testBit i = true) ↔ w / 2 ^ i % 2 = 1 := by
  rw [Nat.testBit_eq_decide_div_mod_eq]
  simp
theorem hs_iff {w i : Nat} (hw : w < 2 ^ 31) (hi : i < 32) : ((nI w >>> (nI i &&& 31)) &&& 1 = 1) ↔ w.testBit i = true := by
  rw [and_sh hw hi, tb_div, show (1 : Int32) = nI 1 from rfl, nI_eq (by omega) (by omega)]
theorem e_has {w i : Nat} (hw : w < 2 ^ 31) (hi : i < 32) : f_X4_has (nI w) (nI i) = some (bI (w.testBit i = true)) := by
  unfold f_X4_has f_X4_has_L14
  by_cases h : w.testBit i = true
  · rw [if_pos ((hs_iff hw hi).mpr h), bI_t h]; rfl
  · rw [if_neg (fun q => h ((hs_iff hw hi).mp q)), bI_f h]; rfl
theorem e_hasBit {w i : Nat} (hw : w < 2 ^ 31) (hi : i < 32) : f_X3_hasBit (nI w) (nI i) = some (bI (w.testBit i = true)) := by
  unfold f_X3_hasBit f_X3_hasBit_L14
  by_cases h : w.testBit i = true
  · rw [if_pos ((hs_iff hw hi).mpr h), bI_t h]; rfl
  · rw [if_neg (fun q => h ((hs_iff hw hi).mp q)), bI_f h]; rfl
theorem met_iff (a b : Int32) : (a &&& b = b) ↔ (b &&& (a ^^^ (-1)) = 0) := by
  constructor
  · intro h
    apply b_ext
    intro i hi
    have := congrArg (fun x => bt x i) h
    simp only [b_and, b_xor, b_m1 i hi, b_0] at this ⊢
    cases ha : bt a i <;> cases hb : bt b i <;> simp_all
  · intro h
    apply b_ext
    intro i hi
    have := congrArg (fun x => bt x i) h
    simp only [b_and, b_xor, b_m1 i hi, b_0] at this ⊢
    cases ha : bt a i <;> cases hb : bt b i <;> simp_all
theorem or_0 (a : Int32) : a ||| 0 = a := by
  apply b_ext
  intro i _
  rw [b_or, b_0, Bool.or_false]
theorem sh1 {k : Nat} (hk : k ≤ 30) : (1 : Int32) <<< (nI k &&& 31) = nI (2 ^ k) := by
  have : ∀ k, k ≤ 30 → (1 : Int32) <<< (nI k &&& 31) = nI (2 ^ k) := by decide +kernel
  exact this k hk
/-! ===== values, clauses, what holds of a way ===== -/
def vS (g : Nat → Int32) (T way t : Nat) : Int32 := if sumS g way t T < 5 then sumS g way t T else 5
theorem e_valueOf (N : Nat) (hN : 10 ≤ N) (n : xN) {T way t : Nat} (hT : T ≤ 6) (eT : n.1 39 1 = nI T) (hw : way < 2 ^ 31) (ht : t < 5) : f_X4_valueOf N (nI way) (nI t) n = some (vS (n.1 41) T way t) := by
  unfold f_X4_valueOf
  have key := eq_for (rc := fun k i s => f_X4_valueOf_L5 N n k (nI way) (nI t) s i) (body := fun k i s => f_X4_valueOf_L5b N n (fun _ _ a b => k b a) (nI way) (nI t) s i) (fun _ _ _ => rfl) 0 T (fun i => sumS (n.1 41) way t i) (some (vS (n.1 41) T way t)) ?_ ?_ N 0 (Nat.le_refl _) (by omega) (by omega)
  · exact key
  · intro k i _ hi
    unfold f_X4_valueOf_L5b f_X4_valueOf_L39
    rw [eT, if_neg (by rw [nI_leI (by omega) (by omega)]; omega), e_has hw (by omega), Option.bind_some, show (5 : Int32) = nI 5 from rfl, pk_mul, nI_add, gdl_nI (by omega) (by omega), gdl0, nI_clamp (by omega), nI_1]
    rw [sumS]
    by_cases h : way.testBit i = true
    · rw [bI_t h, if_neg (by decide), if_pos h]
    · rw [bI_f h, if_pos rfl, if_neg h]
  · intro k
    unfold f_X4_valueOf_L5b f_X4_valueOf_L57
    rw [eT, if_pos (by rw [nI_leI (by omega) (by omega)]; omega), vS]
    by_cases h : sumS (n.1 41) way t T < 5
    · rw [if_pos h, if_pos (by rw [i32_lt] at h; rw [i32_le]; omega)]
    · rw [if_neg h]
      by_cases h2 : sumS (n.1 41) way t T ≤ 5
      · rw [if_pos h2]
        congr 1
        rw [i32_lt] at h; rw [i32_le] at h2
        rw [i32_eq]
        omega
      · rw [if_neg h2]
theorem e_costOf (N : Nat) (hN : 10 ≤ N) (n : xN) {T way : Nat} (hT : T ≤ 6) (eT : n.1 39 1 = nI T) (hw : way < 2 ^ 31) : f_X4_costOf N (nI way) n = some (sumS (n.1 41) way 4 T) := by
  unfold f_X4_costOf
  have key := eq_for (rc := fun k i s => f_X4_costOf_L4 N n k (nI way) s i) (body := fun k i s => f_X4_costOf_L4b N n (fun _ a b => k b a) (nI way) s i) (fun _ _ _ => rfl) 0 T (fun i => sumS (n.1 41) way 4 i) (some (sumS (n.1 41) way 4 T)) ?_ ?_ N 0 (Nat.le_refl _) (by omega) (by omega)
  · exact key
  · intro k i _ hi
    unfold f_X4_costOf_L4b f_X4_costOf_L35
    rw [eT, if_neg (by rw [nI_leI (by omega) (by omega)]; omega), e_has hw (by omega), Option.bind_some, show (5 : Int32) = nI 5 from rfl, show (4 : Int32) = nI 4 from rfl, pk_mul, nI_add, gdl_nI (by omega) (by omega), gdl0, nI_clamp (by omega), nI_1]
    rw [sumS]
    by_cases h : way.testBit i = true
    · rw [bI_t h, if_neg (by decide), if_pos h]
    · rw [bI_f h, if_pos rfl, if_neg h]
  · intro k
    unfold f_X4_costOf_L4b
    rw [eT, if_pos (by rw [nI_leI (by omega) (by omega)]; omega)]
/-- whether a clause of a kind, of traits t and o, holds, by borders and values -/
def hB (bd v : Nat → Int32) (a t o : Nat) : Bool := match a with
  | 0 => decide (bd (2 * t + 1) ≤ v t)
  | 1 => decide (bd (2 * t) < v t) && decide (v t < bd (2 * t + 1))
  | 2 => decide (bd (2 * t + 1) ≤ v t) && decide (bd (2 * o + 1) ≤ v o)
  | 3 => !decide (bd (2 * t + 1) ≤ v t)
  | 4 => decide (v t = (bd (2 * t) + bd (2 * t + 1)) / 2) && (decide (bd (2 * t) < v t) && decide (v t < bd (2 * t + 1)))
  | _ => decide (bd (2 * t + 1) ≤ v t) && decide (v o ≤ bd (2 * o))
def bdM (row : Nat → Int32) : Nat → Int32 := fun b => row (2 + b)
theorem e_upperM (n : xN) {t : Nat} (ht : t < 4) : f_X4_upperOf (nI t) n = some (bdM (n.1 40) (2 * t + 1)) := by
  unfold f_X4_upperOf bdM
  rw [show (2 : Int32) = nI 2 from rfl, show (1 : Int32) = nI 1 from rfl, pk_mul, nI_add, nI_add, gdl_nI (by omega) (by omega), gdl0, nI_clamp (by omega)]
  rfl
theorem e_lowerM (n : xN) {t : Nat} (ht : t < 4) : f_X4_lowerOf (nI t) n = some (bdM (n.1 40) (2 * t)) := by
  unfold f_X4_lowerOf bdM
  rw [show (2 : Int32) = nI 2 from rfl, pk_mul, nI_add, gdl_nI (by omega) (by omega), gdl0, nI_clamp (by omega)]
theorem nle_lt (a b : Int32) : ¬ a ≤ b ↔ b < a := by rw [i32_le, i32_lt]; omega
theorem nlt_le (a b : Int32) : ¬ a < b ↔ b ≤ a := by rw [i32_le, i32_lt]; omega
theorem e_isMuch (N : Nat) (hN : 10 ≤ N) (n : xN) {T way t : Nat} (hT : T ≤ 6) (eT : n.1 39 1 = nI T) (hw : way < 2 ^ 31) (ht : t < 4) : f_X4_isMuch N (nI way) (nI t) n = some (bI (bdM (n.1 40) (2 * t + 1) ≤ vS (n.1 41) T way t)) := by
  unfold f_X4_isMuch f_X4_isMuch_L19
  rw [e_valueOf N hN n hT eT hw (by omega), Option.bind_some, e_upperM n ht, Option.bind_some]
  by_cases h : vS (n.1 41) T way t < bdM (n.1 40) (2 * t + 1)
  · rw [if_pos h, bI_f (fun q => (nle_lt _ _).mpr h q)]; rfl
  · rw [if_neg h, bI_t ((nlt_le _ _).mp h)]; rfl
theorem e_isLittle (N : Nat) (hN : 10 ≤ N) (n : xN) {T way t : Nat} (hT : T ≤ 6) (eT : n.1 39 1 = nI T) (hw : way < 2 ^ 31) (ht : t < 4) : f_X4_isLittle N (nI way) (nI t) n = some (bI (vS (n.1 41) T way t ≤ bdM (n.1 40) (2 * t))) := by
  unfold f_X4_isLittle f_X4_isLittle_L19
  rw [e_valueOf N hN n hT eT hw (by omega), Option.bind_some, e_lowerM n ht, Option.bind_some]
  by_cases h : bdM (n.1 40) (2 * t) < vS (n.1 41) T way t
  · rw [if_pos h, bI_f (fun q => (nle_lt _ _).mpr h q)]; rfl
  · rw [if_neg h, bI_t ((nlt_le _ _).mp h)]; rfl
theorem e_isBetween (n : xN) {t : Nat} (ht : t < 4) (v : Int32) : f_X4_isBetween v (nI t) n = some (bI (bdM (n.1 40) (2 * t) < v ∧ v < bdM (n.1 40) (2 * t + 1))) := by
  unfold f_X4_isBetween f_X4_isBetween_L22 f_X4_isBetween_L23
  rw [e_lowerM n ht, Option.bind_some, e_upperM n ht, Option.bind_some]
  by_cases h : v ≤ bdM (n.1 40) (2 * t)
  · rw [if_pos h, bI_f (fun q => (nle_lt _ _).mpr q.1 h)]; rfl
  · rw [if_neg h]
    by_cases h2 : bdM (n.1 40) (2 * t + 1) ≤ v
    · rw [if_pos h2, bI_f (fun q => (nle_lt _ _).mpr q.2 h2)]; rfl
    · rw [if_neg h2, bI_t ⟨(nle_lt _ _).mp h, (nle_lt _ _).mp h2⟩]; rfl
theorem e_half (n : xN) {t : Nat} (ht : t < 4) : f_X4_half (nI t) n = some ((bdM (n.1 40) (2 * t) + bdM (n.1 40) (2 * t + 1)) / 2) := by
  unfold f_X4_half
  rw [e_lowerM n ht, Option.bind_some, e_upperM n ht, Option.bind_some, gdlT (by decide), gdl0]
