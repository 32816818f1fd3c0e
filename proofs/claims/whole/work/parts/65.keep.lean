/-! ===== promises 19, 20: keep, on ===== -/
def cpC (m : xN) (a b i : Nat) : xN := (va_up m.1 40 (fun p => if b ≤ p ∧ p < b + i then m.1 40 (p - b + a) else m.1 40 p), m.2)
theorem cpC1 {m : xN} {a b i c : Nat} : (cpC m a b i).1 c = if c = 40 then (fun p => if b ≤ p ∧ p < b + i then m.1 40 (p - b + a) else m.1 40 p) else m.1 c := by simp [cpC, va_up]
theorem cpC_0 (m : xN) (a b : Nat) : cpC m a b 0 = m := by
  refine Prod.ext (funext fun c => ?_) rfl
  rw [cpC1]
  split
  · rename_i h; subst h
    funext p
    rw [if_neg (by omega)]
  · rfl
theorem cpC_s (m : xN) {a b i : Nat} (hi : i < 370) (hab : a + 370 ≤ b ∨ b + 370 ≤ a) : mI (cpC m a b i) 40 (b + i) ((cpC m a b i).1 40 (a + i)) = cpC m a b (i + 1) := by
  refine Prod.ext (funext fun c => ?_) rfl
  rw [mI1]
  by_cases h : c = 40
  · subst h
    rw [if_pos rfl, cpC1, cpC1, if_pos rfl, if_pos rfl]
    funext p
    by_cases hp : p = b + i
    · subst hp
      rw [upd_s, if_neg (by omega), if_pos (by omega), show b + i - b + a = a + i by omega]
    · rw [upd_o hp]
      by_cases h3 : b ≤ p ∧ p < b + i
      · rw [if_pos h3, if_pos (by omega)]
      · rw [if_neg h3, if_neg (by omega)]
  · rw [if_neg h, cpC1, cpC1, if_neg h, if_neg h]
theorem e_copyC (N : Nat) (hN : 400 ≤ N) (m : xN) {a b : Nat} (ha : a + 370 ≤ 1480) (hb : b + 370 ≤ 1480) (hab : a + 370 ≤ b ∨ b + 370 ≤ a) : f_X4_copyCourt N (nI a) (nI b) m = some (cpC m a b 370) := by
  unfold f_X4_copyCourt
  have key := eq_forG (rc := f_X4_copyCourt_L2 N) (body := f_X4_copyCourt_L2b N) (fun f i (u : xN) => f (nI a) (nI b) i u) (fun _ => rfl) 0 370 (fun i => cpC m a b i) (some (cpC m a b 370)) ?_ ?_ N 0 (Nat.le_refl _) (Nat.zero_le _) (by omega)
  · have k2 : f_X4_copyCourt_L2 N N (nI a) (nI b) 0 (cpC m a b 0) = _ := key
    rw [cpC_0] at k2
    exact k2
  · intro f i _ hi
    show f_X4_copyCourt_L2b N f (nI a) (nI b) (nI i) (cpC m a b i) = f (nI a) (nI b) (nI (i + 1)) (cpC m a b (i + 1))
    unfold f_X4_copyCourt_L2b
    rw [if_neg (by rw [show (370 : Int32) = nI 370 from rfl, nI_leI (by omega) (by omega)]; omega), nI_add, nI_add, gdl_nI (by omega) (by omega), gdl_nI (by omega) (by omega), gdl0, nI_clamp (by omega), nI_clamp (by omega), cpC_s m hi hab, nI_1]
  · intro f
    show f_X4_copyCourt_L2b N f (nI a) (nI b) (nI 370) (cpC m a b 370) = _
    unfold f_X4_copyCourt_L2b
    rw [if_pos (by decide)]
theorem cpC_r (m : xN) {a b i : Nat} (hi : i < 370) : (cpC m a b 370).1 40 (b + i) = m.1 40 (a + i) := by
  rw [cpC1, if_pos rfl, if_pos (by omega), show b + i - b + a = a + i by omega]
theorem cpC_q (m : xN) {a b p : Nat} (hp : p < b ∨ b + 370 ≤ p) : (cpC m a b 370).1 40 p = m.1 40 p := by
  rw [cpC1, if_pos rfl, if_neg (by omega)]
theorem cpk8 : cpok 0 0 8 8 8 = true := by decide
theorem cpk40 : cpok 0 0 40 40 40 = true := by decide
theorem mCp1 {n : xN} {a0 a1 b : Nat} {c : Int32} {k : Nat} (hc : c.toNatClampNeg = k) : (mCp n a0 a1 0 0 c).1 b = if b = a1 then (fun j => if j < k then n.1 a0 j else n.1 a1 j) else n.1 b := by
  unfold mCp
  simp only [va_up]
  split
  · funext j
    unfold va_cpy
    rw [hc, tn0]
    by_cases h : j < k
    · rw [if_pos (by omega), if_pos h]; simp
    · rw [if_neg (by omega), if_neg h]
  · rfl
theorem t8 : (8 : Int32).toNatClampNeg = 8 := by decide
theorem t40 : (40 : Int32).toNatClampNeg = 40 := by decide
/-- one standing taken over by another -/
def tkF (n : xN) (d s : Nat) : xN := mCp (mCp (mCp (mI (mI n d 1 (n.1 s 1)) d 2 (n.1 s 2)) (s + 1) (d + 1) 0 0 8) (s + 2) (d + 2) 0 0 40) (s + 3) (d + 3) 0 0 40
theorem tk_o (n : xN) {d s c : Nat} (h : c < d ∨ d + 3 < c) : (tkF n d s).1 c = n.1 c := by
  unfold tkF
  rw [mCp1 t40, if_neg (by omega), mCp1 t40, if_neg (by omega), mCp1 t8, if_neg (by omega), mI1, if_neg (by omega), mI1, if_neg (by omega)]
theorem tk_0 (n : xN) (d s : Nat) : (tkF n d s).1 d = upd (upd (n.1 d) 1 (n.1 s 1)) 2 (n.1 s 2) := by
  unfold tkF
  rw [mCp1 t40, if_neg (by omega), mCp1 t40, if_neg (by omega), mCp1 t8, if_neg (by omega), mI1, if_pos rfl, mI1, if_pos rfl]
theorem tk_1 (n : xN) {d s b : Nat} (hds : s + 3 < d ∨ d + 3 < s) (hb : b < 8) : (tkF n d s).1 (d + 1) b = n.1 (s + 1) b := by
  unfold tkF
  rw [mCp1 t40, if_neg (by omega), mCp1 t40, if_neg (by omega), mCp1 t8, if_pos rfl, if_pos hb, mI1, if_neg (by omega), mI1, if_neg (by omega)]
theorem tk_2 (n : xN) {d s b : Nat} (hds : s + 3 < d ∨ d + 3 < s) (hb : b < 40) : (tkF n d s).1 (d + 2) b = n.1 (s + 2) b := by
  unfold tkF
  rw [mCp1 t40, if_neg (by omega), mCp1 t40, if_pos rfl, if_pos hb, mCp1 t8, if_neg (by omega), mI1, if_neg (by omega), mI1, if_neg (by omega)]
theorem tk_3 (n : xN) {d s b : Nat} (hds : s + 3 < d ∨ d + 3 < s) (hb : b < 40) : (tkF n d s).1 (d + 3) b = n.1 (s + 3) b := by
  unfold tkF
  rw [mCp1 t40, if_pos rfl, if_pos hb, mCp1 t40, if_neg (by omega), mCp1 t8, if_neg (by omega), mI1, if_neg (by omega), mI1, if_neg (by omega)]
theorem e_isKp (a : Int32) : f_X3_isKeepingPlace a = some (bI (0 ≤ a.toInt ∧ a.toInt ≤ 2)) := by
  unfold f_X3_isKeepingPlace f_X3_isKeepingPlace_L13 f_X3_isKeepingPlace_L14
  have z3 : (3 : Int32).toInt = 3 := rfl
  simp only [i32_lt, i32_le, z0, z3]
  by_cases h1 : a.toInt < 0
  · rw [if_pos h1, bI_f (by omega)]; rfl
  · rw [if_neg h1]
    by_cases h2 : 3 ≤ a.toInt
    · rw [if_pos h2, bI_f (by omega)]; rfl
    · rw [if_neg h2, bI_t (by omega)]; rfl
theorem e_in02 (a : Int32) : f_X4_in (Int32.toInt64 a) 0 2 = some (bI (0 ≤ a.toInt ∧ a.toInt ≤ 2)) := by rw [e_inI]; rfl
theorem ix370 (k : Nat) : (370 : Int32) * (1 + nI k) = nI (370 * (1 + k)) := by rw [show (1 : Int32) = nI 1 from rfl, nI_add, show (370 : Int32) = nI 370 from rfl, pk_mul]
theorem e_tkO0 (n : xN) : f_X2_takeFrom_24_19 n = some (tkF n 24 19) := by
  unfold f_X2_takeFrom_24_19 tkF
  rw [gdlT cpk8, gdlT cpk40, gdlT cpk40, gdl0, gdl0, gdl0, mI1, if_neg (by decide)]
theorem e_tkI0 (n : xN) : f_X2_takeFrom_19_24 n = some (tkF n 19 24) := by
  unfold f_X2_takeFrom_19_24 tkF
  rw [gdlT cpk8, gdlT cpk40, gdlT cpk40, gdl0, gdl0, gdl0, mI1, if_neg (by decide)]
theorem e_tkO1 (n : xN) : f_X2_takeFrom_28_19 n = some (tkF n 28 19) := by
  unfold f_X2_takeFrom_28_19 tkF
  rw [gdlT cpk8, gdlT cpk40, gdlT cpk40, gdl0, gdl0, gdl0, mI1, if_neg (by decide)]
theorem e_tkI1 (n : xN) : f_X2_takeFrom_19_28 n = some (tkF n 19 28) := by
  unfold f_X2_takeFrom_19_28 tkF
  rw [gdlT cpk8, gdlT cpk40, gdlT cpk40, gdl0, gdl0, gdl0, mI1, if_neg (by decide)]
theorem e_tkO2 (n : xN) : f_X2_takeFrom_32_19 n = some (tkF n 32 19) := by
  unfold f_X2_takeFrom_32_19 tkF
  rw [gdlT cpk8, gdlT cpk40, gdlT cpk40, gdl0, gdl0, gdl0, mI1, if_neg (by decide)]
theorem e_tkI2 (n : xN) : f_X2_takeFrom_19_32 n = some (tkF n 19 32) := by
  unfold f_X2_takeFrom_19_32 tkF
  rw [gdlT cpk8, gdlT cpk40, gdlT cpk40, gdl0, gdl0, gdl0, mI1, if_neg (by decide)]
set_option maxHeartbeats 2000000 in
theorem op_keep (N : Nat) (hN : 400 ≤ N) (a : Int32) : Op (f_X3_keep a) (f_X4_keep N a) := by
  intro n h
  obtain ⟨T, C, hc⟩ := Crt_of h
  obtain ⟨t1, t2⟩ := T0 hc
  by_cases ha : 0 ≤ a.toInt ∧ a.toInt ≤ 2
  · obtain ⟨k, hk, rfl⟩ := i32_of (k := 3) ha.1 (by omega)
    by_cases hT : T = 0
    · exact ⟨-4, n, n, by unfold f_X3_keep; rw [e_isKp, Option.bind_some, bI_t ha, if_neg (by decide), if_pos (t1.mpr hT)], by unfold f_X4_keep; rw [e_in02, Option.bind_some, bI_t ha, if_neg (by decide), if_pos (t2.mpr hT)], h⟩
    · have hm : ∀ m : xN, m.1 39 1 = n.1 39 1 → f_X4_keep N (nI k) m = some (m.1 40 0, cpC m 0 (370 * (1 + k)) 370) := by
        intro m em
        unfold f_X4_keep
        rw [e_in02, Option.bind_some, bI_t ha, if_neg (by decide), em, if_neg (fun z => hT (t2.mp z)), ix370, show (0 : Int32) = nI 0 from rfl, e_copyC N hN m (by omega) (by omega) (by omega), Option.bind_some, show nI 0 = (0 : Int32) from rfl, gdlT ib0, gdl0, tn0, cpC_q m (by omega)]
      obtain ⟨h1, h2, h3, h4, h5, h6, h7, h8, h9, h10, h11⟩ := id h
      have e19 : n.1 19 2 = n.1 40 0 := h8.2.1
      match k, hk with
      | 0, hk =>
        let n1 := mI (tkF n 24 19) 24 0 1
        have hx : f_X3_keep (nI 0) n = some (n.1 19 2, n1) := by
          unfold f_X3_keep
          rw [e_isKp, Option.bind_some, bI_t ha, if_neg (by decide), if_neg (fun z => hT (t1.mp z)), if_pos (show nI 0 = 0 from rfl), e_tkO0, Option.bind_some, if_pos (show nI 0 = 0 from rfl), gdlT isb1, gdl0, mI1, if_neg (by decide), tk_o n (by omega)]
        have n1o : ∀ c, (c < 24 ∨ 24+3 < c) → n1.1 c = n.1 c := fun c h1 => by show (mI (tkF n 24 19) 24 0 1).1 c = _; rw [mI1, if_neg (by omega), tk_o n h1]
        have q24 : n1.1 24 = upd ((tkF n 24 19).1 24) 0 1 := by show (mI (tkF n 24 19) 24 0 1).1 24 = _; rw [mI1, if_pos rfl]
        have q25 : n1.1 25 = (tkF n 24 19).1 25 := by show (mI (tkF n 24 19) 24 0 1).1 25 = _; rw [mI1, if_neg (by decide)]
        have q26 : n1.1 26 = (tkF n 24 19).1 26 := by show (mI (tkF n 24 19) 24 0 1).1 26 = _; rw [mI1, if_neg (by decide)]
        have q27 : n1.1 27 = (tkF n 24 19).1 27 := by show (mI (tkF n 24 19) 24 0 1).1 27 = _; rw [mI1, if_neg (by decide)]
        refine Op_mk hx (hm n1 (by rw [n1o 39 (by decide)])) (by rw [n1o 40 (by decide), e19]) ?_
        have hK : ∀ c, c ≠ 40 → (cpC n1 0 370 370).1 c = n1.1 c := fun c hc => by rw [cpC1, if_neg hc]
        show Inv (cpC n1 0 370 370)
        have e2 : (cpC n1 0 370 370).2 = n.2 := rfl
        unfold Inv
        have eC : cOf (cpC n1 0 370 370) = cOf n := by unfold cOf; rw [hK 39 (by decide), n1o 39 (by decide)]
        rw [eC, e2]
        rw [hK 0 (by decide), n1o 0 (by decide), hK 1 (by decide), n1o 1 (by decide), hK 2 (by decide), n1o 2 (by decide), hK 3 (by decide), n1o 3 (by decide), hK 4 (by decide), n1o 4 (by decide), hK 5 (by decide), n1o 5 (by decide), hK 6 (by decide), n1o 6 (by decide), hK 7 (by decide), n1o 7 (by decide), hK 8 (by decide), n1o 8 (by decide), hK 9 (by decide), n1o 9 (by decide), hK 10 (by decide), n1o 10 (by decide), hK 11 (by decide), n1o 11 (by decide), hK 12 (by decide), n1o 12 (by decide), hK 15 (by decide), n1o 15 (by decide), hK 19 (by decide), n1o 19 (by decide), hK 20 (by decide), n1o 20 (by decide), hK 21 (by decide), n1o 21 (by decide), hK 22 (by decide), n1o 22 (by decide), hK 24 (by decide), hK 25 (by decide), hK 26 (by decide), hK 27 (by decide), hK 28 (by decide), n1o 28 (by decide), hK 29 (by decide), n1o 29 (by decide), hK 30 (by decide), n1o 30 (by decide), hK 31 (by decide), n1o 31 (by decide), hK 32 (by decide), n1o 32 (by decide), hK 33 (by decide), n1o 33 (by decide), hK 34 (by decide), n1o 34 (by decide), hK 35 (by decide), n1o 35 (by decide), hK 38 (by decide), n1o 38 (by decide), hK 39 (by decide), n1o 39 (by decide), hK 41 (by decide), n1o 41 (by decide), hK 42 (by decide), n1o 42 (by decide), hK 43 (by decide), n1o 43 (by decide), hK 44 (by decide), n1o 44 (by decide), hK 45 (by decide), n1o 45 (by decide), hK 46 (by decide), n1o 46 (by decide), hK 47 (by decide), n1o 47 (by decide), hK 48 (by decide), n1o 48 (by decide), hK 49 (by decide), n1o 49 (by decide)]
        refine ⟨h1, h2, h3, h4, h5, h6, h7, IS_c (fun i hi => by rw [cpC_q n1 (by omega), n1o 40 (by decide)]) rfl rfl (fun _ _ => rfl) (fun _ _ => rfl) (fun _ _ => rfl) h8, Or.inr ⟨by rw [q24, upd_s], IS_c (fun i hi => by rw [cpC_r n1 (a := 0) hi, n1o 40 (by decide)]) (by rw [q24, upd_o (by decide), tk_0, upd_o (by decide), upd_s]) (by rw [q24, upd_o (by decide), tk_0, upd_s]) (fun b hb => by rw [q25]; exact tk_1 n (by omega) hb) (fun b hb => by rw [q26]; exact tk_2 n (by omega) hb) (fun b hb => by rw [q27]; exact tk_3 n (by omega) hb) h8⟩, IK_c (fun i hi => by rw [cpC_q n1 (by omega), n1o 40 (by decide)]) h10, IK_c (fun i hi => by rw [cpC_q n1 (by omega), n1o 40 (by decide)]) h11⟩
      | 1, hk =>
        let n1 := mI (tkF n 28 19) 28 0 1
        have hx : f_X3_keep (nI 1) n = some (n.1 19 2, n1) := by
          unfold f_X3_keep
          rw [e_isKp, Option.bind_some, bI_t ha, if_neg (by decide), if_neg (fun z => hT (t1.mp z)), if_neg (by decide), if_pos (show nI 1 = 1 from rfl), e_tkO1, Option.bind_some, if_neg (by decide), if_pos (show nI 1 = 1 from rfl), gdlT isb1, gdl0, mI1, if_neg (by decide), tk_o n (by omega)]
        have n1o : ∀ c, (c < 28 ∨ 28+3 < c) → n1.1 c = n.1 c := fun c h1 => by show (mI (tkF n 28 19) 28 0 1).1 c = _; rw [mI1, if_neg (by omega), tk_o n h1]
        have q24 : n1.1 28 = upd ((tkF n 28 19).1 28) 0 1 := by show (mI (tkF n 28 19) 28 0 1).1 28 = _; rw [mI1, if_pos rfl]
        have q25 : n1.1 29 = (tkF n 28 19).1 29 := by show (mI (tkF n 28 19) 28 0 1).1 29 = _; rw [mI1, if_neg (by decide)]
        have q26 : n1.1 30 = (tkF n 28 19).1 30 := by show (mI (tkF n 28 19) 28 0 1).1 30 = _; rw [mI1, if_neg (by decide)]
        have q27 : n1.1 31 = (tkF n 28 19).1 31 := by show (mI (tkF n 28 19) 28 0 1).1 31 = _; rw [mI1, if_neg (by decide)]
        refine Op_mk hx (hm n1 (by rw [n1o 39 (by decide)])) (by rw [n1o 40 (by decide), e19]) ?_
        have hK : ∀ c, c ≠ 40 → (cpC n1 0 740 370).1 c = n1.1 c := fun c hc => by rw [cpC1, if_neg hc]
        show Inv (cpC n1 0 740 370)
        have e2 : (cpC n1 0 740 370).2 = n.2 := rfl
        unfold Inv
        have eC : cOf (cpC n1 0 740 370) = cOf n := by unfold cOf; rw [hK 39 (by decide), n1o 39 (by decide)]
        rw [eC, e2]
        rw [hK 0 (by decide), n1o 0 (by decide), hK 1 (by decide), n1o 1 (by decide), hK 2 (by decide), n1o 2 (by decide), hK 3 (by decide), n1o 3 (by decide), hK 4 (by decide), n1o 4 (by decide), hK 5 (by decide), n1o 5 (by decide), hK 6 (by decide), n1o 6 (by decide), hK 7 (by decide), n1o 7 (by decide), hK 8 (by decide), n1o 8 (by decide), hK 9 (by decide), n1o 9 (by decide), hK 10 (by decide), n1o 10 (by decide), hK 11 (by decide), n1o 11 (by decide), hK 12 (by decide), n1o 12 (by decide), hK 15 (by decide), n1o 15 (by decide), hK 19 (by decide), n1o 19 (by decide), hK 20 (by decide), n1o 20 (by decide), hK 21 (by decide), n1o 21 (by decide), hK 22 (by decide), n1o 22 (by decide), hK 24 (by decide), n1o 24 (by decide), hK 25 (by decide), n1o 25 (by decide), hK 26 (by decide), n1o 26 (by decide), hK 27 (by decide), n1o 27 (by decide), hK 28 (by decide), hK 29 (by decide), hK 30 (by decide), hK 31 (by decide), hK 32 (by decide), n1o 32 (by decide), hK 33 (by decide), n1o 33 (by decide), hK 34 (by decide), n1o 34 (by decide), hK 35 (by decide), n1o 35 (by decide), hK 38 (by decide), n1o 38 (by decide), hK 39 (by decide), n1o 39 (by decide), hK 41 (by decide), n1o 41 (by decide), hK 42 (by decide), n1o 42 (by decide), hK 43 (by decide), n1o 43 (by decide), hK 44 (by decide), n1o 44 (by decide), hK 45 (by decide), n1o 45 (by decide), hK 46 (by decide), n1o 46 (by decide), hK 47 (by decide), n1o 47 (by decide), hK 48 (by decide), n1o 48 (by decide), hK 49 (by decide), n1o 49 (by decide)]
        refine ⟨h1, h2, h3, h4, h5, h6, h7, IS_c (fun i hi => by rw [cpC_q n1 (by omega), n1o 40 (by decide)]) rfl rfl (fun _ _ => rfl) (fun _ _ => rfl) (fun _ _ => rfl) h8, IK_c (fun i hi => by rw [cpC_q n1 (by omega), n1o 40 (by decide)]) h9, Or.inr ⟨by rw [q24, upd_s], IS_c (fun i hi => by rw [cpC_r n1 (a := 0) hi, n1o 40 (by decide)]) (by rw [q24, upd_o (by decide), tk_0, upd_o (by decide), upd_s]) (by rw [q24, upd_o (by decide), tk_0, upd_s]) (fun b hb => by rw [q25]; exact tk_1 n (by omega) hb) (fun b hb => by rw [q26]; exact tk_2 n (by omega) hb) (fun b hb => by rw [q27]; exact tk_3 n (by omega) hb) h8⟩, IK_c (fun i hi => by rw [cpC_q n1 (by omega), n1o 40 (by decide)]) h11⟩
      | 2, hk =>
        let n1 := mI (tkF n 32 19) 32 0 1
        have hx : f_X3_keep (nI 2) n = some (n.1 19 2, n1) := by
          unfold f_X3_keep
          rw [e_isKp, Option.bind_some, bI_t ha, if_neg (by decide), if_neg (fun z => hT (t1.mp z)), if_neg (by decide), if_neg (by decide), if_pos (show nI 2 = 2 from rfl), e_tkO2, Option.bind_some, if_neg (by decide), if_neg (by decide), if_pos (show nI 2 = 2 from rfl), gdlT isb1, gdl0, mI1, if_neg (by decide), tk_o n (by omega)]
        have n1o : ∀ c, (c < 32 ∨ 32+3 < c) → n1.1 c = n.1 c := fun c h1 => by show (mI (tkF n 32 19) 32 0 1).1 c = _; rw [mI1, if_neg (by omega), tk_o n h1]
        have q24 : n1.1 32 = upd ((tkF n 32 19).1 32) 0 1 := by show (mI (tkF n 32 19) 32 0 1).1 32 = _; rw [mI1, if_pos rfl]
        have q25 : n1.1 33 = (tkF n 32 19).1 33 := by show (mI (tkF n 32 19) 32 0 1).1 33 = _; rw [mI1, if_neg (by decide)]
        have q26 : n1.1 34 = (tkF n 32 19).1 34 := by show (mI (tkF n 32 19) 32 0 1).1 34 = _; rw [mI1, if_neg (by decide)]
        have q27 : n1.1 35 = (tkF n 32 19).1 35 := by show (mI (tkF n 32 19) 32 0 1).1 35 = _; rw [mI1, if_neg (by decide)]
        refine Op_mk hx (hm n1 (by rw [n1o 39 (by decide)])) (by rw [n1o 40 (by decide), e19]) ?_
        have hK : ∀ c, c ≠ 40 → (cpC n1 0 1110 370).1 c = n1.1 c := fun c hc => by rw [cpC1, if_neg hc]
        show Inv (cpC n1 0 1110 370)
        have e2 : (cpC n1 0 1110 370).2 = n.2 := rfl
        unfold Inv
        have eC : cOf (cpC n1 0 1110 370) = cOf n := by unfold cOf; rw [hK 39 (by decide), n1o 39 (by decide)]
        rw [eC, e2]
        rw [hK 0 (by decide), n1o 0 (by decide), hK 1 (by decide), n1o 1 (by decide), hK 2 (by decide), n1o 2 (by decide), hK 3 (by decide), n1o 3 (by decide), hK 4 (by decide), n1o 4 (by decide), hK 5 (by decide), n1o 5 (by decide), hK 6 (by decide), n1o 6 (by decide), hK 7 (by decide), n1o 7 (by decide), hK 8 (by decide), n1o 8 (by decide), hK 9 (by decide), n1o 9 (by decide), hK 10 (by decide), n1o 10 (by decide), hK 11 (by decide), n1o 11 (by decide), hK 12 (by decide), n1o 12 (by decide), hK 15 (by decide), n1o 15 (by decide), hK 19 (by decide), n1o 19 (by decide), hK 20 (by decide), n1o 20 (by decide), hK 21 (by decide), n1o 21 (by decide), hK 22 (by decide), n1o 22 (by decide), hK 24 (by decide), n1o 24 (by decide), hK 25 (by decide), n1o 25 (by decide), hK 26 (by decide), n1o 26 (by decide), hK 27 (by decide), n1o 27 (by decide), hK 28 (by decide), n1o 28 (by decide), hK 29 (by decide), n1o 29 (by decide), hK 30 (by decide), n1o 30 (by decide), hK 31 (by decide), n1o 31 (by decide), hK 32 (by decide), hK 33 (by decide), hK 34 (by decide), hK 35 (by decide), hK 38 (by decide), n1o 38 (by decide), hK 39 (by decide), n1o 39 (by decide), hK 41 (by decide), n1o 41 (by decide), hK 42 (by decide), n1o 42 (by decide), hK 43 (by decide), n1o 43 (by decide), hK 44 (by decide), n1o 44 (by decide), hK 45 (by decide), n1o 45 (by decide), hK 46 (by decide), n1o 46 (by decide), hK 47 (by decide), n1o 47 (by decide), hK 48 (by decide), n1o 48 (by decide), hK 49 (by decide), n1o 49 (by decide)]
        refine ⟨h1, h2, h3, h4, h5, h6, h7, IS_c (fun i hi => by rw [cpC_q n1 (by omega), n1o 40 (by decide)]) rfl rfl (fun _ _ => rfl) (fun _ _ => rfl) (fun _ _ => rfl) h8, IK_c (fun i hi => by rw [cpC_q n1 (by omega), n1o 40 (by decide)]) h9, IK_c (fun i hi => by rw [cpC_q n1 (by omega), n1o 40 (by decide)]) h10, Or.inr ⟨by rw [q24, upd_s], IS_c (fun i hi => by rw [cpC_r n1 (a := 0) hi, n1o 40 (by decide)]) (by rw [q24, upd_o (by decide), tk_0, upd_o (by decide), upd_s]) (by rw [q24, upd_o (by decide), tk_0, upd_s]) (fun b hb => by rw [q25]; exact tk_1 n (by omega) hb) (fun b hb => by rw [q26]; exact tk_2 n (by omega) hb) (fun b hb => by rw [q27]; exact tk_3 n (by omega) hb) h8⟩⟩
  · exact ⟨-1, n, n, by unfold f_X3_keep; rw [e_isKp, Option.bind_some, bI_f ha, if_pos rfl], by unfold f_X4_keep; rw [e_in02, Option.bind_some, bI_f ha, if_pos rfl], h⟩
set_option maxHeartbeats 2000000 in
theorem op_on (N : Nat) (hN : 400 ≤ N) (a : Int32) : Op (f_X3_on a) (f_X4_on N a) := by
  intro n h
  by_cases ha : 0 ≤ a.toInt ∧ a.toInt ≤ 2
  · obtain ⟨k, hk, rfl⟩ := i32_of (k := 3) ha.1 (by omega)
    have hm : ∀ m : xN, f_X4_on N (nI k) m = if 0 ≤ m.1 40 (370 * (1 + k)) then some (m.1 40 (370 * (1 + k)), cpC m (370 * (1 + k)) 0 370) else some (-3, mF m 1) := by
      intro m
      unfold f_X4_on
      rw [e_in02, Option.bind_some, bI_t ha, if_neg (by decide), i_add0, ix370, gdl_nI (by omega) (by omega), gdl0, nI_clamp (by omega), e_find1, Option.bind_some]
      have z : f_X4_copyCourt N (nI (370 * (1 + k))) 0 m = some (cpC m (370 * (1 + k)) 0 370) := e_copyC N hN m (b := 0) (by omega) (by omega) (by omega)
      have r0 : (cpC m (370 * (1 + k)) 0 370).1 40 0 = m.1 40 (370 * (1 + k)) := cpC_r m (a := 370 * (1 + k)) (b := 0) (i := 0) (by omega)
      rw [z, Option.bind_some, gdlT ib0, gdl0, tn0, r0]
    have i3 : ∀ m : xN, (0 ≤ m.1 40 (370 * (1 + k))) ↔ 0 ≤ (m.1 40 (370 * (1 + k))).toInt := fun m => le0 _
    obtain ⟨h1, h2, h3, h4, h5, h6, h7, h8, h9, h10, h11⟩ := id h
    match k, hk with
    | 0, hk =>
      rcases h9 with ⟨k0, kr⟩ | ⟨k1, ks⟩
      · refine ⟨-3, cF n 1, mF (cF n 1) 1, ?_, ?_, Inv_F (by decide) h⟩
        · unfold f_X3_on
          rw [e_isKp, Option.bind_some, bI_t ha, if_neg (by decide), if_pos (show nI 0 = 0 from rfl), if_pos k0, e_refuse1, Option.bind_some]
        · rw [hm, if_neg (by rw [cF1 (by decide) (by decide)]; show ¬ 0 ≤ n.1 40 370; rw [kr]; decide)]
      · obtain ⟨s1, s2, s3, D, hD, e0, -⟩ := id ks
        have hx : f_X3_on (nI 0) n = some (n.1 40 370, tkF n 19 24) := by
          unfold f_X3_on
          rw [e_isKp, Option.bind_some, bI_t ha, if_neg (by decide), if_pos (show nI 0 = 0 from rfl), if_neg (by rw [k1]; decide), if_pos (show nI 0 = 0 from rfl), e_tkI0, Option.bind_some, tk_0, upd_s, s2]
        have n1o : ∀ c, (c < 19 ∨ 22 < c) → (tkF n 19 24).1 c = n.1 c := fun c h1 => tk_o n h1
        have o40 : (tkF n 19 24).1 40 = n.1 40 := n1o 40 (by decide)
        refine Op_mk hx (by rw [hm, if_pos (by rw [o40]; show 0 ≤ n.1 40 370; rw [e0]; exact nI_pos' (by omega))]) (by rw [o40]) ?_
        have hK : ∀ c, c ≠ 40 → (cpC (tkF n 19 24) 370 0 370).1 c = (tkF n 19 24).1 c := fun c hc => by rw [cpC1, if_neg hc]
        show Inv (cpC (tkF n 19 24) 370 0 370)
        refine Inv_dd h (fun c hcc => by rw [hK c (by omega), n1o c (by omega)]) (fun c _ => by rw [hK 39 (by decide), n1o 39 (by decide)]) rfl (fun p hp => by rw [cpC_q _ (by omega), o40]) ?_
        rw [hK 19 (by decide), hK 20 (by decide), hK 21 (by decide), hK 22 (by decide)]
        refine IS_c (fun i hi => ?_) (by rw [tk_0, upd_o (by decide), upd_s]) (by rw [tk_0, upd_s]) (fun b hb => tk_1 n (d := 19) (s := 24) (by omega) hb) (fun b hb => tk_2 n (d := 19) (s := 24) (by omega) hb) (fun b hb => tk_3 n (d := 19) (s := 24) (by omega) hb) ks
        rw [cpC_r (tkF n 19 24) (a := 370) (b := 0) hi, o40]
    | 1, hk =>
      rcases h10 with ⟨k0, kr⟩ | ⟨k1, ks⟩
      · refine ⟨-3, cF n 1, mF (cF n 1) 1, ?_, ?_, Inv_F (by decide) h⟩
        · unfold f_X3_on
          rw [e_isKp, Option.bind_some, bI_t ha, if_neg (by decide), if_neg (by decide), if_pos (show nI 1 = 1 from rfl), if_pos k0, e_refuse1, Option.bind_some]
        · rw [hm, if_neg (by rw [cF1 (by decide) (by decide)]; show ¬ 0 ≤ n.1 40 740; rw [kr]; decide)]
      · obtain ⟨s1, s2, s3, D, hD, e0, -⟩ := id ks
        have hx : f_X3_on (nI 1) n = some (n.1 40 740, tkF n 19 28) := by
          unfold f_X3_on
          rw [e_isKp, Option.bind_some, bI_t ha, if_neg (by decide), if_neg (by decide), if_pos (show nI 1 = 1 from rfl), if_neg (by rw [k1]; decide), if_neg (by decide), if_pos (show nI 1 = 1 from rfl), e_tkI1, Option.bind_some, tk_0, upd_s, s2]
        have n1o : ∀ c, (c < 19 ∨ 22 < c) → (tkF n 19 28).1 c = n.1 c := fun c h1 => tk_o n h1
        have o40 : (tkF n 19 28).1 40 = n.1 40 := n1o 40 (by decide)
        refine Op_mk hx (by rw [hm, if_pos (by rw [o40]; show 0 ≤ n.1 40 740; rw [e0]; exact nI_pos' (by omega))]) (by rw [o40]) ?_
        have hK : ∀ c, c ≠ 40 → (cpC (tkF n 19 28) 740 0 370).1 c = (tkF n 19 28).1 c := fun c hc => by rw [cpC1, if_neg hc]
        show Inv (cpC (tkF n 19 28) 740 0 370)
        refine Inv_dd h (fun c hcc => by rw [hK c (by omega), n1o c (by omega)]) (fun c _ => by rw [hK 39 (by decide), n1o 39 (by decide)]) rfl (fun p hp => by rw [cpC_q _ (by omega), o40]) ?_
        rw [hK 19 (by decide), hK 20 (by decide), hK 21 (by decide), hK 22 (by decide)]
        refine IS_c (fun i hi => ?_) (by rw [tk_0, upd_o (by decide), upd_s]) (by rw [tk_0, upd_s]) (fun b hb => tk_1 n (d := 19) (s := 28) (by omega) hb) (fun b hb => tk_2 n (d := 19) (s := 28) (by omega) hb) (fun b hb => tk_3 n (d := 19) (s := 28) (by omega) hb) ks
        rw [cpC_r (tkF n 19 28) (a := 740) (b := 0) hi, o40]
    | 2, hk =>
      rcases h11 with ⟨k0, kr⟩ | ⟨k1, ks⟩
      · refine ⟨-3, cF n 1, mF (cF n 1) 1, ?_, ?_, Inv_F (by decide) h⟩
        · unfold f_X3_on
          rw [e_isKp, Option.bind_some, bI_t ha, if_neg (by decide), if_neg (by decide), if_neg (by decide), if_pos (show nI 2 = 2 from rfl), if_pos k0, e_refuse1, Option.bind_some]
        · rw [hm, if_neg (by rw [cF1 (by decide) (by decide)]; show ¬ 0 ≤ n.1 40 1110; rw [kr]; decide)]
      · obtain ⟨s1, s2, s3, D, hD, e0, -⟩ := id ks
        have hx : f_X3_on (nI 2) n = some (n.1 40 1110, tkF n 19 32) := by
          unfold f_X3_on
          rw [e_isKp, Option.bind_some, bI_t ha, if_neg (by decide), if_neg (by decide), if_neg (by decide), if_pos (show nI 2 = 2 from rfl), if_neg (by rw [k1]; decide), if_neg (by decide), if_neg (by decide), if_pos (show nI 2 = 2 from rfl), e_tkI2, Option.bind_some, tk_0, upd_s, s2]
        have n1o : ∀ c, (c < 19 ∨ 22 < c) → (tkF n 19 32).1 c = n.1 c := fun c h1 => tk_o n h1
        have o40 : (tkF n 19 32).1 40 = n.1 40 := n1o 40 (by decide)
        refine Op_mk hx (by rw [hm, if_pos (by rw [o40]; show 0 ≤ n.1 40 1110; rw [e0]; exact nI_pos' (by omega))]) (by rw [o40]) ?_
        have hK : ∀ c, c ≠ 40 → (cpC (tkF n 19 32) 1110 0 370).1 c = (tkF n 19 32).1 c := fun c hc => by rw [cpC1, if_neg hc]
        show Inv (cpC (tkF n 19 32) 1110 0 370)
        refine Inv_dd h (fun c hcc => by rw [hK c (by omega), n1o c (by omega)]) (fun c _ => by rw [hK 39 (by decide), n1o 39 (by decide)]) rfl (fun p hp => by rw [cpC_q _ (by omega), o40]) ?_
        rw [hK 19 (by decide), hK 20 (by decide), hK 21 (by decide), hK 22 (by decide)]
        refine IS_c (fun i hi => ?_) (by rw [tk_0, upd_o (by decide), upd_s]) (by rw [tk_0, upd_s]) (fun b hb => tk_1 n (d := 19) (s := 32) (by omega) hb) (fun b hb => tk_2 n (d := 19) (s := 32) (by omega) hb) (fun b hb => tk_3 n (d := 19) (s := 32) (by omega) hb) ks
        rw [cpC_r (tkF n 19 32) (a := 1110) (b := 0) hi, o40]
  · exact ⟨-1, n, n, by unfold f_X3_on; rw [e_isKp, Option.bind_some, bI_f ha, if_pos rfl], by unfold f_X4_on; rw [e_in02, Option.bind_some, bI_f ha, if_pos rfl], h⟩
