/-! ===== promise 49: count ===== -/
theorem e_clsOf (N : Nat) (hN : 100 ≤ N) (n : xN) {T C b : Nat} (hc : Crt n T C) (h1 : 1 ≤ b) (h5 : b ≤ 5) : f_X3_clausesOf N (nI b) n = some (nI (cnt (fun k => ofK (kn n k) b) C)) := by
  have hC := hc.2.1
  unfold f_X3_clausesOf
  have key := eq_forG (rc := f_X3_clausesOf_L4 N n) (body := f_X3_clausesOf_L4b N n) (fun f i (l : Int32) => f (nI b) l i) (fun _ => rfl) 0 C (fun i => nI (cnt (fun k => ofK (kn n k) b) i)) (some (nI (cnt (fun k => ofK (kn n k) b) C))) ?_ ?_ N 0 (Nat.le_refl _) (Nat.zero_le _) (by omega)
  · exact key
  · intro f i _ hi
    show f_X3_clausesOf_L4b N n f (nI b) (nI (cnt (fun k => ofK (kn n k) b) i)) (nI i) = f (nI b) (nI (cnt (fun k => ofK (kn n k) b) i + (if ofK (kn n i) b = true then 1 else 0))) (nI (i + 1))
    obtain ⟨ka, -, k10, -⟩ := hc.2.2.2.2.2.2.2.2.1 i hi
    unfold f_X3_clausesOf_L4b f_X3_clausesOf_L34
    rw [hc.2.2.2.2.2.2.1, if_neg (by rw [nI_leI (by omega) (by omega)]; omega), gdl_nI (by omega) (by omega), gdl0, nI_clamp (by omega), k10, e_ofKX n ka h1 h5, Option.bind_some, nI_1, nI_1]
    cases ofK (kn n i) b <;> rfl
  · intro f
    show f_X3_clausesOf_L4b N n f (nI b) _ (nI C) = _
    unfold f_X3_clausesOf_L4b
    rw [hc.2.2.2.2.2.2.1, if_pos (by rw [nI_leI (by omega) (by omega)]; omega)]
theorem e_kindM (N : Nat) (hN : 100 ≤ N) (n : xN) {T C b : Nat} (hc : Crt n T C) (h1 : 1 ≤ b) (h5 : b ≤ 5) : f_X4_kindMany N (nI b) n = some (nI (cnt (fun k => ofK (kn n k) b) C)) := by
  have hC := hc.2.1
  unfold f_X4_kindMany
  have key := eq_forG (rc := f_X4_kindMany_L4 N n) (body := f_X4_kindMany_L4b N n) (fun f i (l : Int32) => f (nI b) l i) (fun _ => rfl) 0 C (fun i => nI (cnt (fun k => ofK (kn n k) b) i)) (some (nI (cnt (fun k => ofK (kn n k) b) C))) ?_ ?_ N 0 (Nat.le_refl _) (Nat.zero_le _) (by omega)
  · exact key
  · intro f i _ hi
    show f_X4_kindMany_L4b N n f (nI b) (nI (cnt (fun k => ofK (kn n k) b) i)) (nI i) = f (nI b) (nI (cnt (fun k => ofK (kn n k) b) i + (if ofK (kn n i) b = true then 1 else 0))) (nI (i + 1))
    obtain ⟨ka, k42, -, -⟩ := hc.2.2.2.2.2.2.2.2.1 i hi
    unfold f_X4_kindMany_L4b f_X4_kindMany_L27
    rw [hc.2.2.2.2.1, if_neg (by rw [nI_leI (by omega) (by omega)]; omega), e_ofKM n (by omega) k42 ka h1 h5, Option.bind_some, nI_1, nI_1, i_add0]
    cases ofK (kn n i) b <;> rfl
  · intro f
    show f_X4_kindMany_L4b N n f (nI b) _ (nI C) = _
    unfold f_X4_kindMany_L4b
    rw [hc.2.2.2.2.1, if_pos (by rw [nI_leI (by omega) (by omega)]; omega)]
theorem e_many1 (N : Nat) (hN : 100 ≤ N) (n : xN) (h10 : n.1 1 0 = 6) : f_X1_manyThere_1 N n = some (nI (cnt (fun r => decide (0 ≤ (n.1 3 r).toInt)) 6)) := by
  unfold f_X1_manyThere_1
  have key := eq_forG (rc := f_X1_manyThere_1_L4 N n) (body := f_X1_manyThere_1_L4b N n) (fun f i (l : Int32) => f l i) (fun _ => rfl) 0 6 (fun i => nI (cnt (fun r => decide (0 ≤ (n.1 3 r).toInt)) i)) (some (nI (cnt (fun r => decide (0 ≤ (n.1 3 r).toInt)) 6))) ?_ ?_ N 0 (Nat.le_refl _) (Nat.zero_le _) (by omega)
  · exact key
  · intro f i _ hi
    show f_X1_manyThere_1_L4b N n f (nI (cnt (fun r => decide (0 ≤ (n.1 3 r).toInt)) i)) (nI i) = f (nI (cnt (fun r => decide (0 ≤ (n.1 3 r).toInt)) i + (if decide (0 ≤ (n.1 3 i).toInt) = true then 1 else 0))) (nI (i + 1))
    unfold f_X1_manyThere_1_L4b f_X1_manyThere_1_L23
    rw [h10, if_neg (by rw [show (6 : Int32) = nI 6 from rfl, nI_leI (by omega) (by omega)]; omega), e_isThere1 n hi, Option.bind_some, nI_1, nI_1]
    by_cases a : 0 ≤ (n.1 3 i).toInt <;> simp [bI, a]
  · intro f
    show f_X1_manyThere_1_L4b N n f _ (nI 6) = _
    unfold f_X1_manyThere_1_L4b
    rw [h10, if_pos (by decide)]
theorem e_many4 (N : Nat) (hN : 100 ≤ N) (n : xN) (h10 : n.1 4 0 = 4) : f_X1_manyThere_4 N n = some (nI (cnt (fun r => decide (0 ≤ (n.1 6 r).toInt)) 4)) := by
  unfold f_X1_manyThere_4
  have key := eq_forG (rc := f_X1_manyThere_4_L4 N n) (body := f_X1_manyThere_4_L4b N n) (fun f i (l : Int32) => f l i) (fun _ => rfl) 0 4 (fun i => nI (cnt (fun r => decide (0 ≤ (n.1 6 r).toInt)) i)) (some (nI (cnt (fun r => decide (0 ≤ (n.1 6 r).toInt)) 4))) ?_ ?_ N 0 (Nat.le_refl _) (Nat.zero_le _) (by omega)
  · exact key
  · intro f i _ hi
    show f_X1_manyThere_4_L4b N n f (nI (cnt (fun r => decide (0 ≤ (n.1 6 r).toInt)) i)) (nI i) = f (nI (cnt (fun r => decide (0 ≤ (n.1 6 r).toInt)) i + (if decide (0 ≤ (n.1 6 i).toInt) = true then 1 else 0))) (nI (i + 1))
    unfold f_X1_manyThere_4_L4b f_X1_manyThere_4_L23
    rw [h10, if_neg (by rw [show (4 : Int32) = nI 4 from rfl, nI_leI (by omega) (by omega)]; omega), e_isThere4 n hi, Option.bind_some, nI_1, nI_1]
    by_cases a : 0 ≤ (n.1 6 i).toInt <;> simp [bI, a]
  · intro f
    show f_X1_manyThere_4_L4b N n f _ (nI 4) = _
    unfold f_X1_manyThere_4_L4b
    rw [h10, if_pos (by decide)]
def pT (n : xN) (w k : Nat) : Bool := if w = 6 then decide (0 ≤ (n.1 45 k).toInt) else if w = 7 then decide (k < 4) && decide (0 ≤ (n.1 47 k).toInt) else decide (k < 3) && decide (0 ≤ (n.1 40 (370 * (1 + k))).toInt)
theorem lt0 (a : Int32) : a < (0 : Int32) ↔ ¬ 0 ≤ a.toInt := by rw [i32_lt, z0]; omega
set_option maxHeartbeats 1000000 in
theorem e_thereOf (N : Nat) (hN : 100 ≤ N) (n : xN) {w : Nat} (h6 : 6 ≤ w) (h8 : w ≤ 8) : f_X4_thereOf N (nI w) n = some (nI (cnt (pT n w) 6)) := by
  unfold f_X4_thereOf
  have key := eq_forG (rc := f_X4_thereOf_L4 N n) (body := f_X4_thereOf_L4b N n) (fun f i (l : Int32) => f (nI w) l i) (fun _ => rfl) 0 6 (fun i => nI (cnt (pT n w) i)) (some (nI (cnt (pT n w) 6))) ?_ ?_ N 0 (Nat.le_refl _) (Nat.zero_le _) (by omega)
  · exact key
  · intro f i _ hi
    show f_X4_thereOf_L4b N n f (nI w) (nI (cnt (pT n w) i)) (nI i) = f (nI w) (nI (cnt (pT n w) i + (if pT n w i = true then 1 else 0))) (nI (i + 1))
    unfold f_X4_thereOf_L4b f_X4_thereOf_L58 f_X4_thereOf_L88 f_X4_thereOf_L89
    rw [if_neg (by rw [show (6 : Int32) = nI 6 from rfl, nI_leI (by omega) (by omega)]; omega), nI_1, nI_1, i_add0]
    have w6 : (nI w = 6) ↔ w = 6 := nI_eq (b := 6) (by omega) (by omega)
    have w7 : (nI w = 7) ↔ w = 7 := nI_eq (b := 7) (by omega) (by omega)
    have i4 : (4 : Int32) ≤ nI i ↔ 4 ≤ i := nI_leI (a := 4) (by omega) (by omega)
    have i3 : (3 : Int32) ≤ nI i ↔ 3 ≤ i := nI_leI (a := 3) (by omega) (by omega)
    have ix : (370 : Int32) * (1 + nI i) + 0 = nI (370 * (1 + i)) := by rw [i_add0, show (1 : Int32) = nI 1 from rfl, nI_add, show (370 : Int32) = nI 370 from rfl, pk_mul]
    rw [ix]
    have hp : pT n w i = (if w = 6 then decide (0 ≤ (n.1 45 i).toInt) else if w = 7 then decide (i < 4) && decide (0 ≤ (n.1 47 i).toInt) else decide (i < 3) && decide (0 ≤ (n.1 40 (370 * (1 + i))).toInt)) := rfl
    rw [hp]
    by_cases c6 : w = 6
    · rw [if_pos (w6.mpr c6), gdl_nI (by omega) hi, gdl0, nI_clamp (by omega)]
      simp only [le0, c6, reduceIte]
      by_cases a : 0 ≤ (n.1 45 i).toInt <;> simp [a]
    · rw [if_neg (fun z => c6 (w6.mp z))]
      by_cases c7 : w = 7
      · rw [if_pos (w7.mpr c7)]
        simp only [c6, c7, reduceIte, lt0, i4]
        by_cases c4 : 4 ≤ i
        · rw [if_pos c4]
          simp [show ¬ i < 4 by omega]
        · rw [if_neg c4, gdl_nI (by omega) (by omega), gdl0, nI_clamp (by omega)]
          by_cases a : 0 ≤ (n.1 47 i).toInt <;> simp [a, show i < 4 by omega]
      · rw [if_neg (fun z => c7 (w7.mp z))]
        simp only [c6, c7, reduceIte, lt0, i3]
        by_cases c3 : 3 ≤ i
        · rw [if_pos c3]
          simp [show ¬ i < 3 by omega]
        · rw [if_neg c3, gdl_nI (by omega) (by omega), gdl0, nI_clamp (by omega)]
          by_cases a : 0 ≤ (n.1 40 (370 * (1 + i))).toInt <;> simp [a, show i < 3 by omega]
  · intro f
    show f_X4_thereOf_L4b N n f (nI w) _ (nI 6) = _
    unfold f_X4_thereOf_L4b
    rw [if_pos (by decide)]
theorem kept_s {C : Nat} {ki ko kd : Int32} {kb kp kw row : Nat → Int32} {b0 : Nat} (h : I_kept C ki ko kd kb kp kw row b0) : (ki = 0 ∧ row b0 = -1 ∧ ¬ 0 ≤ (row b0).toInt) ∨ (ki = 1 ∧ kd = row b0 ∧ 0 ≤ (row b0).toInt) := by
  rcases h with ⟨a, b⟩ | ⟨a, b, c, d, dn, h40, e, -⟩
  · exact Or.inl ⟨a, b, by rw [b]; decide⟩
  · exact Or.inr ⟨a, c, by rw [e, nI_toInt (by omega)]; omega⟩
theorem fs_mk (N k : Nat) (n : xN) (a b : Int32) : f_X3_manyKept_L4 N n (k + 1) a b = f_X3_manyKept_L4b N n (f_X3_manyKept_L4 N n k) a b := rfl
theorem e_manyK (N : Nat) (hN : 100 ≤ N) {n : xN} (h : Inv n) : f_X3_manyKept N n = some (nI (cnt (pT n 8) 6)) := by
  obtain ⟨-, -, -, -, -, -, -, -, k1, k2, k3⟩ := h
  have s0 : ∀ k a, f_X3_manyKept_L4 N n (k + 1) a 0 = f_X3_manyKept_L4 N n k (if n.1 24 0 = 0 then a else a + 1) 1 := by
    intro k a
    rw [fs_mk]
    unfold f_X3_manyKept_L4b f_X3_manyKept_L24
    rw [if_neg (by decide), if_pos rfl]
    split <;> rfl
  have s1 : ∀ k a, f_X3_manyKept_L4 N n (k + 1) a 1 = f_X3_manyKept_L4 N n k (if n.1 28 0 = 0 then a else a + 1) 2 := by
    intro k a
    rw [fs_mk]
    unfold f_X3_manyKept_L4b f_X3_manyKept_L24
    rw [if_neg (by decide), if_neg (by decide), if_pos rfl]
    split <;> rfl
  have s2 : ∀ k a, f_X3_manyKept_L4 N n (k + 1) a 2 = f_X3_manyKept_L4 N n k (if n.1 32 0 = 0 then a else a + 1) 3 := by
    intro k a
    rw [fs_mk]
    unfold f_X3_manyKept_L4b f_X3_manyKept_L24
    rw [if_neg (by decide), if_neg (by decide), if_neg (by decide), if_pos rfl]
    split <;> rfl
  have s3 : ∀ k a, f_X3_manyKept_L4 N n (k + 1) a 3 = some a := by
    intro k a
    rw [fs_mk]
    unfold f_X3_manyKept_L4b
    rw [if_pos (by decide)]
  have e : ∀ k, f_X3_manyKept_L4 N n (k + 4) 0 0 = some (nI (cnt (pT n 8) 6)) := by
    intro k
    rw [show k + 4 = k + 3 + 1 from rfl, s0, show k + 3 = k + 2 + 1 from rfl, s1, show k + 2 = k + 1 + 1 from rfl, s2, s3]
    have p0 : pT n 8 0 = decide (0 ≤ (n.1 40 370).toInt) := rfl
    have p1 : pT n 8 1 = decide (0 ≤ (n.1 40 740).toInt) := rfl
    have p2 : pT n 8 2 = decide (0 ≤ (n.1 40 1110).toInt) := rfl
    have p3 : pT n 8 3 = false := rfl
    have p4 : pT n 8 4 = false := rfl
    have p5 : pT n 8 5 = false := rfl
    simp only [cnt, p0, p1, p2, p3, p4, p5]
    rcases kept_s k1 with ⟨a1, -, b1⟩ | ⟨a1, -, b1⟩ <;> rcases kept_s k2 with ⟨a2, -, b2⟩ | ⟨a2, -, b2⟩ <;> rcases kept_s k3 with ⟨a3, -, b3⟩ | ⟨a3, -, b3⟩ <;> rw [a1, a2, a3] <;> simp only [b1, b2, b3, decide_true, decide_false] <;> rfl
  unfold f_X3_manyKept
  have := e (N - 4)
  rw [show N - 4 + 4 = N by omega] at this
  exact this
theorem cnt_both (N : Nat) (hN : 100 ≤ N) {n : xN} (h : Inv n) {w : Nat} (hw : w ≤ 8) : ∃ v, f_X3_countNumber N (nI w) n = some v ∧ f_X4_countOf N (nI w) n = some v := by
  obtain ⟨T, C, hc⟩ := Crt_of h
  obtain ⟨o, ho, eo, xo, hbd⟩ := On_of h hc
  have h8 := p8 hc.2.1
  have t1 : Int32.toNatClampNeg 1 = 1 := by decide
  have t0 : Int32.toNatClampNeg 0 = 0 := by decide
  have e6 : cnt (fun r => decide (0 ≤ (n.1 3 r).toInt)) 6 = cnt (pT n 6) 6 := cnt_c (fun r hr => by rw [(h.2.1 r hr).1]; rfl)
  have e7 : cnt (fun r => decide (0 ≤ (n.1 6 r).toInt)) 4 = cnt (pT n 7) 6 := by
    have : cnt (fun r => decide (0 ≤ (n.1 6 r).toInt)) 4 = cnt (pT n 7) 4 := cnt_c (fun r hr => by
      rw [(h.2.2.1 r hr).1]
      unfold pT
      simp [hr])
    rw [this]
    have p4 : pT n 7 4 = false := rfl
    have p5 : pT n 7 5 = false := rfl
    conv => rhs; rw [cnt, cnt, p4, p5]
    rfl
  match w, hw with
  | 0, _ => exact ⟨n.1 39 1, by unfold f_X3_countNumber; rw [if_neg (by decide), if_pos (by decide), hc.2.2.2.2.2.1, hc.2.2.2.1], by unfold f_X4_countOf; rw [if_neg (by decide), if_pos (by decide)]⟩
  | 1, _ => exact ⟨n.1 39 3, by unfold f_X3_countNumber; rw [if_neg (by decide), if_neg (by decide), if_pos (by decide), hc.2.2.2.2.2.2.1, hc.2.2.2.2.1], by unfold f_X4_countOf; rw [if_neg (by decide), if_neg (by decide), if_pos (by decide)]⟩
  | 2, _ => exact ⟨nI (pcN o 13), by unfold f_X3_countNumber; rw [if_neg (by decide), if_neg (by decide), if_neg (by decide), if_pos (by decide), xo, e_bitc (by omega)]; rfl, by unfold f_X4_countOf; rw [if_neg (by decide), if_neg (by decide), if_neg (by decide), if_pos (by decide), gdlT (by decide), gdl0, t1, eo, e_bits N (by omega) (by omega)]; rfl⟩
  | 3, _ => exact ⟨n.1 40 0, by unfold f_X3_countNumber; rw [if_neg (by decide), if_neg (by decide), if_neg (by decide), if_neg (by decide), if_pos (by decide), h.2.2.2.2.2.2.2.1.2.1], by unfold f_X4_countOf; rw [if_neg (by decide), if_neg (by decide), if_neg (by decide), if_neg (by decide), if_pos (by decide), gdlT (by decide), gdl0, t0]⟩
  | 4, _ => exact ⟨_, by unfold f_X3_countNumber; rw [if_neg (by decide), if_neg (by decide), if_neg (by decide), if_neg (by decide), if_neg (by decide), if_pos (by decide), show (1 : Int32) = nI 1 from rfl, e_clsOf N hN n hc (by omega) (by omega)]; rfl, by unfold f_X4_countOf; rw [if_neg (by decide), if_neg (by decide), if_neg (by decide), if_neg (by decide), if_neg (by decide), if_pos (by decide), show (1 : Int32) = nI 1 from rfl, e_kindM N hN n hc (by omega) (by omega)]; rfl⟩
  | 5, _ => exact ⟨_, by unfold f_X3_countNumber; rw [if_neg (by decide), if_neg (by decide), if_neg (by decide), if_neg (by decide), if_neg (by decide), if_neg (by decide), if_pos (by decide), show (2 : Int32) = nI 2 from rfl, e_clsOf N hN n hc (by omega) (by omega)]; rfl, by unfold f_X4_countOf; rw [if_neg (by decide), if_neg (by decide), if_neg (by decide), if_neg (by decide), if_neg (by decide), if_neg (by decide), if_pos (by decide), show (2 : Int32) = nI 2 from rfl, e_kindM N hN n hc (by omega) (by omega)]; rfl⟩
  | 6, _ => exact ⟨nI (cnt (pT n 6) 6), by unfold f_X3_countNumber; rw [if_neg (by decide), if_neg (by decide), if_neg (by decide), if_neg (by decide), if_neg (by decide), if_neg (by decide), if_neg (by decide), if_pos (by decide), e_many1 N hN n h.1.1, e6]; rfl, by unfold f_X4_countOf; rw [if_pos (by decide), e_thereOf N hN n (by omega) (by omega)]; rfl⟩
  | 7, _ => exact ⟨nI (cnt (pT n 7) 6), by unfold f_X3_countNumber; rw [if_neg (by decide), if_neg (by decide), if_neg (by decide), if_neg (by decide), if_neg (by decide), if_neg (by decide), if_neg (by decide), if_neg (by decide), if_pos (by decide), e_many4 N hN n h.1.2.2.2.1, e7]; rfl, by unfold f_X4_countOf; rw [if_pos (by decide), e_thereOf N hN n (by omega) (by omega)]; rfl⟩
  | 8, _ => exact ⟨nI (cnt (pT n 8) 6), by unfold f_X3_countNumber; rw [if_pos (by decide), e_manyK N hN h]; rfl, by unfold f_X4_countOf; rw [if_pos (by decide), e_thereOf N hN n (by omega) (by omega)]; rfl⟩
theorem op_count (N : Nat) (hN : 100 ≤ N) (a : Int32) : OpP (f_X3_count N a) (f_X4_count N a) := by
  intro n h
  have q8 : (8 : Int64).toInt = 8 := rfl
  have q0 : (0 : Int64).toInt = 0 := rfl
  have z9 : (9 : Int32).toInt = 9 := rfl
  by_cases ha : 0 ≤ a.toInt ∧ a.toInt ≤ 8
  · obtain ⟨w, hw, rfl⟩ := i32_of (k := 9) ha.1 (by omega)
    obtain ⟨v, e1, e2⟩ := cnt_both N hN h (show w ≤ 8 by omega)
    refine ⟨v, ?_, ?_⟩
    · unfold f_X3_count
      rw [if_neg (nI_pos (by omega)), if_pos (by rw [i32_lt, z9]; omega), e1]; rfl
    · unfold f_X4_count f_X4_count_L21
      rw [e_inI, Option.bind_some, bI_t (by rw [q8, q0]; exact ha), if_neg (by decide), e2]; rfl
  · refine ⟨-1, ?_, ?_⟩
    · unfold f_X3_count f_X3_count_L10
      by_cases h1 : a < 0
      · rw [if_pos h1]
      · rw [if_neg h1, if_neg (fun z => by rw [i32_lt, z9] at z; rw [i32_lt, z0] at h1; omega)]
    · unfold f_X4_count f_X4_count_L21
      rw [e_inI, Option.bind_some, bI_f (by rw [q8, q0]; exact ha), if_pos rfl]
