/-! ===== promise 45: lots ===== -/
def lotN (s : Nat) : Nat → Nat
  | 0 => s
  | i + 1 => lotN s i * 48271 % 2147483647
theorem lotN_lt {s : Nat} (h : s < 2147483647) (i : Nat) : lotN s i < 2147483647 := by
  cases i with
  | zero => exact h
  | succ i => exact Nat.mod_lt _ (by decide)
theorem e_lot {x : Nat} (h : x < 2147483647) : (lN x * (48271 : Int64)) - (lN x * (48271 : Int64)) / (2147483647 : Int64) * (2147483647 : Int64) = lN (x * 48271 % 2147483647) := by
  rw [show (48271 : Int64) = lN 48271 from rfl, show (2147483647 : Int64) = lN 2147483647 from rfl, lN_mul, pk_lRem (by omega) (by decide) (by decide)]
theorem and_m1 {q T : Nat} (hq : q < 2 ^ 31) (hT : T ≤ 6) : nI q &&& (nI (2 ^ T) - 1) = nI (q % 2 ^ T) := by
  have h6 : 2 ^ T ≤ 2 ^ 6 := p2 hT
  have h1 : 0 < 2 ^ T := Nat.pow_pos (by decide)
  rw [show (1 : Int32) = nI 1 from rfl, pk_sub (by omega)]
  exact pk_andN (by omega) T (by rw [pk_tn (by omega)])
def lotC (n : xN) (T C o s : Nat) : Nat → Nat
  | 0 => 0
  | i + 1 => lotC n T C o s i + (if pG n T C o (lotN s (i + 1) / 16 % 2 ^ T) = true then 1 else 0)
set_option maxHeartbeats 1000000 in
theorem op_lots (N : Nat) (hN : 100 ≤ N) (a b : Int32) : OpP (f_X3_lots N a b) (f_X4_lots N a b) := by
  intro n h
  obtain ⟨T, C, hc⟩ := Crt_of h
  obtain ⟨o, ho, eo, xo, hbd⟩ := On_of h hc
  have h6 : 2 ^ T ≤ 2 ^ 6 := p2 hc.1
  have h8 := p8 hc.2.1
  have h1 : 0 < 2 ^ T := Nat.pow_pos (by decide)
  obtain ⟨t1, t2⟩ := T0 hc
  have z40 : (40 : Int32).toInt = 40 := rfl
  have e4 : f_X4_in (Int32.toInt64 a) (1 : Int64) (40 : Int64) = some (bI (1 ≤ a.toInt ∧ a.toInt ≤ 40)) := by rw [e_inI]; rfl
  have e5 : f_X4_in (Int32.toInt64 b) (1 : Int64) (2147483646 : Int64) = some (bI (1 ≤ b.toInt ∧ b.toInt ≤ 2147483646)) := by rw [e_inI]; rfl
  have hX : ∀ x, (1 ≤ a.toInt ∧ a.toInt ≤ 40) → (1 ≤ b.toInt ∧ b.toInt ≤ 2147483646) → (if n.1 7 0 = (0 : Int32) then some (-4 : Int32) else f_X3_lots_L49 N n N a (Int32.toInt64 b) (0 : Int32) (0 : Int32)) = some x → f_X3_lots N a b n = some x := by
    intro x p1 p2 e
    rw [f_X3_lots, if_neg (by rw [i32_lt, z1]; omega), if_neg (by rw [i32_lt, z40]; omega), if_neg (by rw [i32_lt, z1]; omega), if_pos (by rw [lg_cmp_lt, Int64.lt_iff_toInt_lt, i64_of]; show b.toInt < 2147483647; omega)]
    exact e
  by_cases ha : 1 ≤ a.toInt ∧ a.toInt ≤ 40
  · by_cases hb : 1 ≤ b.toInt ∧ b.toInt ≤ 2147483646
    · by_cases hT : T = 0
      · refine ⟨-4, hX _ ha hb (by rw [if_pos (t1.mpr hT)]), ?_⟩
        rw [f_X4_lots, e4, bI_t ha, Option.bind_some, if_neg (by decide), e5, bI_t hb, Option.bind_some, if_neg (by decide), if_pos (t2.mpr hT)]
      · obtain ⟨q, hq, rfl⟩ := i32_of (show 0 ≤ a.toInt by omega) (k := 41) (by omega)
        obtain ⟨s, hs, rfl⟩ := i32_of (show 0 ≤ b.toInt by omega) (k := 2147483647) (by omega)
        refine ⟨nI (lotC n T C o s q), ?_, ?_⟩
        · refine hX _ ha hb ?_
          rw [if_neg (fun z => hT (t1.mp z)), nI_l (by omega)]
          have key := eq_forG (rc := f_X3_lots_L49 N n) (body := f_X3_lots_L49b N n) (fun f i (s' : Int64 × Int32) => f (nI q) s'.1 s'.2 i) (fun _ => rfl) 0 q (fun i => (lN (lotN s i), nI (lotC n T C o s i))) (some (nI (lotC n T C o s q))) ?_ ?_ N 0 (Nat.le_refl _) (Nat.zero_le _) (by omega)
          · exact key
          · intro f i _ hi
            unfold f_X3_lots_L49b f_X3_lots_L95
            have hl := lotN_lt hs i
            have hl2 := lotN_lt hs (i + 1)
            have e16 : Int64.toInt32 (lN (lotN s i * 48271 % 2147483647) / (16 : Int64)) = nI (lotN s (i + 1) / 16) := by
              show Int64.toInt32 (lN (lotN s (i + 1)) / (16 : Int64)) = _
              rw [show (16 : Int64) = lN 16 from rfl, pk_lDiv (by omega) (by decide) (by decide), lN_i]
            dsimp only
            rw [if_neg (by rw [nI_leI (by omega) (by omega)]; omega), gdlT (by decide), gdlT (by decide), gdl0, e_waysX _ hc.1 hc.2.2.2.2.2.1, Option.bind_some, e_lot hl, e16, and_m1 (by omega) hc.1, e_goodX N (by omega) n hc (Nat.mod_lt _ h1) xo (by omega), HN_c hc hbd, bI_pG, Option.bind_some, nI_1, lotC]
            by_cases r : pG n T C o (lotN s (i + 1) / 16 % 2 ^ T) = true
            · rw [bI_t r, if_neg (by decide), if_pos r, nI_1]; rfl
            · rw [bI_f r, if_pos rfl, if_neg r]; rfl
          · intro f
            unfold f_X3_lots_L49b
            exact if_pos (by rw [nI_leI (by omega) (by omega)]; omega)
        · rw [f_X4_lots, e4, bI_t ha, Option.bind_some, if_neg (by decide), e5, bI_t hb, Option.bind_some, if_neg (by decide), if_neg (fun z => hT (t2.mp z)), nI_l (by omega)]
          have key := eq_forG (rc := f_X4_lots_L45 N n) (body := f_X4_lots_L45b N n) (fun f i (s' : Int64 × Int32) => f (nI q) s'.1 s'.2 i) (fun _ => rfl) 0 q (fun i => (lN (lotN s i), nI (lotC n T C o s i))) (some (nI (lotC n T C o s q))) ?_ ?_ N 0 (Nat.le_refl _) (Nat.zero_le _) (by omega)
          · exact key
          · intro f i _ hi
            unfold f_X4_lots_L45b f_X4_lots_L87
            have hl := lotN_lt hs i
            have hl2 := lotN_lt hs (i + 1)
            have e16 : lN (lotN s i * 48271 % 2147483647) / (16 : Int64) = lN (lotN s (i + 1) / 16) := by
              show lN (lotN s (i + 1)) / (16 : Int64) = _
              rw [show (16 : Int64) = lN 16 from rfl, pk_lDiv (by omega) (by decide) (by decide)]
            have hm := Nat.mod_lt (lotN s (i + 1) / 16) h1
            dsimp only
            rw [if_neg (by rw [nI_leI (by omega) (by omega)]; omega), gdlT (by decide), gdlT (by decide), gdl0, e_waysM _ hc.1 hc.2.2.2.1, Option.bind_some, nI_l (by omega), gdlT (nzl_lN (by omega) h1), gdl0, e_lot hl, e16, pk_lRem (by omega) h1 (by omega), lN_i, e_goodM N (by omega) n hc (by omega) eo (by omega), bI_pG, Option.bind_some, nI_1, lotC]
            by_cases r : pG n T C o (lotN s (i + 1) / 16 % 2 ^ T) = true
            · rw [bI_t r, if_neg (by decide), if_pos r, nI_1]; rfl
            · rw [bI_f r, if_pos rfl, if_neg r, Int32.add_zero]; rfl
          · intro f
            unfold f_X4_lots_L45b
            exact if_pos (by rw [nI_leI (by omega) (by omega)]; omega)
    · refine ⟨-1, ?_, ?_⟩
      · rw [f_X3_lots, if_neg (by rw [i32_lt, z1]; omega), if_neg (by rw [i32_lt, z40]; omega)]
        by_cases q : b < 1
        · rw [if_pos q]; rfl
        · rw [if_neg q, if_neg (by rw [i32_lt, z1] at q; rw [lg_cmp_lt, Int64.lt_iff_toInt_lt, i64_of]; show ¬ b.toInt < 2147483647; omega)]; rfl
      · rw [f_X4_lots, e4, bI_t ha, Option.bind_some, if_neg (by decide), e5, bI_f hb, Option.bind_some, if_pos rfl]; rfl
  · refine ⟨-1, ?_, ?_⟩
    · rw [f_X3_lots]
      by_cases q : a < 1
      · rw [if_pos q]; rfl
      · rw [if_neg q, if_pos (by rw [i32_lt, z1] at q; rw [i32_lt, z40]; omega)]; rfl
    · rw [f_X4_lots, e4, bI_f ha, Option.bind_some, if_pos rfl]; rfl
