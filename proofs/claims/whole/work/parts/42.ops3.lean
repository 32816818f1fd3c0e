/-! ===== promises 13, 14, 41: clause, mark, kinds ===== -/
theorem e_isClX (n : xN) {C : Nat} (hC : C ≤ 8) (xC : n.1 7 1 = nI C) (a : Int32) : f_X3_isClause a n = some (bI (0 ≤ a.toInt ∧ a.toInt < C)) := by
  unfold f_X3_isClause f_X3_isClause_L19 f_X3_isClause_L20
  rw [xC]
  simp only [i32_lt, i32_le, z0]
  rw [nI_toInt (by omega)]
  by_cases h1 : a.toInt < 0
  · rw [if_pos h1, bI_f (by omega)]; rfl
  · rw [if_neg h1]
    by_cases h2 : (C : Int) ≤ a.toInt
    · rw [if_pos h2, bI_f (by omega)]; rfl
    · rw [if_neg h2, bI_t (by omega)]; rfl
theorem e_isClM (n : xN) {C : Nat} (hC : C ≤ 8) (eC : n.1 39 3 = nI C) (a : Int32) : f_X4_isClause a n = some (bI (0 ≤ a.toInt ∧ a.toInt < C)) := by
  unfold f_X4_isClause
  rw [eC, e_inm a _ (by rw [nI_toInt (by omega)]; omega), Option.bind_some, gdl_bI, gdl0]
  exact congrArg some (bI_c (by rw [nI_toInt (by omega)]))
def hmN (n : xN) (T a t o : Nat) : Nat := cnt (fun w => hB (bdM (n.1 40)) (vS (n.1 41) T w) a t o) (2 ^ T)
theorem hmN_le (n : xN) (T a t o : Nat) : hmN n T a t o ≤ 2 ^ T := cnt_le _ _
theorem cnt_c {p q : Nat → Bool} {W : Nat} (h : ∀ w, w < W → p w = q w) : cnt p W = cnt q W := by
  induction W with
  | zero => rfl
  | succ c ih => rw [cnt, cnt, ih (fun k hk => h k (by omega)), h c (by omega)]
theorem e_waysHeld (N : Nat) (hN : 100 ≤ N) (n : xN) {T C k a : Nat} (hc : Crt n T C) (hbd : ∀ b, b < 8 → n.1 20 b = bdM (n.1 40) b) (hk : k < C) (ha : a ≤ 5) : f_X3_waysHeld N (nI k) (nI a) n = some (nI (hmN n T a (tr n k) (sc n k))) := by
  have h6 : 2 ^ T ≤ 2 ^ 6 := p2 hc.1
  obtain ⟨-, -, -, -, -, -, -, -, hcl, -⟩ := id hc
  obtain ⟨-, -, -, ht, -, -, -, hso, -⟩ := hcl k hk
  unfold f_X3_waysHeld
  have key := eq_forG (rc := f_X3_waysHeld_L5 N n) (body := f_X3_waysHeld_L5b N n) (fun f i (s : Int32) => f (nI k) (nI a) s i) (fun _ => rfl) 0 (2 ^ T) (fun i => nI (cnt (fun w => hB (bdM (n.1 40)) (vS (n.1 41) T w) a (tr n k) (sc n k)) i)) (some (nI (hmN n T a (tr n k) (sc n k)))) ?_ ?_ N 0 (Nat.le_refl _) (Nat.zero_le _) (by omega)
  · exact key
  · intro f i _ hi
    unfold f_X3_waysHeld_L5b f_X3_waysHeld_L41
    rw [e_waysX _ hc.1 hc.2.2.2.2.2.1, Option.bind_some, if_neg (by rw [nI_leI (by omega) (by omega)]; omega), e_heldAsK20 hc hi hk ha, Option.bind_some, hB_c hbd ht (sec_lt hso), nI_1, cnt]
    cases hB (bdM (n.1 40)) (vS (n.1 41) T i) a (tr n k) (sc n k)
    · simp [bI]
    · simp [bI, nI_1]
  · intro f
    unfold f_X3_waysHeld_L5b
    rw [e_waysX _ hc.1 hc.2.2.2.2.2.1, Option.bind_some, if_pos (by rw [nI_leI (by omega) (by omega)]; omega)]
    rfl
theorem e_heldMany (N : Nat) (hN : 100 ≤ N) (n : xN) {T C a t o : Nat} {oo : Int32} (hc : Crt n T C) (ha : a ≤ 5) (ht : t < 4) (ho : (a = 2 ∨ a = 5) → oo = nI o ∧ o < 4) : f_X4_heldMany N (nI a) (nI t) oo n = some (nI (hmN n T a t o)) := by
  have h6 : 2 ^ T ≤ 2 ^ 6 := p2 hc.1
  unfold f_X4_heldMany
  have key := eq_forG (rc := f_X4_heldMany_L6 N n) (body := f_X4_heldMany_L6b N n) (fun f i (s : Int32) => f (nI a) (nI t) oo s i) (fun _ => rfl) 0 (2 ^ T) (fun i => nI (cnt (fun w => hB (bdM (n.1 40)) (vS (n.1 41) T w) a t o) i)) (some (nI (hmN n T a t o))) ?_ ?_ N 0 (Nat.le_refl _) (Nat.zero_le _) (by omega)
  · exact key
  · intro f i _ hi
    unfold f_X4_heldMany_L6b f_X4_heldMany_L34
    rw [e_waysM _ hc.1 hc.2.2.2.1, Option.bind_some, if_neg (by rw [nI_leI (by omega) (by omega)]; omega), e_holdsOf N (by omega) n hc.1 hc.2.2.2.1 (by omega) ha ht ho, Option.bind_some, nI_1, cnt]
    cases hB (bdM (n.1 40)) (vS (n.1 41) T i) a t o
    · simp [bI]
    · simp [bI, nI_1]
  · intro f
    unfold f_X4_heldMany_L6b
    rw [e_waysM _ hc.1 hc.2.2.2.1, Option.bind_some, if_pos (by rw [nI_leI (by omega) (by omega)]; omega)]
    rfl
/-- what clause() tells -/
def clV (n : xN) (T o k w : Nat) : Int32 := match w with
  | 0 => nI (kn n k)
  | 1 => nI (tr n k)
  | 2 => n.1 44 k
  | 3 => bI (o.testBit k = true)
  | _ => nI (hmN n T (kn n k) (tr n k) (sc n k))
theorem e_clNum (N : Nat) (hN : 100 ≤ N) (n : xN) {T C o k w : Nat} (hc : Crt n T C) (hbd : ∀ b, b < 8 → n.1 20 b = bdM (n.1 40) b) (xo : n.1 19 1 = nI o) (ho : o < 2 ^ 31) (hk : k < C) (hw : w ≤ 4) : f_X3_clauseNumber N (nI k) (nI w) n = some (clV n T o k w) := by
  have hC := hc.2.1
  obtain ⟨-, -, -, -, -, -, -, -, hcl, -⟩ := id hc
  obtain ⟨ha, -, ea, ht, -, et, eo, hso, -⟩ := hcl k hk
  unfold f_X3_clauseNumber f_X3_clauseNumber_L78
  have gd : ∀ (x : Option Int32), gdl [inb (nI k) 8] x = x := fun x => by rw [gdl_nI (by omega) (by omega), gdl0]
  match w, hw with
  | 0, _ => rw [if_neg (by decide), if_pos (by decide), gd, nI_clamp (by omega), ea]; rfl
  | 1, _ => rw [if_neg (by decide), if_neg (by decide), if_pos (by decide), gd, nI_clamp (by omega), et]; rfl
  | 2, _ => rw [if_neg (by decide), if_neg (by decide), if_neg (by decide), if_pos (by decide), gd, nI_clamp (by omega), eo]; rfl
  | 3, _ =>
    rw [if_neg (by decide), if_neg (by decide), if_neg (by decide), if_neg (by decide), if_pos (by decide), f_X2_isOn_19, xo, e_hasBit ho (by omega), Option.bind_some, gdl_bI, gdl0, Option.bind_some]
    show _ = some (bI (o.testBit k = true))
    cases o.testBit k <;> simp [bI]
  | 4, _ =>
    rw [if_pos (by decide), gd, nI_clamp (by omega), ea, e_waysHeld N hN n hc hbd hk ha, Option.bind_some]
    rfl
  | j + 5, h => exact absurd h (by omega)
theorem e_toldOf (N : Nat) (hN : 100 ≤ N) (n : xN) {T C o k w : Nat} (hc : Crt n T C) (eo : n.1 40 1 = nI o) (ho : o < 2 ^ 31) (hk : k < C) (hw : w ≤ 4) : f_X4_toldOf N (nI k) (nI w) n = some (clV n T o k w) := by
  have hC := hc.2.1
  obtain ⟨-, -, -, -, -, -, -, -, hcl, -⟩ := id hc
  obtain ⟨ha, ea, -, ht, et, -, -, hso, h25, -⟩ := hcl k hk
  unfold f_X4_toldOf
  have gd : ∀ (x : Option Int32), gdl [inb (nI k) 8] x = x := fun x => by rw [gdl_nI (by omega) (by omega), gdl0]
  match w, hw with
  | 0, _ => rw [if_neg (by decide), if_pos (by decide), gd, nI_clamp (by omega), ea]; rfl
  | 1, _ => rw [if_neg (by decide), if_neg (by decide), if_pos (by decide), gd, nI_clamp (by omega), et]; rfl
  | 2, _ => rw [if_neg (by decide), if_neg (by decide), if_neg (by decide), if_pos (by decide), gd, nI_clamp (by omega)]; rfl
  | 3, _ =>
    rw [if_neg (by decide), if_neg (by decide), if_neg (by decide), if_neg (by decide), if_pos (by decide), gdlT (by decide), gdl0, show Int32.toNatClampNeg 1 = 1 by decide, eo, and_sh ho (by omega)]
    show _ = some (bI (o.testBit k = true))
    by_cases q : o.testBit k = true
    · rw [bI_t q, (tb_div _ _).mp q]; rfl
    · rw [bI_f q]
      have : ¬ o / 2 ^ k % 2 = 1 := fun z => q ((tb_div _ _).mpr z)
      rw [show o / 2 ^ k % 2 = 0 by omega]; rfl
  | 4, _ =>
    rw [if_pos (by decide), gdl_nI (by omega) (by omega), gdl_nI (by omega) (by omega), gd, nI_clamp (by omega)]
    rw [show f_X4_heldMany N (n.1 42 k) (n.1 43 k) (n.1 44 k) n = f_X4_heldMany N (nI (kn n k)) (nI (tr n k)) (n.1 44 k) n by rw [← ea, ← et], e_heldMany N hN n hc ha ht h25, Option.bind_some]
    rfl
  | j + 5, h => exact absurd h (by omega)
theorem op_clause (N : Nat) (hN : 100 ≤ N) (a b : Int32) : Op (f_X3_clause N a b) (f_X4_clause N a b) := by
  intro n h
  obtain ⟨T, C, hc⟩ := Crt_of h
  obtain ⟨o, ho, eo, xo, hbd⟩ := On_of h hc
  obtain ⟨hT, hC, h0, eT, eC, xT, xC, hs, hcl, hg⟩ := id hc
  have h8 := p8 hC
  have z4 : (4 : Int32).toInt = 4 := rfl
  have e4 : f_X4_in (Int32.toInt64 b) (0 : Int64) (4 : Int64) = some (bI (0 ≤ b.toInt ∧ b.toInt ≤ 4)) := by rw [e_inI]; rfl
  by_cases ha : 0 ≤ a.toInt ∧ a.toInt < C
  · by_cases hb : 0 ≤ b.toInt ∧ b.toInt ≤ 4
    · obtain ⟨k, hk, rfl⟩ := i32_of ha.1 ha.2
      obtain ⟨w, hw, rfl⟩ := i32_of hb.1 (k := 5) (by omega)
      have hx : f_X3_clause N (nI k) (nI w) n = some (1, mI n 0 10 (clV n T o k w)) := by
        rw [f_X3_clause, e_isClX n hC xC, bI_t ha, Option.bind_some, if_neg (by decide), if_neg (nI_pos (by omega)), if_pos (by rw [i32_le, z4]; omega), e_clNum N hN n hc hbd xo (by omega) hk (by omega), Option.bind_some]
      have hm : f_X4_clause N (nI k) (nI w) (mI n 0 10 (clV n T o k w)) = some (1, mI (mI n 0 10 (clV n T o k w)) 39 11 (clV n T o k w)) := by
        have hc1 : Crt (mI n 0 10 (clV n T o k w)) T C := Crt_x10 hc _
        have e1 := e_toldOf N hN _ hc1 (o := o) (by simp [mI1, eo]) (by omega) hk (show w ≤ 4 by omega)
        rw [f_X4_clause, e_isClM _ hC hc1.2.2.2.2.1, bI_t ha, Option.bind_some, if_neg (by decide), e4, bI_t hb, Option.bind_some, if_neg (by decide), e1, Option.bind_some]
        rfl
      exact Op_mk hx hm rfl (Inv_told h _)
    · refine ⟨-1, n, n, ?_, ?_, h⟩
      · rw [f_X3_clause, e_isClX n hC xC, bI_t ha, Option.bind_some, if_neg (by decide)]
        by_cases q : b < 0
        · rw [if_pos q]; rfl
        · rw [if_neg q, if_neg (by rw [i32_lt, z0] at q; rw [i32_le, z4]; omega)]; rfl
      · rw [f_X4_clause, e_isClM _ hC eC, bI_t ha, Option.bind_some, if_neg (by decide), e4, bI_f hb, Option.bind_some, if_pos rfl]; rfl
  · refine ⟨-1, n, n, ?_, ?_, h⟩
    · rw [f_X3_clause, e_isClX n hC xC, bI_f ha, Option.bind_some, if_pos rfl]; rfl
    · rw [f_X4_clause, e_isClM _ hC eC, bI_f ha, Option.bind_some, if_pos rfl]; rfl
theorem op_kinds (N : Nat) (hN : 100 ≤ N) (a b : Int32) : OpP (f_X3_kinds N a b) (f_X4_kinds N a b) := by
  intro n h
  obtain ⟨T, C, hc⟩ := Crt_of h
  obtain ⟨o, ho, eo, xo, hbd⟩ := On_of h hc
  obtain ⟨hT, hC, h0, eT, eC, xT, xC, hs, hcl, hg⟩ := id hc
  have z4 : (64 : Int32).toInt = 64 := rfl
  have e4 : f_X4_in (Int32.toInt64 b) (0 : Int64) (64 : Int64) = some (bI (0 ≤ b.toInt ∧ b.toInt ≤ 64)) := by rw [e_inI]; rfl
  by_cases ha : 0 ≤ a.toInt ∧ a.toInt < C
  · obtain ⟨k, hk, rfl⟩ := i32_of ha.1 ha.2
    obtain ⟨-, -, -, ht, et, -, -, hso, -⟩ := hcl k hk
    by_cases hb : 0 ≤ b.toInt ∧ b.toInt ≤ 64
    · refine ⟨nI (maskN (fun a => decide (nI (hmN n T a (tr n k) (sc n k)) = b)) 6), ?_, ?_⟩
      · rw [f_X3_kinds, e_isClX n hC xC, bI_t ha, Option.bind_some, if_neg (by decide), if_neg (by rw [i32_lt, z0]; omega), if_pos (by rw [i32_le, z4]; omega)]
        have key := eq_forG (rc := f_X3_kinds_L25 N n) (body := f_X3_kinds_L25b N n) (fun f i (s : Int32) => f (nI k) b s i) (fun _ => rfl) 0 6 (fun i => nI (maskN (fun a => decide (nI (hmN n T a (tr n k) (sc n k)) = b)) i)) (some (nI (maskN (fun a => decide (nI (hmN n T a (tr n k) (sc n k)) = b)) 6))) ?_ ?_ N 0 (Nat.le_refl _) (Nat.zero_le _) (by omega)
        · exact key
        · intro f i _ hi
          unfold f_X3_kinds_L25b f_X3_kinds_L49
          rw [show (5 : Int32) = nI 5 from rfl, if_neg (by rw [nI_ltI (by omega) (by omega)]; omega), e_waysHeld N hN n hc hbd hk (by omega), Option.bind_some, mask_step _ (by omega), nI_1, maskN]
          by_cases q : nI (hmN n T i (tr n k) (sc n k)) = b
          · rw [if_pos q, if_pos (by simp [q])]
          · rw [if_neg q, if_neg (by simp [q])]; rfl
        · intro f
          unfold f_X3_kinds_L25b
          exact if_pos (by decide)
      · have hoth : f_X4_kinds_L52 N n (nI k) b (nI (sc n k)) = some (nI (maskN (fun a => decide (nI (hmN n T a (tr n k) (sc n k)) = b)) 6)) := by
          unfold f_X4_kinds_L52
          have key := eq_forG (rc := f_X4_kinds_L59 N n) (body := f_X4_kinds_L59b N n) (fun f i (s : Int32) => f (nI k) b (nI (sc n k)) s i) (fun _ => rfl) 0 6 (fun i => nI (maskN (fun a => decide (nI (hmN n T a (tr n k) (sc n k)) = b)) i)) (some (nI (maskN (fun a => decide (nI (hmN n T a (tr n k) (sc n k)) = b)) 6))) ?_ ?_ N 0 (Nat.le_refl _) (Nat.zero_le _) (by omega)
          · exact key
          · intro f i _ hi
            unfold f_X4_kinds_L59b f_X4_kinds_L93
            rw [show (6 : Int32) = nI 6 from rfl, if_neg (by rw [nI_leI (by omega) (by omega)]; omega), gdl_nI (by omega) (by omega), gdl0, nI_clamp (by omega), et, e_heldMany N hN n hc (show i ≤ 5 by omega) ht (fun _ => ⟨rfl, sec_lt hso⟩), Option.bind_some, mask_step _ (by omega), or_0, nI_1, maskN]
            by_cases q : nI (hmN n T i (tr n k) (sc n k)) = b
            · rw [if_pos q, if_pos (by simp [q])]
            · rw [if_neg q, if_neg (by simp [q])]; rfl
          · intro f
            unfold f_X4_kinds_L59b
            exact if_pos (by decide)
        rw [f_X4_kinds, e_isClM _ hC eC, bI_t ha, Option.bind_some, if_neg (by decide), e4, bI_t hb, Option.bind_some, if_neg (by decide), gdl_nI (by omega) (by omega), gdl0, nI_clamp (by omega), gdl_nI (by omega) (by omega), gdlT (by decide), gdl0, gdl_nI (by omega) (by omega), gdl0]
        rcases hso with ⟨q1, q2⟩ | ⟨q1, q2⟩
        · rw [if_neg (by rw [q1]; exact nI_n9 (by omega)), q1]; exact hoth
        · rw [if_pos q1, et, nI_1, show (4 : Int32) = nI 4 from rfl, pk_rem (by omega) (by decide) (by decide), ← q2]; exact hoth
    · refine ⟨-1, ?_, ?_⟩
      · rw [f_X3_kinds, e_isClX n hC xC, bI_t ha, Option.bind_some, if_neg (by decide)]
        by_cases q : b < 0
        · rw [if_pos q]; rfl
        · rw [if_neg q, if_neg (by rw [i32_lt, z0] at q; rw [i32_le, z4]; omega)]; rfl
      · rw [f_X4_kinds, e_isClM _ hC eC, bI_t ha, Option.bind_some, if_neg (by decide), e4, bI_f hb, Option.bind_some, if_pos rfl]; rfl
  · refine ⟨-1, ?_, ?_⟩
    · rw [f_X3_kinds, e_isClX n hC xC, bI_f ha, Option.bind_some, if_pos rfl]; rfl
    · rw [f_X4_kinds, e_isClM _ hC eC, bI_f ha, Option.bind_some, if_pos rfl]; rfl
