/-! ===== promises 43 to 45: odds, luck, lots ===== -/
theorem lN0 (b : Nat) (h : b < 2 ^ 63) : (lN b = 0) ↔ b = 0 := by
  rw [show (0 : Int64) = lN 0 from rfl, pk_lEQ h (by decide)]
theorem nzl_lN {b : Nat} (h : b < 2 ^ 63) (h0 : 0 < b) : nzl (lN b) = true := by
  simp only [nzl, Bool.not_eq_true', decide_eq_false_iff_not]
  rw [lN0 b h]; omega
theorem euXs (N : Nat) (u : xN) (A B : Int64) {a b s k : Nat} (ha : a < 2 ^ 62) (hb : b < 2 ^ 62) (h0 : 0 < b) (hs : s < 100) : f_X3_tellChance_L9 N (k + 1) A B (lN a) (lN b) (nI s) u = f_X3_tellChance_L9 N k A B (lN b) (lN (a % b)) (nI (s + 1)) u := by
  rw [fs_X3_tellChance_L9]
  unfold f_X3_tellChance_L9b
  rw [show (100 : Int32) = nI 100 from rfl, if_neg (by rw [nI_leI (by omega) (by omega)]; omega), if_neg (by rw [lg_cmp_eq, lN0 b (by omega)]; omega), gdlT (nzl_lN (by omega) h0), gdl0, pk_lRem (by omega) h0 (by omega), nI_1]
theorem euXe (N : Nat) (u : xN) (A B : Int64) {a s k : Nat} (hs : s < 100) : f_X3_tellChance_L9 N (k + 1) A B (lN a) (lN 0) (nI s) u = f_X3_tellChance_L44 N A B (lN a) u := by
  rw [fs_X3_tellChance_L9]
  unfold f_X3_tellChance_L9b
  rw [show (100 : Int32) = nI 100 from rfl, if_neg (by rw [nI_leI (by omega) (by omega)]; omega), if_pos (by rw [lg_cmp_eq]; rfl)]
theorem gcd_s (a b : Nat) : Nat.gcd a b = Nat.gcd b (a % b) := by
  rw [Nat.gcd_comm a b, Nat.gcd_rec b a, Nat.gcd_comm]
theorem half_mod {b r : Nat} (h0 : 0 < r) (h : r < b) {f : Nat} (hb : b < 2 ^ (f + 1)) : b % r < 2 ^ f := by
  have h1 : b % r < r := Nat.mod_lt _ h0
  have h2 : r * (b / r) + b % r = b := Nat.div_add_mod b r
  have h3 : 1 ≤ b / r := Nat.div_pos (by omega) h0
  have h4 : r ≤ r * (b / r) := Nat.le_mul_of_pos_right r h3
  rw [Nat.pow_succ] at hb
  omega
theorem euX (N : Nat) (u : xN) (A B : Int64) : ∀ (f k a b s : Nat), b < 2 ^ f → f ≤ 45 → a < 2 ^ 62 → s + 2 * f + 1 ≤ 100 → 2 * f + 1 < k → f_X3_tellChance_L9 N k A B (lN a) (lN b) (nI s) u = f_X3_tellChance_L44 N A B (lN (Nat.gcd a b)) u := by
  intro f
  induction f with
  | zero =>
    intro k a b s hb _ _ hs hk
    have : b = 0 := by omega
    subst this
    obtain ⟨k', rfl⟩ : ∃ k', k = k' + 1 := ⟨k - 1, by omega⟩
    rw [euXe N u A B (by omega), Nat.gcd_zero_right]
  | succ f ih =>
    intro k a b s hb hf ha hs hk
    have hb2 : b < 2 ^ 62 := Nat.lt_of_lt_of_le hb (p2 (by omega))
    obtain ⟨k', rfl⟩ : ∃ k', k = k' + 1 := ⟨k - 1, by omega⟩
    by_cases h0 : b = 0
    · subst h0
      rw [euXe N u A B (by omega), Nat.gcd_zero_right]
    · rw [euXs N u A B ha hb2 (by omega) (by omega), gcd_s a b]
      have hr : a % b < b := Nat.mod_lt _ (by omega)
      obtain ⟨k2, rfl⟩ : ∃ k2, k' = k2 + 1 := ⟨k' - 1, by omega⟩
      by_cases h1 : a % b = 0
      · rw [h1, euXe N u A B (by omega), Nat.gcd_zero_right]
      · rw [euXs N u A B hb2 (by omega) (by omega) (by omega), gcd_s b (a % b)]
        exact ih k2 (a % b) (b % (a % b)) (s + 1 + 1) (half_mod (by omega) hr hb) (by omega) (by omega) (by omega) (by omega)
theorem euMs (N : Nat) (u : xN) (A B : Int64) {a b k : Nat} (ha : a < 2 ^ 62) (hb : b < 2 ^ 62) (h0 : 0 < b) : f_X4_tellParts_L6 N (k + 1) A B (lN a) (lN b) u = f_X4_tellParts_L6 N k A B (lN b) (lN (a % b)) u := by
  rw [fs_X4_tellParts_L6]
  unfold f_X4_tellParts_L6b
  rw [if_neg (by rw [lg_cmp_eq, lN0 b (by omega)]; omega), gdlT (nzl_lN (by omega) h0), gdl0, pk_lRem (by omega) h0 (by omega)]
theorem euMe (N : Nat) (u : xN) (A B : Int64) {a k : Nat} (ha : a < 2 ^ 62) (h0 : 0 < a) : f_X4_tellParts_L6 N (k + 1) A B (lN a) (lN 0) u = some (1, mJ (mJ u 39 12 (A / lN a)) 39 13 (B / lN a)) := by
  rw [fs_X4_tellParts_L6]
  unfold f_X4_tellParts_L6b
  rw [if_pos (by rw [lg_cmp_eq]; rfl), gdlT (nzl_lN (by omega) h0), gdlT (nzl_lN (by omega) h0), gdl0]
theorem euM (N : Nat) (u : xN) (A B : Int64) : ∀ (f k a b : Nat), b < 2 ^ f → f ≤ 45 → a < 2 ^ 62 → 0 < Nat.gcd a b → 2 * f + 1 < k → f_X4_tellParts_L6 N k A B (lN a) (lN b) u = some (1, mJ (mJ u 39 12 (A / lN (Nat.gcd a b))) 39 13 (B / lN (Nat.gcd a b))) := by
  intro f
  induction f with
  | zero =>
    intro k a b hb _ ha hg hk
    have : b = 0 := by omega
    subst this
    obtain ⟨k', rfl⟩ : ∃ k', k = k' + 1 := ⟨k - 1, by omega⟩
    rw [Nat.gcd_zero_right] at hg ⊢
    rw [euMe N u A B ha hg]
  | succ f ih =>
    intro k a b hb hf ha hg hk
    have hb2 : b < 2 ^ 62 := Nat.lt_of_lt_of_le hb (p2 (by omega))
    obtain ⟨k', rfl⟩ : ∃ k', k = k' + 1 := ⟨k - 1, by omega⟩
    by_cases h0 : b = 0
    · subst h0
      rw [Nat.gcd_zero_right] at hg ⊢
      rw [euMe N u A B ha hg]
    · rw [euMs N u A B ha hb2 (by omega)]
      rw [gcd_s a b] at hg ⊢
      have hr : a % b < b := Nat.mod_lt _ (by omega)
      obtain ⟨k2, rfl⟩ : ∃ k2, k' = k2 + 1 := ⟨k' - 1, by omega⟩
      by_cases h1 : a % b = 0
      · rw [h1, Nat.gcd_zero_right] at hg ⊢
        rw [euMe N u A B hb2 hg]
      · rw [euMs N u A B hb2 (by omega) (by omega)]
        rw [gcd_s b (a % b)] at hg ⊢
        exact ih k2 (a % b) (b % (a % b)) (half_mod (by omega) hr hb) (by omega) (by omega) hg (by omega)
theorem e_tellX (N : Nat) (hN : 100 ≤ N) (u : xN) {a b : Nat} (ha : a < 2 ^ 40) (hb : b < 2 ^ 40) (h0 : 0 < b) : f_X3_tellChance N (lN a) (lN b) u = some (mJ (mJ u 0 11 (lN a / lN (Nat.gcd a b))) 0 12 (lN b / lN (Nat.gcd a b))) := by
  have hg : 0 < Nat.gcd a b := Nat.gcd_pos_of_pos_right a h0
  have hg2 : Nat.gcd a b ≤ b := Nat.gcd_le_right a h0
  unfold f_X3_tellChance
  have := euX N u (lN a) (lN b) 40 N b a 0 ha (by omega) (by omega) (by omega) (by omega)
  rw [show (0 : Int32) = nI 0 from rfl, this, Nat.gcd_comm b a]
  unfold f_X3_tellChance_L44
  rw [if_neg (by rw [lg_cmp_le, show (0 : Int64) = lN 0 from rfl, pk_lLE (by omega) (by omega)]; omega), gdlT (nzl_lN (by omega) hg), gdlT (nzl_lN (by omega) hg), gdl0]
theorem e_tellM (N : Nat) (hN : 100 ≤ N) (u : xN) {a b : Nat} (ha : a < 2 ^ 40) (hb : b < 2 ^ 40) (h0 : 0 < b) : f_X4_tellParts N (lN a) (lN b) u = some (1, mJ (mJ u 39 12 (lN a / lN (Nat.gcd a b))) 39 13 (lN b / lN (Nat.gcd a b))) := by
  have hg : 0 < Nat.gcd a b := Nat.gcd_pos_of_pos_right a h0
  unfold f_X4_tellParts
  exact euM N u (lN a) (lN b) 40 N a b hb (by omega) (by omega) hg (by omega)
theorem Inv_ch {n : xN} (h : Inv n) (p q : Int64) : Inv (mJ (mJ (mJ (mJ n 0 11 p) 0 12 q) 39 12 p) 39 13 q) := by
  obtain ⟨h1, h2, h3, h4, h5, h6, h7, h8, h9, h10, h11⟩ := h
  refine ⟨h1, h2, h3, h4, ⟨h5.1, ?_, ?_⟩, h6, h7, h8, h9, h10, h11⟩
  · simp [mJ2, va_up]
  · simp [mJ2, va_up]
/-- what is on and does not hold -/
def unm (o H : Nat) : Nat := o ^^^ (o &&& H)
theorem e_unm {o H : Nat} (ho : o < 2 ^ 31) (hH : H < 2 ^ 31) : nI o &&& (nI H ^^^ (-1)) = nI (unm o H) := by
  unfold unm
  apply b_ext
  intro j hj
  rw [b_and, b_xor, b_m1 j hj, bt_nI (by omega), bt_nI (by omega), bt_nI (Nat.lt_trans (Nat.xor_lt_two_pow ho (Nat.lt_of_le_of_lt Nat.and_le_left ho)) (by decide)), Nat.testBit_xor, Nat.testBit_and]
  cases o.testBit j <;> cases H.testBit j <;> rfl
theorem unm_lt {o H C : Nat} (ho : o < 2 ^ C) : unm o H < 2 ^ C := Nat.xor_lt_two_pow ho (Nat.lt_of_le_of_lt Nat.and_le_left ho)
theorem pc8 : ∀ w, w < 256 → pcN w 13 ≤ 8 := by decide +kernel
theorem pw12 {p i : Nat} (hp : p ≤ 12) (hi : i ≤ 8) : p ^ i < 2 ^ 30 := by
  have h1 : p ^ i ≤ 12 ^ i := Nat.pow_le_pow_left hp i
  have h2 : 12 ^ i ≤ 12 ^ 8 := Nat.pow_le_pow_right (by decide) hi
  have h3 : (12 : Nat) ^ 8 < 2 ^ 30 := by decide
  omega
set_option maxHeartbeats 1000000 in
theorem op_odds (N : Nat) (hN : 100 ≤ N) (a b : Int32) : Op (f_X3_odds N a b) (f_X4_odds N a b) := by
  intro n h
  obtain ⟨T, C, hc⟩ := Crt_of h
  obtain ⟨o, ho, eo, xo, hbd⟩ := On_of h hc
  obtain ⟨hT, hC, h0, eT, eC, xT, xC, hs, hcl, hg⟩ := id hc
  have h6 : 2 ^ T ≤ 2 ^ 6 := p2 hc.1
  have h8 := p8 hC
  have z12 : (12 : Int32).toInt = 12 := rfl
  have e4 : f_X4_in (Int32.toInt64 b) (0 : Int64) (12 : Int64) = some (bI (0 ≤ b.toInt ∧ b.toInt ≤ 12)) := by rw [e_inI]; rfl
  by_cases ha : 0 ≤ a.toInt ∧ a.toInt < (2 ^ T : Nat)
  · by_cases hb : 0 ≤ b.toInt ∧ b.toInt ≤ 12
    · obtain ⟨w, hw, rfl⟩ := i32_of ha.1 ha.2
      obtain ⟨p, hp, rfl⟩ := i32_of hb.1 (k := 13) (by omega)
      have hl := HN_lt n (bdM (n.1 40)) T C w
      have hu : unm o (HN n (bdM (n.1 40)) T C w) < 256 := Nat.lt_of_lt_of_le (unm_lt ho) h8
      have hq8 := pc8 _ hu
      generalize hqq : pcN (unm o (HN n (bdM (n.1 40)) T C w)) 13 = q at hq8
      have lp : ∀ i, lN (p ^ i) * Int32.toInt64 (nI p) = lN (p ^ (i + 1)) := fun i => by rw [nI_l (by omega), lN_mul, Nat.pow_succ]
      have l12 : ∀ i, lN (12 ^ i) * (12 : Int64) = lN (12 ^ (i + 1)) := fun i => by rw [show (12 : Int64) = lN 12 from rfl, lN_mul, Nat.pow_succ]
      have t1 := pw12 (show p ≤ 12 by omega) hq8
      have t2 := pw12 (show 12 ≤ 12 by omega) hq8
      have t3 : 0 < 12 ^ q := Nat.pow_pos (by decide)
      have hx : f_X3_odds N (nI w) (nI p) n = some (1, mJ (mJ n 0 11 (lN (p ^ q) / lN (Nat.gcd (p ^ q) (12 ^ q)))) 0 12 (lN (12 ^ q) / lN (Nat.gcd (p ^ q) (12 ^ q)))) := by
        rw [f_X3_odds, e_isWayX n hT xT, bI_t ha, Option.bind_some, if_neg (by decide), if_neg (nI_pos (by omega)), if_pos (by rw [i32_le, z12]; omega), e_heldBy20 N (by omega) n hc hw, HN_c hc hbd, Option.bind_some, xo, e_unm (by omega) (by omega), e_bitc (by omega), Option.bind_some, hqq]
        have key := eq_forG (rc := f_X3_odds_L61 N) (body := f_X3_odds_L61b N) (fun f i (s : Int64 × Int64) => f (nI p) (nI q) s.1 s.2 i n) (fun _ => rfl) 0 q (fun i => (lN (p ^ i), lN (12 ^ i))) (some (1, mJ (mJ n 0 11 (lN (p ^ q) / lN (Nat.gcd (p ^ q) (12 ^ q)))) 0 12 (lN (12 ^ q) / lN (Nat.gcd (p ^ q) (12 ^ q))))) ?_ ?_ N 0 (Nat.le_refl _) (Nat.zero_le _) (by omega)
        · exact key
        · intro f i _ hi
          unfold f_X3_odds_L61b
          rw [if_neg (by rw [nI_leI (by omega) (by omega)]; omega), lp, l12, nI_1]
        · intro f
          unfold f_X3_odds_L61b
          rw [if_pos (by rw [nI_leI (by omega) (by omega)]; omega), e_tellX N hN n (by omega) (by omega) t3]
          rfl
      have hm : ∀ m : xN, Crt m T C → m.1 40 = n.1 40 → (∀ z, HN m (bdM (m.1 40)) T C z = HN n (bdM (n.1 40)) T C z) → f_X4_odds N (nI w) (nI p) m = some (1, mJ (mJ m 39 12 (lN (p ^ q) / lN (Nat.gcd (p ^ q) (12 ^ q)))) 39 13 (lN (12 ^ q) / lN (Nat.gcd (p ^ q) (12 ^ q)))) := by
        intro m hc1 e40 hH
        rw [f_X4_odds, e_isWayM _ hT hc1.2.2.2.1, bI_t ha, Option.bind_some, if_neg (by decide), e4, bI_t hb, Option.bind_some, if_neg (by decide)]
        have key := eq_forG (rc := f_X4_odds_L30 N) (body := f_X4_odds_L30b N) (fun f i (s : Int64 × Int64) => f (nI w) (nI p) s.1 s.2 i m) (fun _ => rfl) 0 q (fun i => (lN (p ^ i), lN (12 ^ i))) (some (1, mJ (mJ m 39 12 (lN (p ^ q) / lN (Nat.gcd (p ^ q) (12 ^ q)))) 39 13 (lN (12 ^ q) / lN (Nat.gcd (p ^ q) (12 ^ q))))) ?_ ?_ N 0 (Nat.le_refl _) (Nat.zero_le _) (by omega)
        · exact key
        · intro f i _ hi
          unfold f_X4_odds_L30b
          rw [gdlT (by decide), gdl0, show Int32.toNatClampNeg 1 = 1 by decide, e_heldByM N (by omega) m hc1 (by omega), hH, Option.bind_some, e40, eo, e_unm (by omega) (by omega), e_bits N (by omega) (by omega), Option.bind_some, hqq, if_neg (by rw [nI_leI (by omega) (by omega)]; omega), lp, l12, nI_1]
        · intro f
          unfold f_X4_odds_L30b
          rw [gdlT (by decide), gdl0, show Int32.toNatClampNeg 1 = 1 by decide, e_heldByM N (by omega) m hc1 (by omega), hH, Option.bind_some, e40, eo, e_unm (by omega) (by omega), e_bits N (by omega) (by omega), Option.bind_some, hqq, if_pos (by rw [nI_leI (by omega) (by omega)]; omega), e_tellM N hN m (by omega) (by omega) t3]
          rfl
      exact Op_mk hx (hm _ (Crt_keep hc ⟨rfl, rfl⟩ rfl rfl rfl rfl rfl rfl rfl rfl rfl rfl) rfl (fun _ => rfl)) rfl (Inv_ch h _ _)
    · refine ⟨-1, n, n, ?_, ?_, h⟩
      · rw [f_X3_odds, e_isWayX n hT xT, bI_t ha, Option.bind_some, if_neg (by decide)]
        by_cases q : b < 0
        · rw [if_pos q]; rfl
        · rw [if_neg q, if_neg (by rw [i32_lt, z0] at q; rw [i32_le, z12]; omega)]; rfl
      · rw [f_X4_odds, e_isWayM _ hT eT, bI_t ha, Option.bind_some, if_neg (by decide), e4, bI_f hb, Option.bind_some, if_pos rfl]; rfl
  · refine ⟨-1, n, n, ?_, ?_, h⟩
    · rw [f_X3_odds, e_isWayX n hT xT, bI_f ha, Option.bind_some, if_pos rfl]; rfl
    · rw [f_X4_odds, e_isWayM _ hT eT, bI_f ha, Option.bind_some, if_pos rfl]; rfl
set_option maxHeartbeats 1000000 in
theorem op_luck (N : Nat) (hN : 100 ≤ N) : Op (f_X3_luck N) (f_X4_luck N) := by
  intro n h
  obtain ⟨T, C, hc⟩ := Crt_of h
  obtain ⟨o, ho, eo, xo, hbd⟩ := On_of h hc
  have h6 : 2 ^ T ≤ 2 ^ 6 := p2 hc.1
  have h8 := p8 hc.2.1
  obtain ⟨t1, t2⟩ := T0 hc
  by_cases hT : T = 0
  · refine ⟨-4, n, n, ?_, ?_, h⟩
    · rw [f_X3_luck, if_pos (t1.mpr hT)]
    · rw [f_X4_luck, if_pos (t2.mpr hT)]; rfl
  · have hcl := cnt_le (pG n T C o) (2 ^ T)
    have h20 : 0 < 2 ^ T := Nat.pow_pos (by decide)
    generalize hcc : cnt (pG n T C o) (2 ^ T) = c at hcl
    have hx : f_X3_luck N n = some (1, mJ (mJ n 0 11 (lN c / lN (Nat.gcd c (2 ^ T)))) 0 12 (lN (2 ^ T) / lN (Nat.gcd c (2 ^ T)))) := by
      rw [f_X3_luck, if_neg (fun q => hT (t1.mp q))]
      have key := eq_forG (rc := f_X3_luck_L17 N) (body := f_X3_luck_L17b N) (fun f i (s : Int32) => f s i n) (fun _ => rfl) 0 (2 ^ T) (fun i => nI (cnt (pG n T C o) i)) (some (1, mJ (mJ n 0 11 (lN c / lN (Nat.gcd c (2 ^ T)))) 0 12 (lN (2 ^ T) / lN (Nat.gcd c (2 ^ T))))) ?_ ?_ N 0 (Nat.le_refl _) (Nat.zero_le _) (by omega)
      · exact key
      · intro f i _ hi
        unfold f_X3_luck_L17b f_X3_luck_L39
        rw [e_waysX _ hc.1 hc.2.2.2.2.2.1, Option.bind_some, if_neg (by rw [nI_leI (by omega) (by omega)]; omega), e_goodX N (by omega) n hc hi xo (by omega), HN_c hc hbd, bI_pG, Option.bind_some, nI_1, cnt]
        by_cases q : pG n T C o i = true
        · rw [bI_t q, if_neg (by decide), if_pos q, nI_1]
        · rw [bI_f q, if_pos rfl, if_neg q]; rfl
      · intro f
        unfold f_X3_luck_L17b
        rw [e_waysX _ hc.1 hc.2.2.2.2.2.1, Option.bind_some, if_pos (by rw [nI_leI (by omega) (by omega)]; omega), Option.bind_some, hcc, nI_l (by omega), nI_l (by omega), e_tellX N hN n (by omega) (by omega) h20]
        rfl
    have hm : ∀ m : xN, Crt m T C → m.1 40 = n.1 40 → (∀ z, HN m (bdM (m.1 40)) T C z = HN n (bdM (n.1 40)) T C z) → f_X4_luck N m = some (1, mJ (mJ m 39 12 (lN c / lN (Nat.gcd c (2 ^ T)))) 39 13 (lN (2 ^ T) / lN (Nat.gcd c (2 ^ T)))) := by
      intro m hc1 e40 hH
      rw [f_X4_luck, if_neg (fun q => hT ((T0 hc1).2.mp q)), cnt_n N hN n m hc1 (o := o) (by rw [e40]; exact eo) (by omega) hH, hcc, Option.bind_some, e_waysM _ hc.1 hc1.2.2.2.1, Option.bind_some, nI_l (by omega), nI_l (by omega), e_tellM N hN m (by omega) (by omega) h20]
      rfl
    exact Op_mk hx (hm _ (Crt_keep hc ⟨rfl, rfl⟩ rfl rfl rfl rfl rfl rfl rfl rfl rfl rfl) rfl (fun _ => rfl)) rfl (Inv_ch h _ _)
