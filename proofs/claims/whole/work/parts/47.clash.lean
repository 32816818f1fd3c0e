/-! ===== promises 30 to 32: two, least, relent ===== -/
theorem eq_forE {ρ σ O : Type} {rc : Nat → ρ} {body : ρ → ρ} (app : ρ → Int32 → σ → Option O) (hrec : ∀ n, rc (n + 1) = body (rc n)) (W : Nat) (S : Nat → σ) (o : Option O)
    (hstep : ∀ (k : ρ) (i : Nat), i < W → app (body k) (nI (i + 1)) (S (i + 1)) = app k (nI i) (S i)) (hexit : ∀ (k : ρ), app (body k) (nI 0) (S 0) = o) :
    ∀ (n i : Nat), i ≤ W → i < n → app (rc n) (nI i) (S i) = o := by
  intro n
  induction n with
  | zero => intro i _ h; exact absurd h (by omega)
  | succ n ih =>
    intro i hi hn
    rw [hrec]
    cases i with
    | zero => exact hexit _
    | succ i =>
      rw [hstep _ i (by omega)]
      exact ih i (by omega) (by omega)
def fA (p : Nat → Bool) : Nat → Int32
  | 0 => -9
  | i + 1 => if p i = true ∧ cnt p i = 0 then nI i else fA p i
theorem fA_0 (p : Nat → Bool) : ∀ i, cnt p i = 0 → fA p i = -9 := by
  intro i
  induction i with
  | zero => intro _; rfl
  | succ i ih =>
    intro h
    rw [cnt] at h
    have h1 : ¬ p i = true := fun q => by rw [if_pos q] at h; omega
    rw [if_neg h1] at h
    rw [fA, if_neg (fun z => h1 z.1), ih h]
theorem fA_D (p : Nat → Bool) (W : Nat) : fA p W = fstD p W W := by
  have key : ∀ i, i ≤ W → fstD p W W = if cnt p i = 0 then fstD p W (W - i) else fA p i := by
    intro i
    induction i with
    | zero => intro _; rfl
    | succ i ih =>
      intro hi
      rw [ih (by omega)]
      by_cases h : cnt p i = 0
      · rw [if_pos h, fst_step p (show i < W by omega), cnt, fA]
        by_cases q : p i = true
        · rw [if_pos q, if_pos q, if_neg (by omega), if_pos ⟨q, h⟩]
        · rw [if_neg q, if_neg q, if_pos (by omega)]
      · rw [if_neg h, cnt, fA, if_neg (by omega), if_neg (fun z => h z.2)]
  rw [key W (Nat.le_refl _)]
  by_cases h : cnt p W = 0
  · rw [if_pos h, fA_0 p W h, Nat.sub_self]; rfl
  · rw [if_neg h]
theorem pc_lt : ∀ s, s < 256 → pcN s 13 < 9 := by decide +kernel
set_option maxHeartbeats 1000000 in
theorem op_two (N : Nat) (hN : 300 ≤ N) : Op (f_X3_two N) (f_X4_two N) := by
  intro n h
  obtain ⟨T, C, hc⟩ := Crt_of h
  obtain ⟨o, ho, eo, xo, hbd⟩ := On_of h hc
  have h6 : 2 ^ T ≤ 2 ^ 6 := p2 hc.1
  have h8 := p8 hc.2.1
  have h1 : 0 < 2 ^ C := Nat.pow_pos (by decide)
  obtain ⟨t1, t2⟩ := T0 hc
  by_cases hT : T = 0
  · refine ⟨-4, n, n, ?_, ?_, h⟩
    · rw [f_X3_two, if_pos (t1.mpr hT)]
    · rw [f_X4_two, if_pos (t2.mpr hT)]
  · have hcm : Crt (mskF n T C (2 ^ T)) T C := Crt_m hc
    generalize hp : (fun s => decide (s ≠ 0) && (decide (pcN s 13 ≤ 2) && clN n T C s)) = p
    have p0 : p 0 = false := by rw [← hp]; rfl
    have pS : ∀ s, 0 < s → p s = (decide (pcN s 13 ≤ 2) && clN n T C s) := by
      intro s hs
      rw [← hp]
      have : s ≠ 0 := by omega
      simp [this]
    have hx : f_X3_two N n = some (fstD p (2 ^ C) (2 ^ C), mI (mskF n T C (2 ^ T)) 0 10 (nI (cnt p (2 ^ C)))) := by
      rw [f_X3_two, if_neg (fun q => hT (t1.mp q)), e_judge N (by omega) n hc, Option.bind_some, e_setsX _ hc.2.1 hcm.2.2.2.2.2.2.1, Option.bind_some]
      have es : nI (2 ^ C) - 1 = nI (2 ^ C - 1) := by rw [show (1 : Int32) = nI 1 from rfl, pk_sub (by omega)]
      rw [es]
      have key := eq_forE (rc := f_X3_two_L39 N) (body := f_X3_two_L39b N) (fun f i (s : Int32 × Int32) => f s.1 s.2 i (mskF n T C (2 ^ T))) (fun _ => rfl) (2 ^ C - 1) (fun i => (fstD p (2 ^ C) (2 ^ C - 1 - i), nI (cnt p (2 ^ C) - cnt p (i + 1)))) (some (fstD p (2 ^ C) (2 ^ C), mI (mskF n T C (2 ^ T)) 0 10 (nI (cnt p (2 ^ C))))) ?_ ?_ N (2 ^ C - 1) (Nat.le_refl _) (by omega)
      · rw [Nat.sub_self, show 2 ^ C - 1 + 1 = 2 ^ C by omega, Nat.sub_self] at key; exact key
      · intro f i hi
        unfold f_X3_two_L39b f_X3_two_L64
        have hm := cnt_mono p (show i + 1 + 1 ≤ 2 ^ C by omega)
        rw [cnt] at hm
        have ef := fst_step p (show i + 1 < 2 ^ C by omega)
        rw [show 2 ^ C - (i + 1) = 2 ^ C - 1 - i by omega, show 2 ^ C - (i + 1 + 1) = 2 ^ C - 1 - (i + 1) by omega] at ef
        have ec : cnt p (i + 1 + 1) = cnt p (i + 1) + (if p (i + 1) = true then 1 else 0) := rfl
        try dsimp only
        rw [show nI (i + 1) + (-1 : Int32) = nI i from pk_m1 i, if_neg (by rw [show (0 : Int32) = nI 0 from rfl, nI_leI (by omega) (by omega)]; omega), e_bitc (by omega), Option.bind_some, e_isClash N (by omega) n hc hbd (by omega), Option.bind_some, ef, ec, pS (i + 1) (by omega)]
        rw [pS (i + 1) (by omega)] at hm
        by_cases q : pcN (i + 1) 13 ≤ 2
        · rw [if_neg (by rw [show (2 : Int32) = nI 2 from rfl, nI_ltI (by omega) (by have := pcN_le (i + 1) 13; omega)]; omega)]
          cases hcl : clN n T C (i + 1)
          · simp [bI, q]
          · simp only [hcl, q, decide_true, Bool.and_self, reduceIte] at hm
            simp [bI, q, nI_1]
            congr 2; omega
        · rw [if_pos (by rw [show (2 : Int32) = nI 2 from rfl, nI_ltI (by omega) (by have := pcN_le (i + 1) 13; omega)]; omega)]
          simp [q]
      · intro f
        unfold f_X3_two_L39b
        have c1 : cnt p 1 = 0 := by rw [cnt, p0]; rfl
        have ef := fst_step p (show 0 < 2 ^ C from h1)
        rw [p0, if_neg (by decide)] at ef
        rw [if_pos (by decide)]
        show some (fstD p (2 ^ C) (2 ^ C - 1 - 0), mI (mskF n T C (2 ^ T)) 0 10 (nI (cnt p (2 ^ C) - cnt p (0 + 1)))) = _
        rw [show cnt p (0 + 1) = 0 from c1, Nat.sub_zero, Nat.sub_zero, show fstD p (2 ^ C) (2 ^ C - 1) = fstD p (2 ^ C) (2 ^ C) from ef.symm]
    have hm : ∀ m : xN, Crt m T C → (∀ z, HN m (bdM (m.1 40)) T C z = HN n (bdM (n.1 40)) T C z) → f_X4_two N m = some (fA p (2 ^ C), mI m 39 11 (nI (cnt p (2 ^ C)))) := by
      intro m hc1 hH
      rw [f_X4_two, if_neg (fun q => hT ((T0 hc1).2.mp q))]
      have key := eq_forG (rc := f_X4_two_L17 N) (body := f_X4_two_L17b N) (fun f i (s : Int32 × Int32) => f s.1 s.2 i m) (fun _ => rfl) 1 (2 ^ C) (fun i => (nI (cnt p i), fA p i)) (some (fA p (2 ^ C), mI m 39 11 (nI (cnt p (2 ^ C))))) ?_ ?_ N 1 (Nat.le_refl _) h1 (by omega)
      · have c1 : cnt p 1 = 0 := by rw [cnt, p0]; rfl
        rw [c1, show fA p 1 = -9 by rw [fA, p0, if_neg (by simp)]; rfl] at key
        exact key
      · intro f i hl hi
        unfold f_X4_two_L17b f_X4_two_L47 f_X4_two_L48 f_X4_two_L63 f_X4_two_L64 f_X4_two_L76
        try dsimp only
        have hcl := cnt_le p i
        rw [hc1.2.2.2.2.1, sh1 (by have := hc.2.1; omega), if_neg (by rw [nI_leI (by omega) (by omega)]; omega), e_bits N (by omega) (by omega), Option.bind_some, e_clashes N (by omega) n m hc1 (by omega) hH, Option.bind_some, nI_1, cnt, fA, pS i (by omega)]
        have hz : (nI (cnt p i) = 0) ↔ cnt p i = 0 := by rw [show (0 : Int32) = nI 0 from rfl, nI_eq (by omega) (by omega)]
        by_cases q : pcN i 13 ≤ 2
        · rw [if_neg (by rw [show (3 : Int32) = nI 3 from rfl, nI_leI (by omega) (by have := pcN_le i 13; omega)]; omega)]
          cases hcl2 : clN n T C i
          · simp [bI, q]
          · by_cases r : cnt p i = 0
            · simp [bI, q, r, show nI 0 = (0 : Int32) from rfl]; rfl
            · simp [bI, q, r, hz, nI_1]
        · rw [if_pos (by rw [show (3 : Int32) = nI 3 from rfl, nI_leI (by omega) (by have := pcN_le i 13; omega)]; omega)]
          simp [q]
      · intro f
        unfold f_X4_two_L17b
        rw [hc1.2.2.2.2.1, sh1 (by have := hc.2.1; omega), if_pos (by rw [nI_leI (by omega) (by omega)]; omega)]
    exact Op_mk hx (hm _ (Crt_x10 hcm _) (fun _ => rfl)) (fA_D p (2 ^ C)) (Inv_told (Inv_m T C _ h) _)
set_option maxHeartbeats 1000000 in
theorem op_least (N : Nat) (hN : 300 ≤ N) : Op (f_X3_least N) (f_X4_least N) := by
  intro n h
  obtain ⟨T, C, hc⟩ := Crt_of h
  obtain ⟨o, ho, eo, xo, hbd⟩ := On_of h hc
  have h6 : 2 ^ T ≤ 2 ^ 6 := p2 hc.1
  have h8 := p8 hc.2.1
  have h1 : 0 < 2 ^ C := Nat.pow_pos (by decide)
  obtain ⟨t1, t2⟩ := T0 hc
  by_cases hT : T = 0
  · refine ⟨-4, n, n, ?_, ?_, h⟩
    · rw [f_X3_least, if_pos (t1.mpr hT)]
    · rw [f_X4_least, if_pos (t2.mpr hT)]
  · have hcm : Crt (mskF n T C (2 ^ T)) T C := Crt_m hc
    generalize hp : (fun s => decide (s ≠ 0) && clN n T C s) = p
    have p0 : p 0 = false := by rw [← hp]; rfl
    have pS : ∀ s, 0 < s → p s = clN n T C s := by
      intro s hs
      rw [← hp]
      have : s ≠ 0 := by omega
      simp [this]
    have hbx := bXM (fun s => nI (pcN s 13)) p 9 (W := 2 ^ C) (by omega) (fun w hw => by
      have := pc_lt w (by omega)
      rw [show (9 : Int32) = nI 9 from rfl, nI_ltI (by omega) (by omega)]; exact this)
    have hx : f_X3_least N n = (if (bX (fun s => nI (pcN s 13)) p 9 (2 ^ C)).1 = -9 then some (-9, mskF n T C (2 ^ T)) else some ((bX (fun s => nI (pcN s 13)) p 9 (2 ^ C)).2, mI (mskF n T C (2 ^ T)) 0 10 (bX (fun s => nI (pcN s 13)) p 9 (2 ^ C)).1)) := by
      rw [f_X3_least, if_neg (fun q => hT (t1.mp q)), e_judge N (by omega) n hc, Option.bind_some]
      have key := eq_forG (rc := f_X3_least_L32 N) (body := f_X3_least_L32b N) (fun f i (s : Int32 × Int32) => f s.2 s.1 i (mskF n T C (2 ^ T))) (fun _ => rfl) 1 (2 ^ C) (fun i => bX (fun s => nI (pcN s 13)) p 9 i) (if (bX (fun s => nI (pcN s 13)) p 9 (2 ^ C)).1 = -9 then some (-9, mskF n T C (2 ^ T)) else some ((bX (fun s => nI (pcN s 13)) p 9 (2 ^ C)).2, mI (mskF n T C (2 ^ T)) 0 10 (bX (fun s => nI (pcN s 13)) p 9 (2 ^ C)).1)) ?_ ?_ N 1 (Nat.le_refl _) h1 (by omega)
      · rw [show bX (fun s => nI (pcN s 13)) p 9 1 = (-9, 9) by rw [bX, p0, if_neg (by simp)]; rfl] at key
        exact key
      · intro f i hl hi
        unfold f_X3_least_L32b f_X3_least_L68
        try dsimp only
        rw [e_setsX _ hc.2.1 hcm.2.2.2.2.2.2.1, Option.bind_some, if_neg (by rw [nI_leI (by omega) (by omega)]; omega), e_bitc (by omega), Option.bind_some, e_isClash N (by omega) n hc hbd (by omega), Option.bind_some, nI_1, bX, pS i (by omega)]
        by_cases q : nI (pcN i 13) < (bX (fun s => nI (pcN s 13)) p 9 i).2
        · rw [if_neg ((nle_lt _ _).mpr q)]
          cases clN n T C i
          · simp [bI]
          · simp [bI, q]
        · rw [if_pos ((nlt_le _ _).mp q), if_neg (fun z => q z.1)]
      · intro f
        unfold f_X3_least_L32b
        rw [e_setsX _ hc.2.1 hcm.2.2.2.2.2.2.1, Option.bind_some, if_pos (by rw [nI_leI (by omega) (by omega)]; omega)]
    have hm : ∀ m : xN, Crt m T C → (∀ z, HN m (bdM (m.1 40)) T C z = HN n (bdM (n.1 40)) T C z) → f_X4_least N m = (if (bM (fun s => nI (pcN s 13)) p (2 ^ C)).1 = -9 then some (-9, mI m 39 11 (m.1 39 11)) else Option.bind (f_X4_bits N (bM (fun s => nI (pcN s 13)) p (2 ^ C)).1) (fun r => some (r, mI m 39 11 (bM (fun s => nI (pcN s 13)) p (2 ^ C)).1))) := by
      intro m hc1 hH
      rw [f_X4_least, if_neg (fun q => hT ((T0 hc1).2.mp q))]
      have key := eq_forG (rc := f_X4_least_L15 N) (body := f_X4_least_L15b N) (fun f i (s : Int32) => f s i m) (fun _ => rfl) 1 (2 ^ C) (fun i => (bM (fun s => nI (pcN s 13)) p i).1) (if (bM (fun s => nI (pcN s 13)) p (2 ^ C)).1 = -9 then some (-9, mI m 39 11 (m.1 39 11)) else Option.bind (f_X4_bits N (bM (fun s => nI (pcN s 13)) p (2 ^ C)).1) (fun r => some (r, mI m 39 11 (bM (fun s => nI (pcN s 13)) p (2 ^ C)).1))) ?_ ?_ N 1 (Nat.le_refl _) h1 (by omega)
      · rw [show (bM (fun s => nI (pcN s 13)) p 1).1 = -9 by rw [bM, p0, if_neg (by simp)]; rfl] at key
        exact key
      · intro f i hl hi
        unfold f_X4_least_L15b f_X4_least_L42 f_X4_least_L47 f_X4_least_L64 f_X4_least_L65
        try dsimp only
        obtain ⟨-, hor⟩ := hbx i (by omega)
        rw [hc1.2.2.2.2.1, sh1 (by have := hc.2.1; omega), if_neg (by rw [nI_leI (by omega) (by omega)]; omega), e_bits N (by omega) (by omega), Option.bind_some, e_clashes N (by omega) n m hc1 (by omega) hH, Option.bind_some, nI_1, bM, pS i (by omega)]
        rcases hor with ⟨-, a2⟩ | ⟨w, hw, pw, -, a2⟩
        · rw [a2, if_pos rfl, if_neg (by decide)]
          cases clN n T C i
          · simp [bI, a2]
          · simp [bI]
        · rw [a2, if_neg (nI_n9 (by omega)), e_bits N (by omega) (by omega), Option.bind_some]
          have hn := nI_n9 (show w < 2 ^ 31 by omega)
          by_cases q : nI (pcN w 13) ≤ nI (pcN i 13)
          · have q2 : ¬ nI (pcN i 13) < nI (pcN w 13) := (nlt_le _ _).mpr q
            rw [if_pos q, if_pos rfl]
            simp [hn, q2]
          · have q2 : nI (pcN i 13) < nI (pcN w 13) := (nle_lt _ _).mp q
            rw [if_neg q, if_neg (by decide)]
            cases clN n T C i
            · simp [bI]
            · simp [bI, q2]
      · intro f
        unfold f_X4_least_L15b f_X4_least_L87 f_X4_least_L105
        rw [hc1.2.2.2.2.1, sh1 (by have := hc.2.1; omega), if_pos (by rw [nI_leI (by omega) (by omega)]; omega)]
        by_cases q : (bM (fun s => nI (pcN s 13)) p (2 ^ C)).1 = -9
        · rw [if_pos q, if_pos q, if_pos q]
        · rw [if_neg q, if_neg q, if_neg q]
    obtain ⟨-, hor⟩ := hbx (2 ^ C) (Nat.le_refl _)
    rcases hor with ⟨a1, a2⟩ | ⟨w, hw, pw, a1, a2⟩
    · rw [a1, if_pos rfl] at hx
      have hm1 := hm _ hcm (fun _ => rfl)
      rw [a2, if_pos rfl] at hm1
      exact Op_mk hx hm1 rfl (told_same (Inv_m T C _ h))
    · have hn := nI_n9 (show w < 2 ^ 31 by omega)
      rw [a1, if_neg hn] at hx
      have hm1 := hm _ (Crt_x10 hcm (nI w)) (fun _ => rfl)
      rw [a2, if_neg hn, e_bits N (by omega) (by omega), Option.bind_some] at hm1
      exact Op_mk hx hm1 rfl (Inv_told (Inv_m T C _ h) _)
