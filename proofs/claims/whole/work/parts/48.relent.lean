/-! ===== promise 32: relent; the order of sets: fewest, then least ===== -/
def ky (s : Nat) : Nat := pcN s 13 * 8192 + s
theorem ky_inj {a b : Nat} (ha : a < 8192) (hb : b < 8192) (h : ky a = ky b) : a = b := by
  unfold ky at h
  have h1 : (pcN a 13 * 8192 + a) % 8192 = (pcN b 13 * 8192 + b) % 8192 := by rw [h]
  omega
theorem ky_lt {a b : Nat} (ha : a < 8192) (hb : b < 8192) : ky a < ky b ↔ (pcN a 13 < pcN b 13 ∨ (pcN a 13 = pcN b 13 ∧ a < b)) := by
  unfold ky
  constructor
  · intro h; omega
  · intro h; omega
theorem e_smaller {a b : Nat} (ha : a < 8192) (hb : b < 8192) : f_X3_smallerSet (nI a) (nI b) = some (nI (if ky a ≤ ky b then a else b)) := by
  have p1 := pcN_le a 13
  have p2 := pcN_le b 13
  unfold f_X3_smallerSet f_X3_smallerSet_L25 f_J6_compare_7cf53 f_J6_compare_7cf53_L19
  rw [e_bitc ha, Option.bind_some, e_bitc hb, Option.bind_some]
  have k1 := ky_lt ha hb
  have k2 := ky_lt hb ha
  by_cases h1 : pcN b 13 ≤ pcN a 13
  · rw [if_pos ((nI_leI (by omega) (by omega)).mpr h1)]
    by_cases h2 : pcN a 13 = pcN b 13
    · rw [if_pos (by rw [h2]), Option.bind_some, if_pos rfl]
      by_cases h3 : b < a
      · rw [if_pos ((nI_ltI (by omega) (by omega)).mpr h3), if_neg (by omega)]
      · rw [if_neg (fun z => h3 ((nI_ltI (by omega) (by omega)).mp z))]
        by_cases h4 : a = b
        · subst h4; rw [if_pos (Nat.le_refl _)]
        · rw [if_pos (by omega)]
    · rw [if_neg (fun z => h2 ((nI_eq (by omega) (by omega)).mp z)), Option.bind_some, if_neg (by decide), if_pos (by decide), if_neg (by omega)]
  · rw [if_neg (fun z => h1 ((nI_leI (by omega) (by omega)).mp z)), Option.bind_some, if_neg (by decide), if_neg (by decide), if_pos (by omega)]
theorem div_tb (s k : Nat) : s / 2 ^ k % 2 = if s.testBit k = true then 1 else 0 := by
  by_cases h : s.testBit k = true
  · rw [if_pos h]; exact (tb_div s k).mp h
  · rw [if_neg h]
    have : ¬ s / 2 ^ k % 2 = 1 := fun q => h ((tb_div s k).mpr q)
    omega
theorem pc_sub {a b : Nat} (h : ∀ k, a.testBit k = true → b.testBit k = true) : ∀ k, pcN a k ≤ pcN b k := by
  intro k
  induction k with
  | zero => exact Nat.le_refl _
  | succ k ih =>
    rw [pcN, pcN, div_tb, div_tb]
    by_cases q : a.testBit k = true
    · rw [if_pos q, if_pos (h k q)]; omega
    · rw [if_neg q]; split <;> omega
theorem le_sub {a b : Nat} (h : ∀ k, a.testBit k = true → b.testBit k = true) : a ≤ b := by
  have : a &&& b = a := by
    apply Nat.eq_of_testBit_eq
    intro k
    rw [Nat.testBit_and]
    cases q : a.testBit k
    · rfl
    · rw [h k q]; rfl
  rw [← this]
  exact Nat.and_le_right
theorem ky_sub {a b : Nat} (h : ∀ k, a.testBit k = true → b.testBit k = true) : ky a ≤ ky b := by
  have h1 := pc_sub h 13
  have h2 := le_sub h
  unfold ky
  omega
def mX (o : Nat) (u : Nat → Nat) : Nat → Nat
  | 0 => o
  | i + 1 => if ky (mX o u i) ≤ ky (u i) then mX o u i else u i
def mM (o : Nat) (q : Nat → Bool) : Nat → Nat
  | 0 => o
  | j + 1 => if ky j < ky (mM o q j) ∧ q j = true then j else mM o q j
theorem mX_in (o : Nat) (u : Nat → Nat) : ∀ i, (mX o u i = o ∨ ∃ w, w < i ∧ mX o u i = u w) ∧ ky (mX o u i) ≤ ky o ∧ ∀ w, w < i → ky (mX o u i) ≤ ky (u w) := by
  intro i
  induction i with
  | zero => exact ⟨Or.inl rfl, Nat.le_refl _, fun w h => absurd h (by omega)⟩
  | succ i ih =>
    obtain ⟨a, b, c⟩ := ih
    rw [mX]
    by_cases q : ky (mX o u i) ≤ ky (u i)
    · rw [if_pos q]
      refine ⟨a.elim Or.inl (fun ⟨w, hw, e⟩ => Or.inr ⟨w, by omega, e⟩), b, fun w hw => ?_⟩
      by_cases e : w = i
      · rw [e]; exact q
      · exact c w (by omega)
    · rw [if_neg q]
      refine ⟨Or.inr ⟨i, by omega, rfl⟩, by omega, fun w hw => ?_⟩
      by_cases e : w = i
      · rw [e]; exact Nat.le_refl _
      · have := c w (by omega); omega
theorem mM_in (o : Nat) (q : Nat → Bool) : ∀ i, (mM o q i = o ∨ ∃ w, w < i ∧ q w = true ∧ mM o q i = w) ∧ ky (mM o q i) ≤ ky o ∧ ∀ w, w < i → q w = true → ky (mM o q i) ≤ ky w := by
  intro i
  induction i with
  | zero => exact ⟨Or.inl rfl, Nat.le_refl _, fun w h => absurd h (by omega)⟩
  | succ i ih =>
    obtain ⟨a, b, c⟩ := ih
    rw [mM]
    by_cases r : ky i < ky (mM o q i) ∧ q i = true
    · rw [if_pos r]
      refine ⟨Or.inr ⟨i, by omega, r.2, rfl⟩, by omega, fun w hw hq => ?_⟩
      by_cases e : w = i
      · rw [e]; exact Nat.le_refl _
      · have := c w (by omega) hq; omega
    · rw [if_neg r]
      refine ⟨a.elim Or.inl (fun ⟨w, hw, hq, e⟩ => Or.inr ⟨w, by omega, hq, e⟩), b, fun w hw hq => ?_⟩
      by_cases e : w = i
      · subst e
        have : ¬ ky w < ky (mM o q w) := fun z => r ⟨z, hq⟩
        omega
      · exact c w (by omega) hq
/-- the two ways to the fewest come to the same -/
theorem mX_mM {o W V : Nat} {u : Nat → Nat} {q : Nat → Bool} (ho : o < 8192) (hu : ∀ w, w < W → u w < V) (hV : V ≤ 8192) (h1 : ∀ w, w < W → q (u w) = true) (h2 : ∀ s, s < V → q s = true → ∃ w, w < W ∧ ky (u w) ≤ ky s) : mX o u W = mM o q V := by
  obtain ⟨a1, a2, a3⟩ := mX_in o u W
  obtain ⟨b1, b2, b3⟩ := mM_in o q V
  have la : mX o u W < 8192 := by
    rcases a1 with e | ⟨w, hw, e⟩
    · rw [e]; exact ho
    · rw [e]; have := hu w hw; omega
  have lb : mM o q V < 8192 := by
    rcases b1 with e | ⟨w, hw, _, e⟩
    · rw [e]; exact ho
    · rw [e]; omega
  refine ky_inj la lb (Nat.le_antisymm ?_ ?_)
  · rcases b1 with e | ⟨s, hs, hq, e⟩
    · rw [e]; exact a2
    · obtain ⟨w, hw, hk⟩ := h2 s hs hq
      rw [e]
      exact Nat.le_trans (a3 w hw) hk
  · rcases a1 with e | ⟨w, hw, e⟩
    · rw [e]; exact b2
    · rw [e]; exact b3 _ (hu w hw) (h1 w hw)
theorem unm_tb (o H j : Nat) : (unm o H).testBit j = (o.testBit j && !H.testBit j) := by
  unfold unm
  rw [Nat.testBit_xor, Nat.testBit_and]
  cases o.testBit j <;> cases H.testBit j <;> rfl
theorem and_sub {a b : Nat} : a &&& b = b ↔ ∀ k, b.testBit k = true → a.testBit k = true := by
  constructor
  · intro h k hk
    have := congrArg (fun z => z.testBit k) h
    simp only [Nat.testBit_and, hk, Bool.and_true] at this
    exact this
  · intro h
    apply Nat.eq_of_testBit_eq
    intro k
    rw [Nat.testBit_and]
    cases q : b.testBit k
    · simp
    · simp [h k q]
set_option maxHeartbeats 2000000 in
theorem op_relent (N : Nat) (hN : 300 ≤ N) : Op (f_X3_relent N) (f_X4_relent N) := by
  intro n h
  obtain ⟨T, C, hc⟩ := Crt_of h
  obtain ⟨o, ho, eo, xo, hbd⟩ := On_of h hc
  have h6 : 2 ^ T ≤ 2 ^ 6 := p2 hc.1
  have h8 := p8 hc.2.1
  have h1 : 0 < 2 ^ C := Nat.pow_pos (by decide)
  obtain ⟨t1, t2⟩ := T0 hc
  by_cases hT : T = 0
  · refine ⟨-4, n, n, ?_, ?_, h⟩
    · rw [f_X3_relent, if_pos (t1.mpr hT)]
    · rw [f_X4_relent, if_pos (t2.mpr hT)]
  · have hcm : Crt (mskF n T C (2 ^ T)) T C := Crt_m hc
    have xo' : (mskF n T C (2 ^ T)).1 19 1 = nI o := by rw [mskF1 (by decide), xo]
    generalize hu : (fun w => unm o (HN n (bdM (n.1 40)) T C w)) = u
    have ulC : ∀ w, u w < 2 ^ C := fun w => by rw [← hu]; exact unm_lt ho
    have mXl : ∀ i, mX o u i < 2 ^ C := by
      intro i
      rcases (mX_in o u i).1 with e | ⟨w, hw, e⟩
      · rw [e]; exact ho
      · rw [e]; exact ulC w
    have hx : f_X3_relent N n = some (nI (pcN (mX o u (2 ^ T)) 13), mI (mskF n T C (2 ^ T)) 0 10 (nI (mX o u (2 ^ T)))) := by
      rw [f_X3_relent, if_neg (fun q => hT (t1.mp q)), e_judge N (by omega) n hc, Option.bind_some, xo']
      have key := eq_forG (rc := f_X3_relent_L34 N) (body := f_X3_relent_L34b N) (fun f i (s : Int32) => f s i (mskF n T C (2 ^ T))) (fun _ => rfl) 0 (2 ^ T) (fun i => nI (mX o u i)) (some (nI (pcN (mX o u (2 ^ T)) 13), mI (mskF n T C (2 ^ T)) 0 10 (nI (mX o u (2 ^ T))))) ?_ ?_ N 0 (Nat.le_refl _) (Nat.zero_le _) (by omega)
      · exact key
      · intro f i _ hi
        unfold f_X3_relent_L34b
        have hl := HN_lt n (bdM (n.1 40)) T C i
        have := mXl i
        have e1 : unm o (HN n (bdM (n.1 40)) T C i) = u i := by rw [← hu]
        have := ulC i
        rw [e_waysX _ hc.1 hcm.2.2.2.2.2.1, Option.bind_some, if_neg (by rw [nI_leI (by omega) (by omega)]; omega), gdl_nI (by omega) (by omega), gdl0, nI_clamp (by omega), xo', mskF36 hi, HN_c hc hbd, e_unm (by omega) (by omega), e1, e_smaller (by omega) (by omega), Option.bind_some, nI_1, mX]
      · intro f
        unfold f_X3_relent_L34b
        have := mXl (2 ^ T)
        rw [e_waysX _ hc.1 hcm.2.2.2.2.2.1, Option.bind_some, if_pos (by rw [nI_leI (by omega) (by omega)]; omega), e_bitc (by omega), Option.bind_some]
    generalize hq : (fun s => decide (o &&& s = s) && !clN n T C (unm o s)) = q
    have mMl : ∀ i, i ≤ 2 ^ C → mM o q i < 2 ^ C := by
      intro i hi
      rcases (mM_in o q i).1 with e | ⟨w, hw, _, e⟩
      · rw [e]; exact ho
      · rw [e]; omega
    have hm : ∀ m : xN, Crt m T C → m.1 40 = n.1 40 → (∀ z, HN m (bdM (m.1 40)) T C z = HN n (bdM (n.1 40)) T C z) → f_X4_relent N m = some (nI (pcN (mM o q (2 ^ C)) 13), mI m 39 11 (nI (mM o q (2 ^ C)))) := by
      intro m hc1 e40 hH
      have eo1 : m.1 40 1 = nI o := by rw [e40]; exact eo
      have tn1 : Int32.toNatClampNeg 1 = 1 := by decide
      have g1 : ∀ (x : Option (Int32 × xN)), gdl [inb (1 : Int32) 1480] x = x := fun x => gdlT (by decide)
      rw [f_X4_relent, if_neg (fun z => hT ((T0 hc1).2.mp z)), g1, tn1, eo1]
      have key := eq_forG (rc := f_X4_relent_L19 N) (body := f_X4_relent_L19b N) (fun f i (s : Int32) => f s i m) (fun _ => rfl) 0 (2 ^ C) (fun i => nI (mM o q i)) (some (nI (pcN (mM o q (2 ^ C)) 13), mI m 39 11 (nI (mM o q (2 ^ C))))) ?_ ?_ N 0 (Nat.le_refl _) (Nat.zero_le _) (by omega)
      · exact key
      · intro f i _ hi
        have hl := mMl i (by omega)
        have hul := unm_lt (H := i) ho
        have p1 := pcN_le i 13
        have p2 := pcN_le (mM o q i) 13
        have k1 := ky_lt (show i < 8192 by omega) (show mM o q i < 8192 by omega)
        have L61 : ∀ t, t = (1 : Int32) ∨ t = 0 → f_X4_relent_L61 N f (nI (mM o q i)) (nI i) t m = if t = 1 ∧ q i = true then f (nI i) (nI (i + 1)) m else f (nI (mM o q i)) (nI (i + 1)) m := by
          intro t ht
          unfold f_X4_relent_L61 f_X4_relent_L100 f_X4_relent_L101
          rcases ht with rfl | rfl
          · have e1 : (nI i &&& (nI o ^^^ (-1)) = 0) ↔ o &&& i = i := met_M (by omega) (by omega)
            have hqi : q i = (decide (o &&& i = i) && !clN n T C (unm o i)) := by rw [← hq]
            have eu : nI o &&& (nI i ^^^ (-1)) = nI (unm o i) := e_unm (by omega) (by omega)
            rw [if_neg (by decide), g1, g1, tn1, eo1, eu, e_clashes N (by omega) n m hc1 (by omega) hH, Option.bind_some, nI_1, hqi]
            by_cases r : o &&& i = i
            · rw [if_pos (e1.mpr r)]
              cases clN n T C (unm o i) <;> simp [bI, r]
            · rw [if_neg (fun z => r (e1.mp z))]
              simp [r]
          · rw [if_pos rfl, nI_1]; simp
        show f_X4_relent_L19b N f (nI (mM o q i)) (nI i) m = f (nI (mM o q (i + 1))) (nI (i + 1)) m
        unfold f_X4_relent_L19b f_X4_relent_L56 f_X4_relent_L60
        rw [hc1.2.2.2.2.1, sh1 (by have := hc.2.1; omega), if_neg (by rw [nI_leI (by omega) (by omega)]; omega), e_bits N (by omega) (by omega), Option.bind_some, e_bits N (by omega) (show mM o q i < 2 ^ 31 by omega), Option.bind_some, Option.bind_some, Option.bind_some, L61 1 (Or.inl rfl), L61 0 (Or.inr rfl), mM]
        by_cases a : pcN i 13 < pcN (mM o q i) 13
        · rw [if_pos ((nI_ltI (by omega) (by omega)).mpr a)]
          have : ky i < ky (mM o q i) := k1.mpr (Or.inl a)
          by_cases r : q i = true <;> simp [this, r]
        · rw [if_neg (fun z => a ((nI_ltI (by omega) (by omega)).mp z))]
          by_cases b : pcN i 13 = pcN (mM o q i) 13
          · rw [if_pos (by rw [b])]
            by_cases c : mM o q i ≤ i
            · rw [if_pos ((nI_leI (by omega) (by omega)).mpr c)]
              have : ¬ ky i < ky (mM o q i) := fun z => by rcases k1.mp z with y | y <;> omega
              simp [this]
            · rw [if_neg (fun z => c ((nI_leI (by omega) (by omega)).mp z))]
              have : ky i < ky (mM o q i) := k1.mpr (Or.inr ⟨b, by omega⟩)
              by_cases r : q i = true <;> simp [this, r]
          · rw [if_neg (fun z => b ((nI_eq (by omega) (by omega)).mp z))]
            have : ¬ ky i < ky (mM o q i) := fun z => by rcases k1.mp z with y | y <;> omega
            simp [this]
      · intro f
        have hl := mMl (2 ^ C) (Nat.le_refl _)
        show f_X4_relent_L19b N f (nI (mM o q (2 ^ C))) (nI (2 ^ C)) m = _
        unfold f_X4_relent_L19b
        rw [hc1.2.2.2.2.1, sh1 (by have := hc.2.1; omega), if_pos (by rw [nI_leI (by omega) (by omega)]; omega), e_bits N (by omega) (by omega), Option.bind_some]
    have hcl : ∀ s, (clN n T C s = true ↔ ∀ w, w < 2 ^ T → ¬ HN n (bdM (n.1 40)) T C w &&& s = s) := by
      intro s
      unfold clN
      rw [allR_iff _ _ _ (Nat.le_refl _)]
      constructor
      · intro z w hw
        have := z w (by omega) hw
        simpa [pG] using this
      · intro z w _ hw
        have := z w hw
        simpa [pG] using this
    have e12 : mX o u (2 ^ T) = mM o q (2 ^ C) := by
      refine mX_mM (by omega) (fun w _ => ulC w) (by omega) (fun w hw => ?_) (fun s hs hqs => ?_)
      · rw [← hq, ← hu]
        have a1 : o &&& unm o (HN n (bdM (n.1 40)) T C w) = unm o (HN n (bdM (n.1 40)) T C w) := and_sub.mpr (fun k hk => by
          rw [unm_tb] at hk
          cases z : o.testBit k
          · rw [z] at hk; cases hk
          · rfl)
        have a2 : ¬ clN n T C (unm o (unm o (HN n (bdM (n.1 40)) T C w))) = true := by
          rw [hcl]
          intro z
          refine z w hw (and_sub.mpr (fun k hk => ?_))
          rw [unm_tb, unm_tb] at hk
          cases z1 : o.testBit k <;> cases z2 : (HN n (bdM (n.1 40)) T C w).testBit k <;> simp_all
        have a3 : clN n T C (unm o (unm o (HN n (bdM (n.1 40)) T C w))) = false := by simpa using a2
        simp [a1, a3]
      · rw [← hq] at hqs
        simp only [Bool.and_eq_true, decide_eq_true_eq, Bool.not_eq_true'] at hqs
        obtain ⟨a1, a2⟩ := hqs
        have a3 : ¬ clN n T C (unm o s) = true := by rw [a2]; decide
        rw [hcl] at a3
        obtain ⟨w, hw⟩ := Classical.not_forall.mp a3
        obtain ⟨hw1, hw2⟩ := Classical.not_imp.mp hw
        refine ⟨w, hw1, ?_⟩
        rw [← hu]
        refine ky_sub (fun k hk => ?_)
        rw [unm_tb] at hk
        have b1 := and_sub.mp (Classical.not_not.mp hw2) k
        rw [unm_tb] at b1
        cases z1 : s.testBit k
        · cases z2 : o.testBit k <;> simp_all
        · rfl
    rw [e12] at hx
    exact Op_mk hx (hm _ (Crt_x10 hcm _) (by simp [mI1, mskF1]) (fun _ => rfl)) rfl (Inv_told (Inv_m T C _ h) _)
