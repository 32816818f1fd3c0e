/-! ===== promise 36: fix, what the two sides come to ===== -/
def stK (n : xN) (r t m : Nat) : Nat := mX (maskN (rO n r t 0) m) (fun i => maskN (rO n r t (i + 1)) m) 6
theorem stK_of (n : xN) (r t m : Nat) : ∃ u, u ≤ 6 ∧ stK n r t m = maskN (rO n r t u) m ∧ ∀ w, w ≤ 6 → ky (stK n r t m) ≤ ky (maskN (rO n r t w) m) := by
  obtain ⟨a, b, c⟩ := mX_in (maskN (rO n r t 0) m) (fun i => maskN (rO n r t (i + 1)) m) 6
  have hk : ∀ w, w ≤ 6 → ky (stK n r t m) ≤ ky (maskN (rO n r t w) m) := by
    intro w hw
    cases w with
    | zero => exact b
    | succ w => exact c w (by omega)
  rcases a with a | ⟨w, hw, a⟩
  · exact ⟨0, by omega, a, hk⟩
  · exact ⟨w + 1, by omega, a, hk⟩
theorem stK_lt (n : xN) (r t m : Nat) : stK n r t m < 2 ^ m := by
  obtain ⟨u, -, e, -⟩ := stK_of n r t m
  rw [e]; exact maskN_lt _ _
set_option maxHeartbeats 1000000 in
theorem e_struck (N : Nat) (hN : 100 ≤ N) {n : xN} (h11 : n.1 1 1 = 40) {r s t : Nat} (hr : r < 6) (hs : s ≤ 40) (e3 : n.1 3 r = nI s) (ec : ∀ i, i < s → n.1 2 (40 * r + i) = n.1 46 (40 * r + i)) : f_X3_struckOfTrait N (nI r) (nI t) n = some (nI (stK n r t (s / 3))) := by
  unfold f_X3_struckOfTrait
  have h13 : 2 ^ (s / 3) ≤ 8192 := p13 (by omega)
  have mXl : ∀ i, mX (maskN (rO n r t 0) (s / 3)) (fun i => maskN (rO n r t (i + 1)) (s / 3)) i < 8192 := by
    intro i
    rcases (mX_in (maskN (rO n r t 0) (s / 3)) (fun i => maskN (rO n r t (i + 1)) (s / 3)) i).1 with e | ⟨w, -, e⟩
    · rw [e]; have := maskN_lt (rO n r t 0) (s / 3); omega
    · rw [e]; have := maskN_lt (rO n r t (w + 1)) (s / 3); omega
  rw [show (0 : Int32) = nI 0 from rfl, e_ruledO N hN h11 hr hs e3 ec, Option.bind_some]
  have key := eq_forG (rc := f_X3_struckOfTrait_L11 N n) (body := f_X3_struckOfTrait_L11b N n) (fun f i (l : Int32) => f (nI r) (nI t) l i) (fun _ => rfl) 1 7 (fun i => nI (mX (maskN (rO n r t 0) (s / 3)) (fun i => maskN (rO n r t (i + 1)) (s / 3)) (i - 1))) (some (nI (stK n r t (s / 3)))) ?_ ?_ N 1 (Nat.le_refl _) (by omega) (by omega)
  · exact key
  · intro f u hu hi
    show f_X3_struckOfTrait_L11b N n f (nI r) (nI t) (nI (mX (maskN (rO n r t 0) (s / 3)) (fun i => maskN (rO n r t (i + 1)) (s / 3)) (u - 1))) (nI u) = f (nI r) (nI t) (nI (mX (maskN (rO n r t 0) (s / 3)) (fun i => maskN (rO n r t (i + 1)) (s / 3)) (u + 1 - 1))) (nI (u + 1))
    unfold f_X3_struckOfTrait_L11b
    have hl := maskN_lt (rO n r t u) (s / 3)
    have := mXl (u - 1)
    rw [if_neg (by rw [show (6 : Int32) = nI 6 from rfl, nI_ltI (by omega) (by omega)]; omega), e_ruledO N hN h11 hr hs e3 ec, Option.bind_some, e_smaller (by omega) (by omega), Option.bind_some, nI_1, show u + 1 - 1 = (u - 1) + 1 by omega]
    conv => rhs; rw [mX]
    rw [show u - 1 + 1 = u by omega]
  · intro f
    show f_X3_struckOfTrait_L11b N n f (nI r) (nI t) _ (nI 7) = _
    unfold f_X3_struckOfTrait_L11b
    rw [if_pos (by decide)]
    rfl
def fixA (n : xN) (r m : Nat) : Nat := ((stK n r 0 m ||| stK n r 1 m) ||| stK n r 2 m) ||| stK n r 3 m
theorem fixA_of (n : xN) (r m : Nat) : ∃ u : Nat → Nat, fixA n r m = maskN (orT n r u) m ∧ ∀ t, t < 4 → ∀ w, w ≤ 6 → ky (maskN (rO n r t (u t)) m) ≤ ky (maskN (rO n r t w) m) := by
  obtain ⟨u0, l0, e0, k0⟩ := stK_of n r 0 m
  obtain ⟨u1, l1, e1, k1⟩ := stK_of n r 1 m
  obtain ⟨u2, l2, e2, k2⟩ := stK_of n r 2 m
  obtain ⟨u3, l3, e3, k3⟩ := stK_of n r 3 m
  refine ⟨fun t => match t with | 0 => u0 | 1 => u1 | 2 => u2 | _ => u3, ?_, ?_⟩
  · unfold fixA
    rw [e0, e1, e2, e3, mask_orr, mask_orr, mask_orr]
    rfl
  · intro t ht w hw
    match t, ht with
    | 0, _ => show ky (maskN (rO n r 0 u0) m) ≤ _; rw [← e0]; exact k0 w hw
    | 1, _ => show ky (maskN (rO n r 1 u1) m) ≤ _; rw [← e1]; exact k1 w hw
    | 2, _ => show ky (maskN (rO n r 2 u2) m) ≤ _; rw [← e2]; exact k2 w hw
    | 3, _ => show ky (maskN (rO n r 3 u3) m) ≤ _; rw [← e3]; exact k3 w hw
theorem fixA_lt (n : xN) (r m : Nat) : fixA n r m < 2 ^ m := by
  obtain ⟨u, e, -⟩ := fixA_of n r m
  rw [e]; exact maskN_lt _ _
theorem or0_nI (a : Nat) : (0 : Int32) ||| nI a = nI a := by
  apply b_ext
  intro i _
  rw [b_or, b_0]; rfl
theorem fs_fixX (N k : Nat) (v1 v3 v4 : Int32) (u : xN) : f_X3_fix_L17 N (k + 1) v1 v3 v4 u = f_X3_fix_L17b N (f_X3_fix_L17 N k) v1 v3 v4 u := rfl
set_option maxHeartbeats 1000000 in
theorem e_fixX (N : Nat) (hN : 100 ≤ N) {n : xN} (h11 : n.1 1 1 = 40) {r s : Nat} (hr : r < 6) (hs : s ≤ 40) (e3 : n.1 3 r = nI s) (ec : ∀ i, i < s → n.1 2 (40 * r + i) = n.1 46 (40 * r + i)) : f_X3_fix_L17 N N (nI r) 0 0 n = some (nI (pcN (fixA n r (s / 3)) 13), mI n 0 10 (nI (fixA n r (s / 3)))) := by
  have h13 : 2 ^ (s / 3) ≤ 8192 := p13 (by omega)
  have l0 := stK_lt n r 0 (s / 3)
  have l1 := stK_lt n r 1 (s / 3)
  have l2 := stK_lt n r 2 (s / 3)
  have l3 := stK_lt n r 3 (s / 3)
  have o1 : stK n r 0 (s / 3) ||| stK n r 1 (s / 3) < 2 ^ (s / 3) := Nat.or_lt_two_pow l0 l1
  have o2 : stK n r 0 (s / 3) ||| stK n r 1 (s / 3) ||| stK n r 2 (s / 3) < 2 ^ (s / 3) := Nat.or_lt_two_pow o1 l2
  have la := fixA_lt n r (s / 3)
  have st : ∀ (k t : Nat) (v : Int32), t < 4 → f_X3_fix_L17 N (k + 1) (nI r) v (nI t) n = f_X3_fix_L17 N k (nI r) (v ||| nI (stK n r t (s / 3))) (nI (t + 1)) n := by
    intro k t v ht
    rw [fs_fixX]
    unfold f_X3_fix_L17b
    rw [if_neg (by rw [show (4 : Int32) = nI 4 from rfl, nI_leI (by omega) (by omega)]; omega), e_struck N hN h11 hr hs e3 ec, Option.bind_some, nI_1]
  have hN2 : N = (N - 5) + 5 := by omega
  have e : ∀ k, f_X3_fix_L17 N (k + 5) (nI r) 0 0 n = some (nI (pcN (fixA n r (s / 3)) 13), mI n 0 10 (nI (fixA n r (s / 3)))) := by
    intro k
    have q0 := st (k + 4) 0 0 (by omega)
    have q1 := st (k + 3) 1 (nI (stK n r 0 (s / 3))) (by omega)
    have q2 := st (k + 2) 2 (nI (stK n r 0 (s / 3) ||| stK n r 1 (s / 3))) (by omega)
    have q3 := st (k + 1) 3 (nI (stK n r 0 (s / 3) ||| stK n r 1 (s / 3) ||| stK n r 2 (s / 3))) (by omega)
    rw [or0_nI] at q0
    rw [nI_or (by omega) (by omega)] at q1 q2 q3
    refine q0.trans (q1.trans (q2.trans (q3.trans ?_)))
    rw [fs_fixX]
    unfold f_X3_fix_L17b
    rw [if_pos (show (4 : Int32) ≤ nI (3 + 1) by decide)]
    show Option.bind (f_J6_bitCount_0f7a4 (nI (fixA n r (s / 3)))) _ = _
    rw [e_bitc (by omega), Option.bind_some]
    rfl
  have := e (N - 5)
  rw [← hN2] at this
  exact this
def fxR (n : xN) (r S i j : Nat) : Bool := S.testBit i || S.testBit j || !agF n r i j
def fxB (n : xN) (r m S : Nat) : Bool := andA (fun i => andA (fxR n r S i) m) m
theorem fxB_iff (n : xN) (r m S : Nat) : fxB n r m S = true ↔ fxd n r m S.testBit := by
  unfold fxB
  rw [andA_iff]
  constructor
  · intro h i hi j hj ag
    have := (andA_iff _ _).mp (h i hi) j hj
    unfold fxR at this
    rw [ag] at this
    simpa using this
  · intro h i hi
    rw [andA_iff]
    intro j hj
    unfold fxR
    cases ag : agF n r i j
    · simp
    · rcases h i hi j hj ag with z | z <;> rw [z] <;> simp
set_option maxHeartbeats 1000000 in
theorem e_fxi (N : Nat) {n : xN} {r s S i : Nat} (hr : r < 6) (hs : s ≤ 40) (e3 : n.1 45 r = nI s) (hS : S < 8192) (hi : i < s / 3) (rec : Int32 → Int32 → Int32 → Int32 → Option Int32) : ∀ (f j : Nat), j ≤ s / 3 → s / 3 - j + 1 < f → f_X4_isFixed_L21 N n rec f (nI r) (nI S) 1 (nI i) (nI j) = rec (nI r) (nI S) (bI (allR (fxR n r S i) (s / 3) (s / 3 - j) = true)) (nI (i + 1)) := by
  intro f
  induction f with
  | zero => intro j _ h; omega
  | succ f ih =>
    intro j hj hf
    show f_X4_isFixed_L21b N n rec (f_X4_isFixed_L21 N n rec f) (nI r) (nI S) 1 (nI i) (nI j) = _
    unfold f_X4_isFixed_L21b f_X4_isFixed_L68 f_X4_isFixed_L73 f_X4_isFixed_L80
    rw [gdl_nI (by omega) hr, gdlT nz3, gdl0, nI_clamp (by omega), e3, e_d3 hs]
    by_cases h : j < s / 3
    · rw [if_neg (by rw [nI_leI (by omega) (by omega)]; omega), if_neg (show ¬ (1 : Int32) = 0 by decide), e_has (by omega) (by omega), Option.bind_some, e_has (by omega) (by omega), Option.bind_some, e_against hr (by omega) (by omega), Option.bind_some, nI_1, allR_s _ h]
      have e1 := ih (j + 1) (by omega) (by omega)
      have e0 : f_X4_isFixed_L21 N n rec f (nI r) (nI S) 0 (nI i) (nI (j + 1)) = rec (nI r) (nI S) 0 (nI (i + 1)) := by
        cases f with
        | zero => omega
        | succ f =>
          show f_X4_isFixed_L21b N n rec (f_X4_isFixed_L21 N n rec f) (nI r) (nI S) 0 (nI i) (nI (j + 1)) = _
          unfold f_X4_isFixed_L21b f_X4_isFixed_L80
          rw [gdl_nI (by omega) hr, gdlT nz3, gdl0, nI_clamp (by omega), e3, e_d3 hs, if_pos (show (0 : Int32) = 0 from rfl), nI_1, ite_self]
      rw [e1, e0]
      have er : fxR n r S i j = (S.testBit i || S.testBit j || !agF n r i j) := rfl
      rw [er]
      cases S.testBit i <;> cases S.testBit j <;> cases agF n r i j <;> simp [bI]
    · rw [if_pos (by rw [nI_leI (by omega) (by omega)]; omega), nI_1, show s / 3 - j = 0 by omega]
      rfl
set_option maxHeartbeats 1000000 in
theorem e_isFixed (N : Nat) (hN : 100 ≤ N) {n : xN} {r s S : Nat} (hr : r < 6) (hs : s ≤ 40) (e3 : n.1 45 r = nI s) (hS : S < 8192) : f_X4_isFixed N (nI r) (nI S) n = some (bI (fxB n r (s / 3) S = true)) := by
  unfold f_X4_isFixed
  have key := eq_forG (rc := f_X4_isFixed_L5 N n) (body := f_X4_isFixed_L5b N n) (fun f i (l : Int32) => f (nI r) (nI S) l i) (fun _ => rfl) 0 (s / 3) (fun i => bI (andA (fun i => andA (fxR n r S i) (s / 3)) i = true)) (some (bI (fxB n r (s / 3) S = true))) ?_ ?_ N 0 (Nat.le_refl _) (Nat.zero_le _) (by omega)
  · exact key
  · intro f i _ hi
    show f_X4_isFixed_L5b N n f (nI r) (nI S) (bI (andA (fun i => andA (fxR n r S i) (s / 3)) i = true)) (nI i) = f (nI r) (nI S) (bI ((andA (fun i => andA (fxR n r S i) (s / 3)) i && andA (fxR n r S i) (s / 3)) = true)) (nI (i + 1))
    unfold f_X4_isFixed_L5b
    rw [gdl_nI (by omega) hr, gdlT nz3, gdl0, nI_clamp (by omega), e3, e_d3 hs, if_neg (by rw [nI_leI (by omega) (by omega)]; omega)]
    cases andA (fun i => andA (fxR n r S i) (s / 3)) i
    · cases N with
      | zero => omega
      | succ N' =>
        show f_X4_isFixed_L21b (N' + 1) n f (f_X4_isFixed_L21 (N' + 1) n f N') (nI r) (nI S) 0 (nI i) 0 = f (nI r) (nI S) 0 (nI (i + 1))
        unfold f_X4_isFixed_L21b f_X4_isFixed_L80
        rw [gdl_nI (by omega) hr, gdlT nz3, gdl0, nI_clamp (by omega), e3, e_d3 hs, if_pos (show (0 : Int32) = 0 from rfl), nI_1, ite_self]
    · have := e_fxi N hr hs e3 hS hi f N 0 (Nat.zero_le _) (by omega)
      rw [Nat.sub_zero, allR_A] at this
      rw [Bool.true_and]
      exact this
  · intro f
    show f_X4_isFixed_L5b N n f (nI r) (nI S) (bI (fxB n r (s / 3) S = true)) (nI (s / 3)) = _
    unfold f_X4_isFixed_L5b
    rw [gdl_nI (by omega) hr, gdlT nz3, gdl0, nI_clamp (by omega), e3, e_d3 hs, if_pos (by rw [nI_leI (by omega) (by omega)]; omega), gdl_bI, gdl0]
/-- the reference tries all sets, from the last one down -/
def bDn (q : Nat → Bool) (W : Nat) : Nat → Nat
  | 0 => W - 1
  | j + 1 => if pcN (W - 1 - j) 13 ≤ pcN (bDn q W j) 13 ∧ q (W - 1 - j) = true then W - 1 - j else bDn q W j
theorem bDn_in (q : Nat → Bool) {W : Nat} (hW : 0 < W) (h8 : W ≤ 8192) (hq : q (W - 1) = true) : ∀ j, j ≤ W → W - j ≤ bDn q W j + (if j = 0 then 1 else 0) ∧ bDn q W j < W ∧ q (bDn q W j) = true ∧ ∀ s, W - j ≤ s → s < W → q s = true → ky (bDn q W j) ≤ ky s := by
  intro j
  induction j with
  | zero => intro _; exact ⟨by rw [bDn]; simp; omega, by rw [bDn]; omega, hq, fun s h1 h2 => absurd h1 (by omega)⟩
  | succ j ih =>
    intro hj
    obtain ⟨a, b, c, d⟩ := ih (by omega)
    rw [bDn]
    have k1 := ky_lt (show W - 1 - j < 8192 by omega) (show bDn q W j < 8192 by omega)
    have k2 := ky_lt (show bDn q W j < 8192 by omega) (show W - 1 - j < 8192 by omega)
    have hle : W - 1 - j ≤ bDn q W j := by
      by_cases e : j = 0
      · subst e; rw [bDn]; omega
      · rw [if_neg e] at a; omega
    by_cases r : pcN (W - 1 - j) 13 ≤ pcN (bDn q W j) 13 ∧ q (W - 1 - j) = true
    · rw [if_pos r]
      refine ⟨by rw [if_neg (by omega)]; omega, by omega, r.2, fun s h1 h2 hs => ?_⟩
      by_cases e : s = W - 1 - j
      · rw [e]; exact Nat.le_refl _
      · have := d s (by omega) h2 hs
        have : ky (W - 1 - j) ≤ ky (bDn q W j) := by
          have := r.1
          rcases Nat.lt_or_ge (bDn q W j) (W - 1 - j) with z | z
          · omega
          · rcases Nat.lt_or_ge (ky (bDn q W j)) (ky (W - 1 - j)) with y | y
            · rcases k2.mp y with x | x <;> omega
            · exact y
        omega
    · rw [if_neg r]
      refine ⟨by rw [if_neg (by omega)]; omega, b, c, fun s h1 h2 hs => ?_⟩
      by_cases e : s = W - 1 - j
      · subst e
        have : ¬ pcN (W - 1 - j) 13 ≤ pcN (bDn q W j) 13 := fun z => r ⟨z, hs⟩
        have := k2.mpr (Or.inl (by omega))
        omega
      · exact d s (by omega) h2 hs
set_option maxHeartbeats 1000000 in
theorem e_fixM (N : Nat) (hN : 8300 ≤ N) {n : xN} {r s : Nat} (hr : r < 6) (hs : s ≤ 40) (e3 : n.1 45 r = nI s) : f_X4_fix_L37 N N (nI r) (dn (2 ^ (s / 3))) (dn (2 ^ (s / 3))) n = some (nI (pcN (bDn (fxB n r (s / 3)) (2 ^ (s / 3)) (2 ^ (s / 3))) 13), mI n 39 11 (nI (bDn (fxB n r (s / 3)) (2 ^ (s / 3)) (2 ^ (s / 3))))) := by
  have h13 : 2 ^ (s / 3) ≤ 8192 := p13 (by omega)
  have h0 : 0 < 2 ^ (s / 3) := Nat.pow_pos (by decide)
  have bl : ∀ j, bDn (fxB n r (s / 3)) (2 ^ (s / 3)) j < 2 ^ (s / 3) := by
    intro j
    induction j with
    | zero => rw [bDn]; omega
    | succ j ih => rw [bDn]; split <;> omega
  generalize 2 ^ (s / 3) = W at *
  have key := eq_forDG (rc := f_X4_fix_L37 N) (body := f_X4_fix_L37b N) (fun f i (l : Int32) => f (nI r) l i n) (fun _ => rfl) W (fun i => nI (bDn (fxB n r (s / 3)) W (W - i))) (some (nI (pcN (bDn (fxB n r (s / 3)) W W) 13), mI n 39 11 (nI (bDn (fxB n r (s / 3)) W W)))) ?_ ?_ N W (Nat.le_refl _) (by omega)
  · have k2 : f_X4_fix_L37 N N (nI r) (nI (bDn (fxB n r (s / 3)) W (W - W))) (dn W) n = _ := key
    rw [Nat.sub_self, bDn] at k2
    have : dn W = nI (W - 1) := by
      have := dn_s (W - 1)
      rw [show W - 1 + 1 = W by omega] at this
      exact this
    rw [this] at k2 ⊢
    exact k2
  · intro f i hi
    show f_X4_fix_L37b N f (nI r) (nI (bDn (fxB n r (s / 3)) W (W - (i + 1)))) (nI i) n = f (nI r) (nI (bDn (fxB n r (s / 3)) W (W - i))) (dn i) n
    have hb := bl (W - (i + 1))
    have p1 := pcN_le i 13
    have p2 := pcN_le (bDn (fxB n r (s / 3)) W (W - (i + 1))) 13
    unfold f_X4_fix_L37b f_X4_fix_L69 f_X4_fix_L70
    rw [if_neg (nI_pos (by omega)), e_bits N (by omega) (by omega), Option.bind_some, e_bits N (by omega) (show bDn (fxB n r (s / 3)) W (W - (i + 1)) < 2 ^ 31 by omega), Option.bind_some, e_isFixed N (by omega) hr hs e3 (by omega), Option.bind_some, dn_p, show W - i = (W - (i + 1)) + 1 by omega]
    conv => rhs; rw [bDn]
    rw [show W - 1 - (W - (i + 1)) = i by omega]
    by_cases a : pcN i 13 ≤ pcN (bDn (fxB n r (s / 3)) W (W - (i + 1))) 13
    · rw [if_neg (by rw [nI_ltI (by omega) (by omega)]; omega)]
      cases q : fxB n r (s / 3) i
      · simp [bI]
      · simp [bI, a]
    · rw [if_pos (by rw [nI_ltI (by omega) (by omega)]; omega), if_neg (fun z => a z.1)]
  · intro f
    show f_X4_fix_L37b N f (nI r) (nI (bDn (fxB n r (s / 3)) W (W - 0))) (dn 0) n = _
    have hb := bl W
    unfold f_X4_fix_L37b
    rw [if_pos dn_0, Nat.sub_zero, e_bits N (by omega) (by omega), Option.bind_some]
theorem tb_full {m i : Nat} (h : i < m) : (2 ^ m - 1).testBit i = true := by rw [Nat.testBit_two_pow_sub_one]; exact decide_eq_true h
theorem fix_same {n : xN} {r m : Nat} (hm : m ≤ 13) (hok : andA (okR n r) m = true) : bDn (fxB n r m) (2 ^ m) (2 ^ m) = fixA n r m := by
  have h0 : 0 < 2 ^ m := Nat.pow_pos (by decide)
  have h13 := p13 hm
  obtain ⟨u, e, hu⟩ := fixA_of n r m
  have hfull : fxB n r m (2 ^ m - 1) = true := (fxB_iff _ _ _ _).mpr (fun i hi j hj _ => Or.inl (tb_full hi))
  obtain ⟨-, b, c, d⟩ := bDn_in (fxB n r m) h0 h13 hfull (2 ^ m) (Nat.le_refl _)
  have hA := fixA_lt n r m
  refine ky_inj (by omega) (by omega) (Nat.le_antisymm (d _ (by omega) hA ((fxB_iff _ _ _ _).mpr ?_)) ?_)
  · rw [e]
    intro i hi j hj ag
    have := fx_orT hok u i hi j hj ag
    rw [maskN_tb, maskN_tb, decide_eq_true hi, decide_eq_true hj, Bool.true_and, Bool.true_and]
    exact this
  · rw [e]
    exact fix_least hm hok u hu b ((fxB_iff _ _ _ _).mp c)
theorem op_fix (N : Nat) (hN : 8300 ≤ N) (a : Int32) : Op (f_X3_fix N a) (f_X4_fix N a) := by
  intro n h
  obtain ⟨x, n1, n2, e1, e2, e3⟩ := rul N (by omega) a h (fun u => f_X3_fix_L17 N N a 0 0 u) (fun u => gdl [inb a 6, nzi 3] (f_X4_fix_L37 N N a ((1 <<< (((u.1 45 (Int32.toNatClampNeg a)) / 3) &&& 31)) - 1) ((1 <<< (((u.1 45 (Int32.toNatClampNeg a)) / 3) &&& 31)) - 1) u)) (fun r s ea hr hs h3 e45 e3 ec hj => by
    subst ea
    have ex := e_fixX N (by omega) h.1.2.1 hr hs e3 ec
    refine ⟨nI (pcN (fixA n r (s / 3)) 13), mI n 0 10 (nI (fixA n r (s / 3))), mI (mI n 0 10 (nI (fixA n r (s / 3)))) 39 11 (nI (fixA n r (s / 3))), ex, ?_, Inv_told h _, fun b hb => by rw [mI1, if_neg hb]⟩
    generalize hme : mI n 0 10 (nI (fixA n r (s / 3))) = m
    have em1 : ∀ b, b ≠ 0 → m.1 b = n.1 b := fun b hb => by rw [← hme, mI1, if_neg hb]
    have e45m : m.1 45 r = nI s := by rw [em1 45 (by decide)]; exact e45
    have ep : fxB m r (s / 3) = fxB n r (s / 3) := by
      funext S
      unfold fxB fxR agF tRl vRl fRl clL
      simp only [em1 46 (by decide)]
    have ex2 := e_fixM N hN (n := m) hr hs e45m
    rw [ep, fix_same (by omega) hj] at ex2
    show gdl [inb (nI r) 6, nzi 3] _ = _
    rw [gdl_nI (by omega) hr, gdlT nz3, gdl0, nI_clamp (by omega), e45m, e_d3 hs, sh1 (by omega)]
    exact ex2)
  refine ⟨x, n1, n2, ?_, ?_, e3⟩
  · unfold f_X3_fix
    exact e1
  · unfold f_X4_fix
    exact e2
