/-! ===== promise 11: court ===== -/
theorem sumS_0 (g : Nat → Int32) (w : Nat) : ∀ m, sumS g 0 w m = 0 := by
  intro m
  induction m with
  | zero => rfl
  | succ m ih => rw [sumS, ih, Nat.zero_testBit]; rfl
theorem sumS_c {g g' : Nat → Int32} {way w : Nat} : ∀ m, (∀ i, i < m → g (5 * i + w) = g' (5 * i + w)) → sumS g way w m = sumS g' way w m := by
  intro m
  induction m with
  | zero => intro _; rfl
  | succ m ih => intro h; rw [sumS, sumS, ih (fun i hi => h i (by omega)), h m (by omega)]
theorem sumS_rmv (g : Nat → Int32) {way w f : Nat} (hf : way.testBit f = true) : ∀ m, (m ≤ f → sumS g way w m = sumS g (rmv way f) w m) ∧ (f < m → sumS g way w m = sumS g (rmv way f) w m + g (5 * f + w)) := by
  intro m
  induction m with
  | zero => exact ⟨fun _ => rfl, fun h => absurd h (by omega)⟩
  | succ m ih =>
    refine ⟨fun h => ?_, fun h => ?_⟩
    · rw [sumS, sumS, ih.1 (by omega), rmv_tb]
      have : ¬ m = f := by omega
      simp [this]
    · rw [sumS, sumS, rmv_tb]
      by_cases e : m = f
      · subst e
        rw [ih.1 (Nat.le_refl _), hf]
        simp [i_add0]
      · rw [ih.2 (by omega)]
        simp only [e, decide_false, Bool.not_false, Bool.and_true]
        rw [Int32.add_assoc, Int32.add_comm (g (5 * f + w)), ← Int32.add_assoc]
def tz (w : Nat) : Nat := ((List.range 6).find? (fun i => w.testBit i)).getD 0
theorem tz_all : (List.range 64).all (fun w => decide (w = 0) || (decide (f_J6_numberOfTrailingZeros_0f7a4_q (nI w) = some (nI (tz w))) && (w.testBit (tz w) && decide (tz w < 6)))) = true := by decide +kernel
theorem e_tz {w : Nat} (h0 : 0 < w) (h : w < 64) : f_J6_numberOfTrailingZeros_0f7a4_q (nI w) = some (nI (tz w)) ∧ w.testBit (tz w) = true ∧ tz w < 6 := by
  have q := List.all_eq_true.mp tz_all w (List.mem_range.mpr h)
  simp only [Bool.or_eq_true, Bool.and_eq_true, decide_eq_true_eq] at q
  rcases q with q | ⟨a, b, c⟩
  · omega
  · exact ⟨a, b, c⟩
theorem tz_lt {w T : Nat} (h : w < 2 ^ T) (hb : w.testBit (tz w) = true) : tz w < T := by
  rcases Nat.lt_or_ge (tz w) T with z | z
  · exact z
  · rw [Nat.testBit_lt_two_pow (Nat.lt_of_lt_of_le h (p2 z))] at hb
    cases hb
def Sm (u0 : xN) (T way k : Nat) (u : xN) : Prop := (∀ c, c ≠ 15 → u.1 c = u0.1 c) ∧ u.2 = u0.2 ∧ ∀ w', w' ≤ way → ∀ w, w < 5 → (w' < way ∨ w < k) → u.1 15 (5 * w' + w) = sumS (u0.1 14) w' w T
theorem i5 (a b : Nat) : nI a * 5 + nI b = nI (5 * a + b) := by rw [show (5 : Int32) = nI 5 from rfl, pk_mul, nI_add, Nat.mul_comm]
set_option maxHeartbeats 1000000 in
theorem e_addUp (N : Nat) (hN : 100 ≤ N) (u0 : xN) {T : Nat} (hT : T ≤ 6) (eT : u0.1 13 0 = nI T) (h15 : ∀ w, w < 5 → u0.1 15 w = 0) : ok (f_X0_addUp_13_q N u0) (fun u => (∀ c, c ≠ 15 → u.1 c = u0.1 c) ∧ u.2 = u0.2 ∧ ∀ way, way < 2 ^ T → ∀ w, w < 5 → u.1 15 (5 * way + w) = sumS (u0.1 14) way w T) := by
  have h6 : 2 ^ T ≤ 64 := p2 (m := 6) hT
  have h1 : 0 < 2 ^ T := Nat.pow_pos (by decide)
  unfold f_X0_addUp_13_q
  refine ok_forG (rc := f_X0_addUp_13_q_L2 N) (body := f_X0_addUp_13_q_L2b N) (fun f i (v : xN) => f i v) (fun _ => rfl) (2 ^ T) (fun way u => 1 ≤ way ∧ Sm u0 T way 0 u) _ ?_ ?_ N 1 u0 (by omega) (by omega) ⟨Nat.le_refl _, fun _ _ => rfl, rfl, fun w' hw' w hw hlt => ?_⟩
  · intro f way u hway ⟨hpos, hu⟩ hk
    show ok (f_X0_addUp_13_q_L2b N f (nI way) u) _
    obtain ⟨z1, z2, z3⟩ := e_tz hpos (show way < 64 by omega)
    have hf := tz_lt hway z2
    have hrl := rmv_lt (i := tz way) hway
    have hrw : rmv way (tz way) < way := by
      have a1 : rmv way (tz way) &&& way = rmv way (tz way) := by
        apply Nat.eq_of_testBit_eq
        intro k
        rw [Nat.testBit_and, rmv_tb]
        cases way.testBit k <;> simp
      have a2 : rmv way (tz way) ≤ way := by rw [← a1]; exact Nat.and_le_right
      rcases Nat.lt_or_ge (rmv way (tz way)) way with z | z
      · exact z
      · have e : rmv way (tz way) = way := by omega
        have := rmv_tb way (tz way) (tz way)
        rw [e, z2] at this
        simp at this
    unfold f_X0_addUp_13_q_L2b f_X0_ways_13_q
    rw [Option.bind_some, hu.1 13 (by decide), eT, sh1 (by omega), if_neg (by rw [nI_leI (by omega) (by omega)]; omega), z1, Option.bind_some, e_rmv (by omega) (by omega)]
    refine ok_forG (rc := f_X0_addUp_13_q_L26 N f) (body := f_X0_addUp_13_q_L26b N f) (fun g i (v : xN) => g (nI way) (nI (tz way)) (nI (rmv way (tz way))) i v) (fun _ => rfl) 5 (fun k v => Sm u0 T way k v) _ ?_ ?_ N 0 u (Nat.zero_le _) (by omega) hu
    · intro g k v hk5 hv hk2
      show ok (f_X0_addUp_13_q_L26b N f g (nI way) (nI (tz way)) (nI (rmv way (tz way))) (nI k) v) _
      unfold f_X0_addUp_13_q_L26b f_X0_sumOf_13_q
      rw [if_neg (by rw [show (5 : Int32) = nI 5 from rfl, nI_leI (by omega) (by omega)]; omega), i5, i5, i5, gdl_nI (by omega) (by omega), gdl0, Option.bind_some, gdl_nI (by omega) (by omega), gdl_nI (by omega) (by omega), gdl0, nI_clamp (by omega), nI_clamp (by omega), nI_clamp (by omega), nI_1]
      obtain ⟨v1, v2, v3⟩ := hv
      refine hk2 _ ⟨fun c hc => by rw [mI1, if_neg hc, v1 c hc], v2, fun w' hw' w hw hlt => ?_⟩
      rw [mI1, if_pos rfl]
      by_cases e : w' = way ∧ w = k
      · obtain ⟨e1, e2⟩ := e
        subst e1; subst e2
        rw [upd_s, v3 _ (by omega) w hw (Or.inl hrw), v1 14 (by decide), (sumS_rmv (u0.1 14) z2 T).2 hf]
      · rw [upd_o (by omega), v3 w' hw' w hw (by omega)]
    · intro g v hv
      show ok (f_X0_addUp_13_q_L26b N f g (nI way) (nI (tz way)) (nI (rmv way (tz way))) (nI 5) v) _
      unfold f_X0_addUp_13_q_L26b
      rw [if_pos (by decide), nI_1]
      obtain ⟨v1, v2, v3⟩ := hv
      exact hk v ⟨by omega, v1, v2, fun w' hw' w hw hlt => v3 w' (by omega) w hw (by omega)⟩
  · intro f u ⟨_, u1, u2, u3⟩
    show ok (f_X0_addUp_13_q_L2b N f (nI (2 ^ T)) u) _
    unfold f_X0_addUp_13_q_L2b f_X0_ways_13_q
    rw [Option.bind_some, u1 13 (by decide), eT, sh1 (by omega), if_pos (by rw [nI_leI (by omega) (by omega)]; omega)]
    exact ok_some.mpr ⟨u1, u2, fun way hw w hw5 => u3 way (by omega) w hw5 (Or.inl hw)⟩
  · have : w' = 0 := by omega
    subst this
    rw [Nat.mul_zero, Nat.zero_add, h15 w hw, sumS_0]
def b14 (b : Nat) : Int32 := if b % 2 = 0 then 1 else 4
set_option maxHeartbeats 1000000 in
theorem e_begW (N : Nat) (hN : 100 ≤ N) (u0 : xN) {C : Nat} (hC : C ≤ 8) : ok (f_X2_beginWith_19_q N (nI C) u0) (fun u => (∀ c, c ≠ 19 → c ≠ 20 → u.1 c = u0.1 c) ∧ u.2 = u0.2 ∧ u.1 19 = upd (upd (u0.1 19) 1 (nI (2 ^ C) - 1)) 2 0 ∧ ∀ b, b < 8 → u.1 20 b = b14 b) := by
  unfold f_X2_beginWith_19_q
  rw [sh1 (by omega)]
  refine ok_forG (rc := f_X2_beginWith_19_q_L16 N) (body := f_X2_beginWith_19_q_L16b N) (fun f i (v : xN) => f i v) (fun _ => rfl) 4 (fun i u => (∀ c, c ≠ 19 → c ≠ 20 → u.1 c = u0.1 c) ∧ u.2 = u0.2 ∧ u.1 19 = upd (upd (u0.1 19) 1 (nI (2 ^ C) - 1)) 2 0 ∧ ∀ b, b < 2 * i → u.1 20 b = b14 b) _ ?_ ?_ N 0 _ (Nat.zero_le _) (by omega) ⟨fun c h1 h2 => by rw [mI1, if_neg h1, mI1, if_neg h1], rfl, by rw [mI1, if_pos rfl, mI1, if_pos rfl], fun b hb => absurd hb (by omega)⟩
  · intro f i u hi ⟨u1, u2, u3, u4⟩ hk
    show ok (f_X2_beginWith_19_q_L16b N f (nI i) u) _
    unfold f_X2_beginWith_19_q_L16b
    rw [if_neg (by rw [show (4 : Int32) = nI 4 from rfl, nI_leI (by omega) (by omega)]; omega), e_2i, nI_1, nI_1, gdl_nI (by omega) (by omega), gdl_nI (by omega) (by omega), gdl0, nI_clamp (by omega), nI_clamp (by omega)]
    refine hk _ ⟨fun c h1 h2 => by rw [mI1, if_neg h2, mI1, if_neg h2, u1 c h1 h2], u2, by rw [mI1, if_neg (by decide), mI1, if_neg (by decide), u3], fun b hb => ?_⟩
    rw [mI1, if_pos rfl, mI1, if_pos rfl]
    by_cases e1 : b = 2 * i + 1
    · rw [e1, upd_s]; unfold b14; rw [if_neg (by omega)]
    · rw [upd_o e1]
      by_cases e0 : b = 2 * i
      · rw [e0, upd_s]; unfold b14; rw [if_pos (by omega)]
      · rw [upd_o e0, u4 b (by omega)]
  · intro f u hu
    show ok (f_X2_beginWith_19_q_L16b N f (nI 4) u) _
    unfold f_X2_beginWith_19_q_L16b
    rw [if_pos (by decide)]
    exact ok_some.mpr ⟨hu.1, hu.2.1, hu.2.2.1, fun b hb => hu.2.2.2 b (by omega)⟩
theorem fs_c78 (N k : Nat) (a : Int32) (u : xN) : f_X3_court_L78 N (k + 1) a u = f_X3_court_L78b N (f_X3_court_L78 N k) a u := rfl
theorem e_c78 (N : Nat) (hN : 100 ≤ N) (u : xN) : f_X3_court_L78 N N 0 u = some (u.1 13 0, mI (mI (mI u 24 0 0) 28 0 0) 32 0 0, true) := by
  have e : ∀ k, f_X3_court_L78 N (k + 4) 0 u = some (u.1 13 0, mI (mI (mI u 24 0 0) 28 0 0) 32 0 0, true) := by
    intro k
    have s0 : ∀ k u, f_X3_court_L78 N (k + 1) 0 u = f_X3_court_L78 N k 1 (mI u 24 0 0) := by
      intro k u
      rw [fs_c78]; unfold f_X3_court_L78b
      rw [if_neg (by decide), if_pos rfl, gdlT isb0, gdl0]; rfl
    have s1 : ∀ k u, f_X3_court_L78 N (k + 1) 1 u = f_X3_court_L78 N k 2 (mI u 28 0 0) := by
      intro k u
      rw [fs_c78]; unfold f_X3_court_L78b
      rw [if_neg (by decide), if_neg (by decide), if_pos rfl, gdlT isb0, gdl0]; rfl
    have s2 : ∀ k u, f_X3_court_L78 N (k + 1) 2 u = f_X3_court_L78 N k 3 (mI u 32 0 0) := by
      intro k u
      rw [fs_c78]; unfold f_X3_court_L78b
      rw [if_neg (by decide), if_neg (by decide), if_neg (by decide), if_pos rfl, gdlT isb0, gdl0]; rfl
    rw [show k + 4 = k + 3 + 1 from rfl, s0, show k + 3 = k + 2 + 1 from rfl, s1, show k + 2 = k + 1 + 1 from rfl, s2, fs_c78]
    unfold f_X3_court_L78b
    rw [if_pos (by decide), mI1, if_neg (by decide), mI1, if_neg (by decide), mI1, if_neg (by decide)]
  have := e (N - 4)
  rw [show N - 4 + 4 = N by omega] at this
  exact this
set_option maxHeartbeats 1000000 in
theorem e_begM (N : Nat) (hN : 400 ≤ N) (u0 : xN) {C : Nat} (hC : C ≤ 8) (eC : u0.1 39 3 = nI C) : ok (f_X4_begin N u0) (fun u => (∀ c, c ≠ 40 → u.1 c = u0.1 c) ∧ u.2 = u0.2 ∧ u.1 40 0 = 0 ∧ u.1 40 1 = nI (2 ^ C) - 1 ∧ (∀ b, b < 8 → u.1 40 (2 + b) = b14 b) ∧ u.1 40 370 = -1 ∧ u.1 40 740 = -1 ∧ u.1 40 1110 = -1) := by
  unfold f_X4_begin
  refine ok_forG (rc := f_X4_begin_L2 N) (body := f_X4_begin_L2b N) (fun f i (v : xN) => f i v) (fun _ => rfl) 370 (fun i u => (∀ c, c ≠ 40 → u.1 c = u0.1 c) ∧ u.2 = u0.2 ∧ ∀ p, p < i → u.1 40 p = 0) _ ?_ ?_ N 0 u0 (Nat.zero_le _) (by omega) ⟨fun _ _ => rfl, rfl, fun p hp => absurd hp (by omega)⟩
  · intro f i u hi ⟨u1, u2, u3⟩ hk
    show ok (f_X4_begin_L2b N f (nI i) u) _
    unfold f_X4_begin_L2b
    rw [if_neg (by rw [show (370 : Int32) = nI 370 from rfl, nI_leI (by omega) (by omega)]; omega), gdl_nI (by omega) (by omega), gdl0, nI_clamp (by omega), nI_1]
    refine hk _ ⟨fun c hc => by rw [mI1, if_neg hc, u1 c hc], u2, fun p hp => ?_⟩
    rw [mI1, if_pos rfl]
    by_cases e : p = i
    · rw [e, upd_s]
    · rw [upd_o e, u3 p (by omega)]
  · intro f u ⟨u1, u2, u3⟩
    show ok (f_X4_begin_L2b N f (nI 370) u) _
    unfold f_X4_begin_L2b
    rw [if_pos (by decide), u1 39 (by decide), eC, sh1 (by omega), tn1, gdlT ib1, gdl0]
    refine ok_forG (rc := f_X4_begin_L38 N) (body := f_X4_begin_L38b N) (fun f i (v : xN) => f i v) (fun _ => rfl) 4 (fun i u => (∀ c, c ≠ 40 → u.1 c = u0.1 c) ∧ u.2 = u0.2 ∧ u.1 40 0 = 0 ∧ u.1 40 1 = nI (2 ^ C) - 1 ∧ ∀ b, b < 2 * i → u.1 40 (2 + b) = b14 b) _ ?_ ?_ N 0 _ (Nat.zero_le _) (by omega) ⟨fun c hc => by rw [mI1, if_neg hc, u1 c hc], u2, by rw [mI1, if_pos rfl, upd_o (by decide), u3 0 (by omega)], by rw [mI1, if_pos rfl, upd_s], fun b hb => absurd hb (by omega)⟩
    · intro g i w hi ⟨w1, w2, w3, w4, w5⟩ hk
      show ok (f_X4_begin_L38b N g (nI i) w) _
      unfold f_X4_begin_L38b
      have ix : (2 : Int32) + (2 : Int32) * nI i = nI (2 + 2 * i) := by rw [e_2i, show (2 : Int32) = nI 2 from rfl, nI_add]
      rw [if_neg (by rw [show (4 : Int32) = nI 4 from rfl, nI_leI (by omega) (by omega)]; omega), ix, nI_1, nI_1, gdl_nI (by omega) (by omega), gdl_nI (by omega) (by omega), gdl0, nI_clamp (by omega), nI_clamp (by omega)]
      refine hk _ ⟨fun c hc => by rw [mI1, if_neg hc, mI1, if_neg hc, w1 c hc], w2, by rw [mI1, if_pos rfl, upd_o (by omega), mI1, if_pos rfl, upd_o (by omega), w3], by rw [mI1, if_pos rfl, upd_o (by omega), mI1, if_pos rfl, upd_o (by omega), w4], fun b hb => ?_⟩
      rw [mI1, if_pos rfl, mI1, if_pos rfl]
      by_cases e1 : b = 2 * i + 1
      · rw [e1, show 2 + (2 * i + 1) = 2 + 2 * i + 1 by omega, upd_s]; unfold b14; rw [if_neg (by omega)]
      · rw [upd_o (by omega)]
        by_cases e0 : b = 2 * i
        · rw [e0, upd_s]; unfold b14; rw [if_pos (by omega)]
        · rw [upd_o (by omega), w5 b (by omega)]
    · intro g w ⟨w1, w2, w3, w4, w5⟩
      show ok (f_X4_begin_L38b N g (nI 4) w) _
      unfold f_X4_begin_L38b
      rw [if_pos (by decide)]
      refine ok_forG (rc := f_X4_begin_L75 N) (body := f_X4_begin_L75b N) (fun f i (v : xN) => f i v) (fun _ => rfl) 4 (fun i u => 1 ≤ i ∧ (∀ c, c ≠ 40 → u.1 c = u0.1 c) ∧ u.2 = u0.2 ∧ u.1 40 0 = 0 ∧ u.1 40 1 = nI (2 ^ C) - 1 ∧ (∀ b, b < 8 → u.1 40 (2 + b) = b14 b) ∧ ∀ k, 1 ≤ k → k < i → u.1 40 (370 * k) = -1) _ ?_ ?_ N 1 w (by omega) (by omega) ⟨Nat.le_refl _, w1, w2, w3, w4, fun b hb => w5 b (by omega), fun k h1 h2 => absurd h1 (by omega)⟩
      · intro h i x hi ⟨x0, x1, x2, x3, x4, x5, x6⟩ hk
        show ok (f_X4_begin_L75b N h (nI i) x) _
        unfold f_X4_begin_L75b
        rw [if_neg (by rw [show (4 : Int32) = nI 4 from rfl, nI_leI (by omega) (by omega)]; omega), i_add0, show (370 : Int32) = nI 370 from rfl, pk_mul, gdl_nI (by omega) (by omega), gdl0, nI_clamp (by omega), nI_1]
        refine hk _ ⟨by omega, fun c hc => by rw [mI1, if_neg hc, x1 c hc], x2, by rw [mI1, if_pos rfl, upd_o (by omega), x3], by rw [mI1, if_pos rfl, upd_o (by omega), x4], fun b hb => by rw [mI1, if_pos rfl, upd_o (by omega), x5 b hb], fun k h1 h2 => ?_⟩
        rw [mI1, if_pos rfl]
        by_cases e : k = i
        · rw [e, upd_s]
        · rw [upd_o (by omega), x6 k h1 (by omega)]
      · intro h x ⟨x0, x1, x2, x3, x4, x5, x6⟩
        show ok (f_X4_begin_L75b N h (nI 4) x) _
        unfold f_X4_begin_L75b
        rw [if_pos (by decide)]
        exact ok_some.mpr ⟨x1, x2, x3, x4, x5, x6 1 (by omega) (by omega), x6 2 (by omega) (by omega), x6 3 (by omega) (by omega)⟩
set_option maxHeartbeats 1000000 in
theorem e_courtM (N : Nat) (hN : 400 ≤ N) (u0 : xN) {C : Nat} (hC : C ≤ 8) (e22 : u0.1 39 22 = nI C) : ok (f_X4_court_L47 N N 0 u0) (fun r => r.1 = u0.1 39 1 ∧ (∀ c, c ≠ 39 → c ≠ 40 → c ≠ 41 → c ≠ 42 → c ≠ 43 → c ≠ 44 → r.2.1 c = u0.1 c) ∧ r.2.2 = u0.2 ∧ r.2.1 39 = upd (u0.1 39) 3 (nI C) ∧ (∀ j, j < 30 → r.2.1 41 j = u0.1 50 j) ∧ (∀ k, k < C → r.2.1 42 k = u0.1 51 (3 * k) ∧ r.2.1 43 k = u0.1 51 (3 * k + 1) ∧ r.2.1 44 k = u0.1 51 (3 * k + 2)) ∧ r.2.1 40 0 = 0 ∧ r.2.1 40 1 = nI (2 ^ C) - 1 ∧ (∀ b, b < 8 → r.2.1 40 (2 + b) = b14 b) ∧ r.2.1 40 370 = -1 ∧ r.2.1 40 740 = -1 ∧ r.2.1 40 1110 = -1) := by
  refine ok_forG (rc := f_X4_court_L47 N) (body := f_X4_court_L47b N) (fun f i (v : xN) => f i v) (fun _ => rfl) 30 (fun i u => (∀ c, c ≠ 41 → u.1 c = u0.1 c) ∧ u.2 = u0.2 ∧ ∀ j, j < i → u.1 41 j = u0.1 50 j) _ ?_ ?_ N 0 u0 (Nat.zero_le _) (by omega) ⟨fun _ _ => rfl, rfl, fun j hj => absurd hj (by omega)⟩
  · intro f i u hi ⟨u1, u2, u3⟩ hk
    show ok (f_X4_court_L47b N f (nI i) u) _
    unfold f_X4_court_L47b
    rw [if_neg (by rw [show (30 : Int32) = nI 30 from rfl, nI_leI (by omega) (by omega)]; omega), gdl_nI (by omega) hi, gdl_nI (by omega) hi, gdl0, nI_clamp (by omega), nI_1, u1 50 (by decide)]
    refine hk _ ⟨fun c hc => by rw [mI1, if_neg hc, u1 c hc], u2, fun j hj => ?_⟩
    rw [mI1, if_pos rfl]
    by_cases e : j = i
    · rw [e, upd_s]
    · rw [upd_o e, u3 j (by omega)]
  · intro f u ⟨u1, u2, u3⟩
    show ok (f_X4_court_L47b N f (nI 30) u) _
    unfold f_X4_court_L47b
    rw [if_pos (by decide), u1 39 (by decide), e22]
    refine ok_forG (rc := f_X4_court_L81 N) (body := f_X4_court_L81b N) (fun f i (v : xN) => f i v) (fun _ => rfl) C (fun i w => (∀ c, c ≠ 39 → c ≠ 41 → c ≠ 42 → c ≠ 43 → c ≠ 44 → w.1 c = u0.1 c) ∧ w.2 = u0.2 ∧ w.1 39 = upd (u0.1 39) 3 (nI C) ∧ (∀ j, j < 30 → w.1 41 j = u0.1 50 j) ∧ ∀ k, k < i → w.1 42 k = u0.1 51 (3 * k) ∧ w.1 43 k = u0.1 51 (3 * k + 1) ∧ w.1 44 k = u0.1 51 (3 * k + 2)) _ ?_ ?_ N 0 _ (Nat.zero_le _) (by omega) ⟨fun c h1 h2 h3 h4 h5 => by rw [mI1, if_neg h1, u1 c h2], u2, by rw [mI1, if_pos rfl, u1 39 (by decide)], fun j hj => by rw [mI1, if_neg (by decide), u3 j hj], fun k hk => absurd hk (by omega)⟩
    · intro g k w hk ⟨w1, w2, w3, w4, w5⟩ hkk
      show ok (f_X4_court_L81b N g (nI k) w) _
      have w51 : w.1 51 = u0.1 51 := w1 51 (by decide) (by decide) (by decide) (by decide) (by decide)
      unfold f_X4_court_L81b
      have q1 : ∀ x, (mI w 42 k x).1 51 = u0.1 51 := fun x => by rw [mI1, if_neg (by decide), w51]
      have q2 : ∀ x y, (mI (mI w 42 k x) 43 k y).1 51 = u0.1 51 := fun x y => by rw [mI1, if_neg (by decide), q1]
      rw [w3, upd_s, if_neg (by rw [nI_leI (by omega) (by omega)]; omega), e_3i, nI_1, nI_1, e_n2, gdl_nI (by omega) (by omega), gdl_nI (by omega) (by omega), gdl_nI (by omega) (by omega), gdl_nI (by omega) (by omega), gdl_nI (by omega) (by omega), gdl_nI (by omega) (by omega), gdl0, nI_clamp (by omega), nI_clamp (by omega), nI_clamp (by omega), nI_clamp (by omega), w51, q1, q2]
      refine hkk _ ⟨fun c h1 h2 h3 h4 h5 => by rw [mI1, if_neg h5, mI1, if_neg h4, mI1, if_neg h3, w1 c h1 h2 h3 h4 h5], w2, by rw [mI1, if_neg (by decide), mI1, if_neg (by decide), mI1, if_neg (by decide), w3], fun j hj => by rw [mI1, if_neg (by decide), mI1, if_neg (by decide), mI1, if_neg (by decide), w4 j hj], fun i hi => ?_⟩
      simp only [mI1, Nat.reduceEqDiff, reduceIte]
      by_cases e : i = k
      · subst e; rw [upd_s, upd_s, upd_s]; exact ⟨rfl, rfl, rfl⟩
      · rw [upd_o e, upd_o e, upd_o e]; exact w5 i (by omega)
    · intro g w ⟨w1, w2, w3, w4, w5⟩
      show ok (f_X4_court_L81b N g (nI C) w) _
      unfold f_X4_court_L81b
      rw [w3, upd_s, if_pos (by rw [nI_leI (by omega) (by omega)]; omega)]
      refine ok_bind.mpr (ok_mono (e_begM N hN w hC (by rw [w3, upd_s])) (fun x ⟨x1, x2, x3, x4, x5, x6, x7, x8⟩ => ok_some.mpr ⟨by show x.1 39 1 = _; rw [x1 39 (by decide), w3, upd_o (by decide)], fun c a b c' d e f => by rw [x1 c b, w1 c a c' d e f], x2.trans w2, by rw [x1 39 (by decide), w3], fun j hj => by rw [x1 41 (by decide), w4 j hj], fun k hk => by rw [x1 42 (by decide), x1 43 (by decide), x1 44 (by decide)]; exact w5 k hk, x3, x4, x5, x6, x7, x8⟩))
/-- the two Courts change places -/
def sgm (c : Nat) : Nat := if 7 ≤ c ∧ c ≤ 12 then c + 6 else if 13 ≤ c ∧ c ≤ 18 then c - 6 else c
def swp (n : xN) : xN := (fun c => n.1 (sgm c), fun c => n.2 (sgm c))
theorem swp_o (n : xN) {c : Nat} (h : c < 7 ∨ 18 < c) : (swp n).1 c = n.1 c := by
  show n.1 (sgm c) = _
  unfold sgm
  rw [if_neg (by omega), if_neg (by omega)]
theorem swp_a (n : xN) {c : Nat} (h : 7 ≤ c) (h2 : c ≤ 12) : (swp n).1 c = n.1 (c + 6) := by
  show n.1 (sgm c) = _
  unfold sgm
  rw [if_pos ⟨h, h2⟩]
theorem swp_b (n : xN) {c : Nat} (h : 13 ≤ c) (h2 : c ≤ 18) : (swp n).1 c = n.1 (c - 6) := by
  show n.1 (sgm c) = _
  unfold sgm
  rw [if_neg (by omega), if_pos ⟨h, h2⟩]
def OpC (fx : xN → Option (Int32 × xN × Bool)) (fm : xN → Option (Int32 × xN)) : Prop := ∀ n, Inv n → ∃ r n1 b n2, fx n = some (r, n1, b) ∧ fm (if b = true then swp n1 else n1) = some (r, n2) ∧ Inv n2
set_option maxHeartbeats 2000000 in
theorem op_court (N : Nat) (hN : 400 ≤ N) (a : Int32) : OpC (f_X3_court N a) (f_X4_court N a) := by
  intro n h
  obtain ⟨c1, c2, c3, c4, c5, c6⟩ := h.1
  by_cases ha : 0 ≤ a.toInt ∧ a.toInt < 4
  · have ha' : 0 ≤ a.toInt ∧ a.toInt ≤ 3 := by omega
    obtain ⟨t, ht, rfl⟩ := i32_of (k := 4) ha.1 (by omega)
    have s1 := (h.2.2.1 t ht).1
    by_cases hs0 : 0 ≤ (n.1 47 t).toInt
    · obtain ⟨s, hs, e47, e6, ec⟩ := Text_of h ht hs0
      obtain ⟨r, u', q1, hF, q2⟩ := rd_seq N (by omega) h ht hs e47 e6 ec
      have uo : ∀ c, c ≠ 13 → c ≠ 14 → c ≠ 16 → c ≠ 17 → c ≠ 18 → u'.1 c = n.1 c := hF.1
      by_cases hr : r = -9
      · subst hr
        -- the class
        obtain ⟨v0, -, p0⟩ := q2 n rfl rfl
        obtain ⟨th, cl, h0, h6, h8, x0, x1, -, -, -, -⟩ := p0.2.2 rfl
        obtain ⟨w, ew, w1, w2, w3⟩ := e_addUp N (by omega) u' h6 x0 (fun k hk => by rw [uo 15 (by decide) (by decide) (by decide) (by decide) (by decide)]; exact h.2.2.2.2.2.2.1 k hk)
        obtain ⟨z, ez, z1, z2, z3, z4⟩ := e_begW N (by omega) w h8
        let n1 := mI (mI (mI z 24 0 0) 28 0 0) 32 0 0
        have zo : ∀ c, c ≠ 13 → c ≠ 14 → c ≠ 15 → c ≠ 16 → c ≠ 17 → c ≠ 18 → c ≠ 19 → c ≠ 20 → z.1 c = n.1 c := fun c a b c' d e f g i => by rw [z1 c g i, w1 c c', uo c a b d e f]
        have zu : ∀ c, c ≠ 15 → c ≠ 19 → c ≠ 20 → z.1 c = u'.1 c := fun c a b d => by rw [z1 c b d, w1 c a]
        have n1o : ∀ c, c ≠ 24 → c ≠ 28 → c ≠ 32 → n1.1 c = z.1 c := fun c a b d => by
          show (mI (mI (mI z 24 0 0) 28 0 0) 32 0 0).1 c = _
          rw [mI1, if_neg d, mI1, if_neg b, mI1, if_neg a]
        have hx : f_X3_court N (nI t) n = some (nI th, n1, true) := by
          unfold f_X3_court
          rw [e_rp4_ok n c4 ht (by rw [s1]; exact hs0), Option.bind_some, if_pos rfl, q1, Option.bind_some, if_pos rfl, ew, Option.bind_some, w1 13 (by decide), x1, ez, Option.bind_some, e_c78 N (by omega), zu 13 (by decide) (by decide) (by decide), x0]
        -- the reference
        have sw47 : (swp n1).1 47 = n.1 47 := by rw [swp_o n1 (by omega), n1o 47 (by decide) (by decide) (by decide), zo 47 (by decide) (by decide) (by decide) (by decide) (by decide) (by decide) (by decide) (by decide)]
        have sw48 : (swp n1).1 48 = n.1 48 := by rw [swp_o n1 (by omega), n1o 48 (by decide) (by decide) (by decide), zo 48 (by decide) (by decide) (by decide) (by decide) (by decide) (by decide) (by decide) (by decide)]
        obtain ⟨v, p2, p3⟩ := q2 (swp n1) sw47 sw48
        obtain ⟨th2, cl2, -, h62, h82, x02, x12, y0, y1, hG, hV⟩ := p3.2.2 rfl
        have eth : th2 = th := (nI_eq (by omega) (by omega)).mp (x02.symm.trans x0)
        have ecl : cl2 = cl := (nI_eq (by omega) (by omega)).mp (x12.symm.trans x1)
        subst eth; subst ecl
        obtain ⟨v1, v2, v3, -⟩ := p3.2.1
        have hcm := e_courtM N hN (mI v 39 1 (nI th2)) (C := cl2) h82 (by rw [mI1, if_pos rfl, upd_o (by decide)]; exact y1)
        obtain ⟨⟨r', n2⟩, en, k1, k2, k3, k4, k5, k6, k7, k8, k9, k10, k11, k12⟩ := hcm
        have er : r' = nI th2 := by
          have : r' = (mI v 39 1 (nI th2)).1 39 1 := k1
          rw [this, mI1, if_pos rfl, upd_s]
        have hm : f_X4_court N (nI t) (swp n1) = some (nI th2, n2) := by
          unfold f_X4_court
          rw [e_isText, Option.bind_some, bI_t ha', if_neg (by decide), gdl_nI (by omega) ht, gdl0, nI_clamp (by omega), sw47, if_pos ((le0 _).mpr hs0), p2, Option.bind_some, if_pos rfl]
          show f_X4_court_L47 N N 0 (mI v 39 1 (v.1 39 20)) = _
          rw [y0, en, er]
        refine ⟨nI th2, n1, true, n2, hx, by rw [if_pos rfl]; exact hm, ?_⟩
        -- what holds then
        have o : ∀ c, c ≠ 39 → c ≠ 40 → c ≠ 41 → c ≠ 42 → c ≠ 43 → c ≠ 44 → c ≠ 50 → c ≠ 51 → n2.1 c = (swp n1).1 c := fun c a b c' d e f g i => by
          have : n2.1 c = (mI v 39 1 (nI th2)).1 c := k2 c a b c' d e f
          rw [this, mI1, if_neg a, v1 c a g i]
        have oo : ∀ c, (c < 7 ∨ 18 < c) → c ≠ 19 → c ≠ 20 → c ≠ 24 → c ≠ 28 → c ≠ 32 → c ≠ 39 → c ≠ 40 → c ≠ 41 → c ≠ 42 → c ≠ 43 → c ≠ 44 → c ≠ 50 → c ≠ 51 → n2.1 c = n.1 c := fun c hh a1 a2 a3 a4 a5 a6 a7 a8 a9 b1 b2 b3 b4 => by
          rw [o c a6 a7 a8 a9 b1 b2 b3 b4, swp_o n1 hh, n1o c a3 a4 a5, zo c (by omega) (by omega) (by omega) (by omega) (by omega) (by omega) a1 a2]
        have ob : ∀ c, 7 ≤ c → c ≤ 12 → c ≠ 9 → n2.1 c = u'.1 (c + 6) := fun c a b d => by
          rw [o c (by omega) (by omega) (by omega) (by omega) (by omega) (by omega) (by omega) (by omega), swp_a n1 a b, n1o _ (by omega) (by omega) (by omega), zu _ (by omega) (by omega) (by omega)]
        have o9 : n2.1 9 = w.1 15 := by
          rw [o 9 (by omega) (by omega) (by omega) (by omega) (by omega) (by omega) (by omega) (by omega), swp_a n1 (by omega) (by omega), n1o _ (by omega) (by omega) (by omega), z1 _ (by omega) (by omega)]
        have o15 : n2.1 15 = n.1 9 := by
          rw [o 15 (by omega) (by omega) (by omega) (by omega) (by omega) (by omega) (by omega) (by omega), swp_b n1 (by omega) (by omega), n1o _ (by omega) (by omega) (by omega), zo _ (by omega) (by omega) (by omega) (by omega) (by omega) (by omega) (by omega) (by omega)]
        have o19 : n2.1 19 = upd (upd (w.1 19) 1 (nI (2 ^ cl2) - 1)) 2 0 := by
          rw [o 19 (by omega) (by omega) (by omega) (by omega) (by omega) (by omega) (by omega) (by omega), swp_o n1 (by omega), n1o _ (by omega) (by omega) (by omega), z3]
        have o20 : ∀ b, b < 8 → n2.1 20 b = b14 b := fun b hb => by
          rw [o 20 (by omega) (by omega) (by omega) (by omega) (by omega) (by omega) (by omega) (by omega), swp_o n1 (by omega), n1o _ (by omega) (by omega) (by omega), z4 b hb]
        have m39 : ∀ k, k ≠ 1 → k ≠ 3 → k ≠ 16 → k ≠ 17 → k ≠ 18 → k ≠ 20 → k ≠ 22 → n2.1 39 k = n.1 39 k := fun k a b c d e f g => by
          have : n2.1 39 = upd ((mI v 39 1 (nI th2)).1 39) 3 (nI cl2) := k4
          rw [this, upd_o b, mI1, if_pos rfl, upd_o a, v3 k c d e f g, swp_o n1 (by omega), n1o 39 (by decide) (by decide) (by decide), zo 39 (by decide) (by decide) (by decide) (by decide) (by decide) (by decide) (by decide) (by decide)]
        have m1 : n2.1 39 1 = nI th2 := by
          have : n2.1 39 = upd ((mI v 39 1 (nI th2)).1 39) 3 (nI cl2) := k4
          rw [this, upd_o (by decide), mI1, if_pos rfl, upd_s]
        have m3 : n2.1 39 3 = nI cl2 := by
          have : n2.1 39 = upd ((mI v 39 1 (nI th2)).1 39) 3 (nI cl2) := k4
          rw [this, upd_s]
        have m41 : ∀ j, j < 30 → n2.1 41 j = v.1 50 j := fun j hj => by
          have : n2.1 41 j = (mI v 39 1 (nI th2)).1 50 j := k5 j hj
          rw [this, mI1, if_neg (by decide)]
        have m42 : ∀ k, k < cl2 → n2.1 42 k = v.1 51 (3 * k) ∧ n2.1 43 k = v.1 51 (3 * k + 1) ∧ n2.1 44 k = v.1 51 (3 * k + 2) := fun k hk => by
          have := k6 k hk
          rw [mI1, if_neg (by decide)] at this
          exact this
        have e2 : n2.2 = (swp n1).2 := by
          have : n2.2 = (mI v 39 1 (nI th2)).2 := k3
          rw [this]; exact v2
        have n1s : n1.2 = n.2 := by
          show z.2 = n.2
          rw [z2, w2, hF.2]
        have eJ : ∀ c, (c < 7 ∨ 18 < c) → n2.2 c = n.2 c := fun c hh => by
          rw [e2]
          show n1.2 (sgm c) = _
          unfold sgm
          rw [if_neg (by omega), if_neg (by omega), n1s]
        obtain ⟨i1, i2, i3, i4, i5, i6, i7, i8, i9, i10, i11⟩ := id h
        have hcO : cOf n2 = cl2 := by unfold cOf; rw [m3, nI_clamp (by omega)]
        have p2c : 2 ^ cl2 ≤ 256 := p8 h82
        have p0c : 0 < 2 ^ cl2 := Nat.pow_pos (by decide)
        have hon : nI (2 ^ cl2) - 1 = nI (2 ^ cl2 - 1) := by
          have := nI_pred (2 ^ cl2 - 1)
          rw [show 2 ^ cl2 - 1 + 1 = 2 ^ cl2 by omega] at this
          exact this
        unfold Inv
        rw [hcO]
        refine ⟨?_, ?_, ?_, ?_, ?_, ?_, ?_, ?_, ?_, ?_, ?_⟩
        · rw [oo 1 (by omega) (by omega) (by omega) (by omega) (by omega) (by omega) (by omega) (by omega) (by omega) (by omega) (by omega) (by omega) (by omega) (by omega), oo 4 (by omega) (by omega) (by omega) (by omega) (by omega) (by omega) (by omega) (by omega) (by omega) (by omega) (by omega) (by omega) (by omega) (by omega)]; exact i1
        · rw [oo 3 (by omega) (by omega) (by omega) (by omega) (by omega) (by omega) (by omega) (by omega) (by omega) (by omega) (by omega) (by omega) (by omega) (by omega), oo 2 (by omega) (by omega) (by omega) (by omega) (by omega) (by omega) (by omega) (by omega) (by omega) (by omega) (by omega) (by omega) (by omega) (by omega), oo 45 (by omega) (by omega) (by omega) (by omega) (by omega) (by omega) (by omega) (by omega) (by omega) (by omega) (by omega) (by omega) (by omega) (by omega), oo 46 (by omega) (by omega) (by omega) (by omega) (by omega) (by omega) (by omega) (by omega) (by omega) (by omega) (by omega) (by omega) (by omega) (by omega)]; exact i2
        · rw [oo 6 (by omega) (by omega) (by omega) (by omega) (by omega) (by omega) (by omega) (by omega) (by omega) (by omega) (by omega) (by omega) (by omega) (by omega), oo 5 (by omega) (by omega) (by omega) (by omega) (by omega) (by omega) (by omega) (by omega) (by omega) (by omega) (by omega) (by omega) (by omega) (by omega), oo 47 (by omega) (by omega) (by omega) (by omega) (by omega) (by omega) (by omega) (by omega) (by omega) (by omega) (by omega) (by omega) (by omega) (by omega), oo 48 (by omega) (by omega) (by omega) (by omega) (by omega) (by omega) (by omega) (by omega) (by omega) (by omega) (by omega) (by omega) (by omega) (by omega)]; exact i3
        · rw [oo 0 (by omega) (by omega) (by omega) (by omega) (by omega) (by omega) (by omega) (by omega) (by omega) (by omega) (by omega) (by omega) (by omega) (by omega), oo 38 (by omega) (by omega) (by omega) (by omega) (by omega) (by omega) (by omega) (by omega) (by omega) (by omega) (by omega) (by omega) (by omega) (by omega), oo 49 (by omega) (by omega) (by omega) (by omega) (by omega) (by omega) (by omega) (by omega) (by omega) (by omega) (by omega) (by omega) (by omega) (by omega), m39 14 (by decide) (by decide) (by decide) (by decide) (by decide) (by decide) (by decide)]; exact i4
        · rw [oo 0 (by omega) (by omega) (by omega) (by omega) (by omega) (by omega) (by omega) (by omega) (by omega) (by omega) (by omega) (by omega) (by omega) (by omega), m39 11 (by decide) (by decide) (by decide) (by decide) (by decide) (by decide) (by decide), eJ 0 (by omega), eJ 39 (by omega)]; exact i5
        · rw [ob 7 (by omega) (by omega) (by omega), ob 8 (by omega) (by omega) (by omega), o9, ob 10 (by omega) (by omega) (by omega), ob 11 (by omega) (by omega) (by omega), ob 12 (by omega) (by omega) (by omega), m1, m3]
          refine ⟨x0, x1, th2, cl2, h6, h82, rfl, rfl, fun q => absurd q (by omega), fun i hi wt hw => ?_, fun way hway wt hw => ?_, fun k hk => ?_⟩
          · obtain ⟨g1, g2⟩ := hG (5 * i + wt) (by omega)
            rw [m41 _ (by omega)]
            exact ⟨g1, g2⟩
          · rw [w3 way hway wt hw]
            exact sumS_c _ (fun i hi => by rw [m41 _ (by omega)]; exact (hG (5 * i + wt) (by omega)).1)
          · obtain ⟨g1, g2, g3, g4⟩ := hV k hk
            obtain ⟨l1, l2, l3⟩ := m42 k hk
            rw [l1, l2, l3]
            exact ⟨g1, g2, g3, g4⟩
        · intro wt hw
          rw [o15]
          obtain ⟨-, -, T0, C0, -, -, -, -, -, -, hs9, -⟩ := i6
          have := hs9 0 (Nat.pow_pos (by decide)) wt hw
          rw [sumS_0, Nat.mul_zero, Nat.zero_add] at this
          exact this
        · rw [o19]
          refine ⟨by rw [upd_o (by decide), upd_s]; exact k8.symm, by rw [upd_s]; exact k7.symm, fun b hb => by rw [o20 b hb, show 0 + 2 + b = 2 + b by omega]; exact (k9 b hb).symm, 0, by omega, k7, fun d hd => ?_, fun d hd => absurd hd (by omega)⟩
          have hd0 : d = 0 := by omega
          subst hd0
          have sn : ∀ j, snapR (n2.1 40) 0 0 0 j = n2.1 40 (1 + j) := fun j => by unfold snapR; rw [if_neg (by omega), show 0 + 1 + j = 1 + j by omega]
          refine ⟨⟨2 ^ cl2 - 1, by omega, by rw [sn, ← hon]; exact k8⟩, fun tt htt => ⟨1, 4, by omega, by omega, ?_, ?_⟩⟩
          · rw [sn, show 1 + (1 + 2 * tt) = 2 + 2 * tt by omega]
            have q : n2.1 40 (2 + 2 * tt) = b14 (2 * tt) := k9 (2 * tt) (by omega)
            rw [q]; unfold b14; rw [if_pos (by omega)]; rfl
          · rw [sn, show 1 + (2 + 2 * tt) = 2 + (2 * tt + 1) by omega]
            have q : n2.1 40 (2 + (2 * tt + 1)) = b14 (2 * tt + 1) := k9 (2 * tt + 1) (by omega)
            rw [q]; unfold b14; rw [if_neg (by omega)]; rfl
        · refine Or.inl ⟨?_, k10⟩
          rw [o 24 (by omega) (by omega) (by omega) (by omega) (by omega) (by omega) (by omega) (by omega), swp_o n1 (by omega)]
          show (mI (mI (mI z 24 0 0) 28 0 0) 32 0 0).1 24 0 = 0
          rw [mI1, if_neg (by decide), mI1, if_neg (by decide), mI1, if_pos rfl, upd_s]
        · refine Or.inl ⟨?_, k11⟩
          rw [o 28 (by omega) (by omega) (by omega) (by omega) (by omega) (by omega) (by omega) (by omega), swp_o n1 (by omega)]
          show (mI (mI (mI z 24 0 0) 28 0 0) 32 0 0).1 28 0 = 0
          rw [mI1, if_neg (by decide), mI1, if_pos rfl, upd_s]
        · refine Or.inl ⟨?_, k12⟩
          rw [o 32 (by omega) (by omega) (by omega) (by omega) (by omega) (by omega) (by omega) (by omega), swp_o n1 (by omega)]
          show (mI (mI (mI z 24 0 0) 28 0 0) 32 0 0).1 32 0 = 0
          rw [mI1, if_pos rfl, upd_s]
      · have u47 : u'.1 47 = n.1 47 := uo 47 (by decide) (by decide) (by decide) (by decide) (by decide)
        obtain ⟨v', p2, p3⟩ := q2 u' u47 (uo 48 (by decide) (by decide) (by decide) (by decide) (by decide))
        refine ⟨-4, u', false, v', ?_, ?_, Inv_rd h hF p3.2.1⟩
        · unfold f_X3_court
          rw [e_rp4_ok n c4 ht (by rw [s1]; exact hs0), Option.bind_some, if_pos rfl, q1, Option.bind_some, if_neg hr]
        · unfold f_X4_court
          rw [if_neg (by decide), e_isText, Option.bind_some, bI_t ha', if_neg (by decide), gdl_nI (by omega) ht, gdl0, nI_clamp (by omega), u47, if_pos ((le0 _).mpr hs0), p2, Option.bind_some, if_neg hr]
    · refine ⟨-3, cF n 1, false, mF (cF n 1) 1, ?_, ?_, Inv_F (by decide) h⟩
      · unfold f_X3_court
        rw [e_rp4_no n c4 ht (by rw [s1]; exact hs0), Option.bind_some, if_neg (show ¬ (-3 : Int32) = 0 by decide)]
      · unfold f_X4_court
        have h0 : ¬ (0 : Int32) ≤ (cF n 1).1 47 t := by rw [cF1 (by decide) (by decide), le0]; exact hs0
        rw [if_neg (by decide), e_isText, Option.bind_some, bI_t ha', if_neg (by decide), gdl_nI (by omega) ht, gdl0, nI_clamp (by omega), if_neg h0, e_find1, Option.bind_some]
  · refine ⟨-1, n, false, n, ?_, ?_, h⟩
    · unfold f_X3_court
      rw [e_rp4_bad n c4 ha, Option.bind_some, if_neg (show ¬ (-1 : Int32) = 0 by decide)]
    · unfold f_X4_court
      rw [if_neg (by decide), e_isText, Option.bind_some, bI_f (by omega), if_pos rfl]
