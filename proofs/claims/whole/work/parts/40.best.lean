/-! ===== promises 25 to 28: cheapest, fewest, nearest, tight ===== -/
def bX (c : Nat → Int32) (p : Nat → Bool) (l0 : Int32) : Nat → Int32 × Int32
  | 0 => (-9, l0)
  | i + 1 => if c i < (bX c p l0 i).2 ∧ p i = true then (nI i, c i) else bX c p l0 i
def bM (c : Nat → Int32) (p : Nat → Bool) : Nat → Int32 × Int32
  | 0 => (-9, 0)
  | i + 1 => if p i = true ∧ ((bM c p i).1 = -9 ∨ c i < (bM c p i).2) then (nI i, c i) else bM c p i
theorem nI_n9 {w : Nat} (h : w < 2 ^ 31) : nI w ≠ -9 := by
  intro q
  have := congrArg Int32.toInt q
  rw [nI_toInt h] at this
  have z : (-9 : Int32).toInt = -9 := by decide
  omega
theorem bXM (c : Nat → Int32) (p : Nat → Bool) (l0 : Int32) {W : Nat} (hW : W < 2 ^ 31) (h : ∀ w, w < W → c w < l0) : ∀ i, i ≤ W → (bX c p l0 i).1 = (bM c p i).1 ∧ (((bX c p l0 i) = (-9, l0) ∧ (bM c p i).1 = -9) ∨ ∃ w, w < i ∧ p w = true ∧ bX c p l0 i = (nI w, c w) ∧ bM c p i = (nI w, c w)) := by
  intro i
  induction i with
  | zero => intro _; exact ⟨rfl, Or.inl ⟨rfl, rfl⟩⟩
  | succ i ih =>
    intro hi
    obtain ⟨e, hor⟩ := ih (by omega)
    rw [bX, bM]
    rcases hor with ⟨a1, a2⟩ | ⟨w, hw, pw, a1, a2⟩
    · rw [a1, a2]
      by_cases q : p i = true
      · rw [if_pos ⟨h i (by omega), q⟩, if_pos ⟨q, Or.inl rfl⟩]
        exact ⟨rfl, Or.inr ⟨i, by omega, q, rfl, rfl⟩⟩
      · rw [if_neg (fun z => q z.2), if_neg (fun z => q z.1)]
        exact ⟨by rw [a2], Or.inl ⟨rfl, a2⟩⟩
    · rw [a1, a2]
      have hn := nI_n9 (show w < 2 ^ 31 by omega)
      by_cases q : p i = true ∧ c i < c w
      · rw [if_pos ⟨q.2, q.1⟩, if_pos ⟨q.1, Or.inr q.2⟩]
        exact ⟨rfl, Or.inr ⟨i, by omega, q.1, rfl, rfl⟩⟩
      · rw [if_neg (fun z => q ⟨z.2, z.1⟩), if_neg (fun z => q ⟨z.1, z.2.elim (fun y => absurd y hn) id⟩)]
        exact ⟨rfl, Or.inr ⟨w, by omega, pw, rfl, rfl⟩⟩
theorem e_cheapBy (N : Nat) (hN : 100 ≤ N) (n : xN) {T C s : Nat} (hc : Crt n T C) (hbd : ∀ b, b < 8 → n.1 20 b = bdM (n.1 40) b) (hs : s < 2 ^ 31) : f_X3_cheapestBy N (nI s) (mskF n T C (2 ^ T)) = some (bX (fun w => sumS (n.1 41) w 4 T) (pG n T C s) 2147483647 (2 ^ T)).1 := by
  have h6 : 2 ^ T ≤ 2 ^ 6 := p2 hc.1
  have hcm : Crt (mskF n T C (2 ^ T)) T C := Crt_m hc
  unfold f_X3_cheapestBy
  have key := eq_for (rc := fun k i s' => f_X3_cheapestBy_L10 N (mskF n T C (2 ^ T)) k (nI s) s'.1 s'.2 i) (body := fun k i (s' : Int32 × Int32) => f_X3_cheapestBy_L10b N (mskF n T C (2 ^ T)) (fun _ a b c => k c (a, b)) (nI s) s'.1 s'.2 i) (fun k i s' => fs_X3_cheapestBy_L10 N (mskF n T C (2 ^ T)) k (nI s) s'.1 s'.2 i) 0 (2 ^ T) (fun i => bX (fun w => sumS (n.1 41) w 4 T) (pG n T C s) 2147483647 i) (some (bX (fun w => sumS (n.1 41) w 4 T) (pG n T C s) 2147483647 (2 ^ T)).1) ?_ ?_ N 0 (Nat.le_refl _) (Nat.zero_le _) (by omega)
  · exact key
  · intro k i _ hi
    unfold f_X3_cheapestBy_L10b f_X3_cheapestBy_L60
    have e4 := e_sumX (mskF n T C (2 ^ T)) hc.1 hi (show 4 < 5 by decide)
    rw [hcm.2.2.2.2.2.2.2.1 i hi 4 (by decide), mskF1 (show (41 : Nat) ≠ 36 by decide)] at e4
    rw [e_waysX _ hc.1 hcm.2.2.2.2.2.1, Option.bind_some, if_neg (by rw [nI_leI (by omega) (by omega)]; omega), show (4 : Int32) = nI 4 from rfl, e4, Option.bind_some, gdl_nI (by omega) (by omega), gdl0, nI_clamp (by omega), e_metK n hc hbd hi hs, Option.bind_some, nI_1, bX]
    by_cases q : sumS (n.1 41) i 4 T < (bX (fun w => sumS (n.1 41) w 4 T) (pG n T C s) 2147483647 i).2
    · rw [if_neg ((nle_lt _ _).mpr q)]
      by_cases r : pG n T C s i = true
      · rw [bI_t r, if_neg (by decide), if_pos ⟨q, r⟩]
      · rw [bI_f r, if_pos rfl, if_neg (fun z => r z.2)]
    · rw [if_pos ((nlt_le _ _).mp q), if_neg (fun z => q z.1)]
  · intro k
    unfold f_X3_cheapestBy_L10b
    rw [e_waysX _ hc.1 hcm.2.2.2.2.2.1, Option.bind_some, if_pos (by rw [nI_leI (by omega) (by omega)]; omega)]
theorem best_step (k : Int32 → Int32 → Int32 → Int32 → Option Int32) (N : Nat) (u : xN) (v1 v2 v3 v4 t0 : Int32) {p : Prop} [Decidable p] (h : f_X4_isGood N v4 u = some (bI p)) : f_X4_best_L35 N u k v1 v2 v3 v4 t0 = if p ∧ (v2 = -9 ∨ t0 < v3) then k v1 v4 t0 (v4 + 1) else k v1 v2 v3 (v4 + 1) := by
  unfold f_X4_best_L35 f_X4_best_L58 f_X4_best_L62 f_X4_best_L63 f_X4_best_L76 f_X4_best_L88
  rw [h, Option.bind_some]
  by_cases q : p
  · rw [bI_t q, if_neg (by decide)]
    by_cases r : v2 = -9
    · rw [if_pos r, if_neg (by decide), if_neg (by decide), if_pos ⟨q, Or.inl r⟩]
    · rw [if_neg r]
      by_cases t : v3 ≤ t0
      · rw [if_pos t, if_pos rfl, if_pos rfl, if_neg (fun z => z.2.elim r (fun y => (nle_lt _ _).mpr y t))]
      · rw [if_neg t, if_neg (by decide), if_neg (by decide), if_pos ⟨q, Or.inr ((nle_lt _ _).mp t)⟩]
  · rw [bI_f q, if_pos rfl, if_pos rfl, if_pos rfl, if_neg (fun z => q z.1)]
theorem e_bestM (N : Nat) (hN : 100 ≤ N) (n m : xN) {T C o : Nat} (hc : Crt m T C) (eo : m.1 40 1 = nI o) (ho : o < 2 ^ 31) (hH : ∀ w, HN m (bdM (m.1 40)) T C w = HN n (bdM (n.1 40)) T C w) (e41 : m.1 41 = n.1 41) : f_X4_best N 1 m = some (bM (fun w => sumS (n.1 41) w 4 T) (pG n T C o) (2 ^ T)).1 ∧ f_X4_best N 0 m = some (bM (fun w => nI (pcN w 13)) (pG n T C o) (2 ^ T)).1 := by
  have h6 : 2 ^ T ≤ 2 ^ 6 := p2 hc.1
  constructor
  · unfold f_X4_best
    have key := eq_for (rc := fun k i s' => f_X4_best_L8 N m k 1 s'.1 s'.2 i) (body := fun k i (s' : Int32 × Int32) => f_X4_best_L8b N m (fun _ a b c => k c (a, b)) 1 s'.1 s'.2 i) (fun k i s' => fs_X4_best_L8 N m k 1 s'.1 s'.2 i) 0 (2 ^ T) (fun i => bM (fun w => sumS (n.1 41) w 4 T) (pG n T C o) i) (some (bM (fun w => sumS (n.1 41) w 4 T) (pG n T C o) (2 ^ T)).1) ?_ ?_ N 0 (Nat.le_refl _) (Nat.zero_le _) (by omega)
    · exact key
    · intro k i _ hi
      unfold f_X4_best_L8b
      rw [e_waysM _ hc.1 hc.2.2.2.1, Option.bind_some, if_neg (by rw [nI_leI (by omega) (by omega)]; omega), if_neg (by decide), e_costOf N (by omega) m hc.1 hc.2.2.2.1 (by omega), Option.bind_some, e41, best_step _ N m _ _ _ _ _ (e_goodMK N (by omega) n m hc (by omega) eo ho (hH i)), nI_1, bM]
      split <;> rfl
    · intro k
      unfold f_X4_best_L8b
      rw [e_waysM _ hc.1 hc.2.2.2.1, Option.bind_some, if_pos (by rw [nI_leI (by omega) (by omega)]; omega)]
  · unfold f_X4_best
    have key := eq_for (rc := fun k i s' => f_X4_best_L8 N m k 0 s'.1 s'.2 i) (body := fun k i (s' : Int32 × Int32) => f_X4_best_L8b N m (fun _ a b c => k c (a, b)) 0 s'.1 s'.2 i) (fun k i s' => fs_X4_best_L8 N m k 0 s'.1 s'.2 i) 0 (2 ^ T) (fun i => bM (fun w => nI (pcN w 13)) (pG n T C o) i) (some (bM (fun w => nI (pcN w 13)) (pG n T C o) (2 ^ T)).1) ?_ ?_ N 0 (Nat.le_refl _) (Nat.zero_le _) (by omega)
    · exact key
    · intro k i _ hi
      unfold f_X4_best_L8b
      rw [e_waysM _ hc.1 hc.2.2.2.1, Option.bind_some, if_neg (by rw [nI_leI (by omega) (by omega)]; omega), if_pos rfl, e_bits N (by omega) (by omega), Option.bind_some, best_step _ N m _ _ _ _ _ (e_goodMK N (by omega) n m hc (by omega) eo ho (hH i)), nI_1, bM]
      split <;> rfl
    · intro k
      unfold f_X4_best_L8b
      rw [e_waysM _ hc.1 hc.2.2.2.1, Option.bind_some, if_pos (by rw [nI_leI (by omega) (by omega)]; omega)]
theorem sumS_small {g : Nat → Int32} {T : Nat} (hT : T ≤ 6) (hg : ∀ i, i < T → ∀ w, w < 5 → ∃ q : Nat, q ≤ 9 ∧ g (5 * i + w) = nI q) (way : Nat) {w : Nat} (hw : w < 5) : ∀ i, i ≤ T → ∃ q : Nat, q ≤ 9 * i ∧ sumS g way w i = nI q := by
  intro i
  induction i with
  | zero => intro _; exact ⟨0, by omega, rfl⟩
  | succ i ih =>
    intro hi
    obtain ⟨q, hq, eq⟩ := ih (by omega)
    obtain ⟨r, hr, er⟩ := hg i (by omega) w hw
    rw [sumS, eq]
    split
    · rw [er, nI_add]; exact ⟨q + r, by omega, rfl⟩
    · exact ⟨q, by omega, by rw [Int32.add_zero]⟩
theorem told_same {n : xN} (h : Inv n) : Inv (mI n 39 11 (n.1 39 11)) := by
  have e : mI n 39 11 (n.1 39 11) = n := by
    unfold mI
    refine Prod.ext (funext fun b => funext fun j => ?_) rfl
    simp only [va_up]
    by_cases hb : b = 39
    · simp only [hb, reduceIte]
      by_cases hj : j = 11
      · subst hj; rw [upd_s]
      · rw [upd_o hj]
    · simp only [hb, reduceIte]
  rw [e]; exact h
set_option maxHeartbeats 1000000 in
theorem op_cheapest (N : Nat) (hN : 100 ≤ N) : Op (f_X3_cheapest N) (f_X4_cheapest N) := by
  intro n h
  obtain ⟨T, C, hc⟩ := Crt_of h
  obtain ⟨o, ho, eo, xo, hbd⟩ := On_of h hc
  have h6 : 2 ^ T ≤ 2 ^ 6 := p2 hc.1
  have h8 := p8 hc.2.1
  obtain ⟨t1, t2⟩ := T0 hc
  by_cases hT : T = 0
  · refine ⟨-4, n, n, ?_, ?_, h⟩
    · rw [f_X3_cheapest, if_pos (t1.mpr hT)]
    · rw [f_X4_cheapest, if_pos (t2.mpr hT)]
  · have hcm : Crt (mskF n T C (2 ^ T)) T C := Crt_m hc
    have xo' : (mskF n T C (2 ^ T)).1 19 1 = nI o := by rw [mskF1 (by decide), xo]
    obtain ⟨e1, hor⟩ := bXM (fun w => sumS (n.1 41) w 4 T) (pG n T C o) 2147483647 (W := 2 ^ T) (by omega) (fun w _ => by
      obtain ⟨q, hq, eq⟩ := sumS_small hc.1 (fun i hi w hw => (hc.2.2.2.2.2.2.2.2.2 i hi w hw).2) w (show 4 < 5 by decide) T (Nat.le_refl _)
      have hT6 := hc.1
      rw [eq, i32_lt, nI_toInt (by omega)]
      have : (2147483647 : Int32).toInt = 2147483647 := by decide
      omega) (2 ^ T) (Nat.le_refl _)
    rcases hor with ⟨a1, a2⟩ | ⟨w, hw, pw, a1, a2⟩
    · have hx : f_X3_cheapest N n = some (-9, mskF n T C (2 ^ T)) := by
        rw [f_X3_cheapest, if_neg (fun q => hT (t1.mp q)), e_judge N hN n hc, Option.bind_some, xo', e_cheapBy N hN n hc hbd (by omega), Option.bind_some, a1, if_pos rfl]
        rfl
      have hm : f_X4_cheapest N (mskF n T C (2 ^ T)) = some (-9, mI (mskF n T C (2 ^ T)) 39 11 ((mskF n T C (2 ^ T)).1 39 11)) := by
        rw [f_X4_cheapest, if_neg (fun q => hT ((T0 hcm).2.mp q)), (e_bestM N hN n _ hcm (o := o) (by rw [mskF1 (by decide), eo]) (by omega) (fun _ => rfl) (mskF1 (by decide))).1, Option.bind_some, a2, if_pos rfl]
        rfl
      exact Op_mk hx hm rfl (told_same (Inv_m T C _ h))
    · have hn := nI_n9 (show w < 2 ^ 31 by omega)
      have e4 := e_sumX (mskF n T C (2 ^ T)) hc.1 hw (show 4 < 5 by decide)
      rw [hcm.2.2.2.2.2.2.2.1 w hw 4 (by decide), mskF1 (show (41 : Nat) ≠ 36 by decide)] at e4
      have hx : f_X3_cheapest N n = some (nI w, mI (mskF n T C (2 ^ T)) 0 10 (sumS (n.1 41) w 4 T)) := by
        rw [f_X3_cheapest, if_neg (fun q => hT (t1.mp q)), e_judge N hN n hc, Option.bind_some, xo', e_cheapBy N hN n hc hbd (by omega), Option.bind_some, a1, if_neg hn, show (4 : Int32) = nI 4 from rfl, e4]
        rfl
      have hc1 : Crt (mI (mskF n T C (2 ^ T)) 0 10 (sumS (n.1 41) w 4 T)) T C := Crt_x10 hcm _
      have hm : f_X4_cheapest N (mI (mskF n T C (2 ^ T)) 0 10 (sumS (n.1 41) w 4 T)) = some (nI w, mI (mI (mskF n T C (2 ^ T)) 0 10 (sumS (n.1 41) w 4 T)) 39 11 (sumS (n.1 41) w 4 T)) := by
        rw [f_X4_cheapest, if_neg (fun q => hT ((T0 hc1).2.mp q)), (e_bestM N hN n _ hc1 (o := o) (by simp [mI1, mskF1, eo]) (by omega) (fun _ => rfl) (by simp [mI1, mskF1])).1, Option.bind_some, a2, if_neg hn, e_costOf N (by omega) _ hc.1 hc1.2.2.2.1 (by omega), Option.bind_some]
        rfl
      exact Op_mk hx hm rfl (Inv_told (Inv_m T C _ h) _)
theorem pc6 : ∀ w, w < 64 → pcN w 13 < 7 := by decide +kernel
theorem e_fewX (N : Nat) (hN : 100 ≤ N) (n : xN) {T C s : Nat} (hc : Crt n T C) (hbd : ∀ b, b < 8 → n.1 20 b = bdM (n.1 40) b) (hs : s < 2 ^ 31) (xs : n.1 19 1 = nI s) : f_X3_fewest_L32 N N (-9) 7 0 (mskF n T C (2 ^ T)) = (if (bX (fun w => nI (pcN w 13)) (pG n T C s) 7 (2 ^ T)).1 = -9 then some ((bX (fun w => nI (pcN w 13)) (pG n T C s) 7 (2 ^ T)).1, mskF n T C (2 ^ T)) else some ((bX (fun w => nI (pcN w 13)) (pG n T C s) 7 (2 ^ T)).1, mI (mskF n T C (2 ^ T)) 0 10 (bX (fun w => nI (pcN w 13)) (pG n T C s) 7 (2 ^ T)).2)) := by
  have h6 : 2 ^ T ≤ 2 ^ 6 := p2 hc.1
  have hcm : Crt (mskF n T C (2 ^ T)) T C := Crt_m hc
  have key := eq_for (rc := fun k i s' => f_X3_fewest_L32 N k s'.1 s'.2 i (mskF n T C (2 ^ T))) (body := fun k i (s' : Int32 × Int32) => f_X3_fewest_L32b N (fun a b c _ => k c (a, b)) s'.1 s'.2 i (mskF n T C (2 ^ T))) (fun _ _ _ => rfl) 0 (2 ^ T) (fun i => bX (fun w => nI (pcN w 13)) (pG n T C s) 7 i) (if (bX (fun w => nI (pcN w 13)) (pG n T C s) 7 (2 ^ T)).1 = -9 then some ((bX (fun w => nI (pcN w 13)) (pG n T C s) 7 (2 ^ T)).1, mskF n T C (2 ^ T)) else some ((bX (fun w => nI (pcN w 13)) (pG n T C s) 7 (2 ^ T)).1, mI (mskF n T C (2 ^ T)) 0 10 (bX (fun w => nI (pcN w 13)) (pG n T C s) 7 (2 ^ T)).2)) ?_ ?_ N 0 (Nat.le_refl _) (Nat.zero_le _) (by omega)
  · exact key
  · intro k i _ hi
    unfold f_X3_fewest_L32b f_X3_fewest_L79
    rw [e_waysX _ hc.1 hcm.2.2.2.2.2.1, Option.bind_some, if_neg (by rw [nI_leI (by omega) (by omega)]; omega), e_bitc (by omega), Option.bind_some, gdl_nI (by omega) (by omega), gdl0, nI_clamp (by omega), mskF1 (show (19 : Nat) ≠ 36 by decide), xs, e_metK n hc hbd hi hs, Option.bind_some, nI_1, bX]
    by_cases q : nI (pcN i 13) < (bX (fun w => nI (pcN w 13)) (pG n T C s) 7 i).2
    · rw [if_neg ((nle_lt _ _).mpr q)]
      by_cases r : pG n T C s i = true
      · rw [bI_t r, if_neg (by decide), if_pos ⟨q, r⟩]
      · rw [bI_f r, if_pos rfl, if_neg (fun z => r z.2)]
    · rw [if_pos ((nlt_le _ _).mp q), if_neg (fun z => q z.1)]
  · intro k
    unfold f_X3_fewest_L32b f_X3_fewest_L96
    rw [e_waysX _ hc.1 hcm.2.2.2.2.2.1, Option.bind_some, if_pos (by rw [nI_leI (by omega) (by omega)]; omega)]
set_option maxHeartbeats 1000000 in
theorem op_fewest (N : Nat) (hN : 100 ≤ N) : Op (f_X3_fewest N) (f_X4_fewest N) := by
  intro n h
  obtain ⟨T, C, hc⟩ := Crt_of h
  obtain ⟨o, ho, eo, xo, hbd⟩ := On_of h hc
  have h6 : 2 ^ T ≤ 2 ^ 6 := p2 hc.1
  have h8 := p8 hc.2.1
  obtain ⟨t1, t2⟩ := T0 hc
  by_cases hT : T = 0
  · refine ⟨-4, n, n, ?_, ?_, h⟩
    · rw [f_X3_fewest, if_pos (t1.mpr hT)]
    · rw [f_X4_fewest, if_pos (t2.mpr hT)]
  · have hcm : Crt (mskF n T C (2 ^ T)) T C := Crt_m hc
    have hx0 : f_X3_fewest N n = f_X3_fewest_L32 N N (-9) 7 0 (mskF n T C (2 ^ T)) := by
      rw [f_X3_fewest, if_neg (fun q => hT (t1.mp q)), e_judge N hN n hc, Option.bind_some]
    rw [e_fewX N hN n hc hbd (show o < 2 ^ 31 by omega) xo] at hx0
    obtain ⟨e1, hor⟩ := bXM (fun w => nI (pcN w 13)) (pG n T C o) 7 (W := 2 ^ T) (by omega) (fun w hw => by
      have := pc6 w (by omega)
      rw [show (7 : Int32) = nI 7 from rfl, nI_ltI (by omega) (by omega)]
      exact this) (2 ^ T) (Nat.le_refl _)
    rcases hor with ⟨a1, a2⟩ | ⟨w, hw, pw, a1, a2⟩
    · rw [a1, if_pos rfl] at hx0
      have hm : f_X4_fewest N (mskF n T C (2 ^ T)) = some (-9, mI (mskF n T C (2 ^ T)) 39 11 ((mskF n T C (2 ^ T)).1 39 11)) := by
        rw [f_X4_fewest, if_neg (fun q => hT ((T0 hcm).2.mp q)), (e_bestM N hN n _ hcm (o := o) (by rw [mskF1 (by decide), eo]) (by omega) (fun _ => rfl) (mskF1 (by decide))).2, Option.bind_some, a2, if_pos rfl]
        rfl
      exact Op_mk hx0 hm rfl (told_same (Inv_m T C _ h))
    · have hn := nI_n9 (show w < 2 ^ 31 by omega)
      rw [a1, if_neg hn] at hx0
      have hc1 : Crt (mI (mskF n T C (2 ^ T)) 0 10 (nI (pcN w 13))) T C := Crt_x10 hcm _
      have hm : f_X4_fewest N (mI (mskF n T C (2 ^ T)) 0 10 (nI (pcN w 13))) = some (nI w, mI (mI (mskF n T C (2 ^ T)) 0 10 (nI (pcN w 13))) 39 11 (nI (pcN w 13))) := by
        rw [f_X4_fewest, if_neg (fun q => hT ((T0 hc1).2.mp q)), (e_bestM N hN n _ hc1 (o := o) (by simp [mI1, mskF1, eo]) (by omega) (fun _ => rfl) (by simp [mI1, mskF1])).2, Option.bind_some, a2, if_neg hn, e_bits N (by omega) (show w < 2 ^ 31 by omega), Option.bind_some]
        rfl
      exact Op_mk hx0 hm rfl (Inv_told (Inv_m T C _ h) _)
def nR (c : Nat → Int32) : Nat → Int32 × Int32
  | 0 => (0, -1)
  | i + 1 => if c i ≤ (nR c i).2 then nR c i else (nI i, c i)
set_option maxHeartbeats 1000000 in
theorem op_nearest (N : Nat) (hN : 100 ≤ N) : Op (f_X3_nearest N) (f_X4_nearest N) := by
  intro n h
  obtain ⟨T, C, hc⟩ := Crt_of h
  obtain ⟨o, ho, eo, xo, hbd⟩ := On_of h hc
  have h6 : 2 ^ T ≤ 2 ^ 6 := p2 hc.1
  have h8 := p8 hc.2.1
  obtain ⟨t1, t2⟩ := T0 hc
  by_cases hT : T = 0
  · refine ⟨-4, n, n, ?_, ?_, h⟩
    · rw [f_X3_nearest, if_pos (t1.mpr hT)]
    · rw [f_X4_nearest, if_pos (t2.mpr hT)]
  · have hcm : Crt (mskF n T C (2 ^ T)) T C := Crt_m hc
    have hcl : ∀ w, HN n (bdM (n.1 40)) T C w &&& o < 8192 := fun w => Nat.lt_of_le_of_lt Nat.and_le_left (by have := HN_lt n (bdM (n.1 40)) T C w; omega)
    generalize hcc : (fun w => nI (pcN (HN n (bdM (n.1 40)) T C w &&& o) 13)) = c
    have hx : f_X3_nearest N n = some ((nR c (2 ^ T)).1, mI (mskF n T C (2 ^ T)) 0 10 (nR c (2 ^ T)).2) := by
      rw [f_X3_nearest, if_neg (fun q => hT (t1.mp q)), e_judge N hN n hc, Option.bind_some]
      have key := eq_for (rc := fun k i s' => f_X3_nearest_L30 N k s'.1 s'.2 i (mskF n T C (2 ^ T))) (body := fun k i (s' : Int32 × Int32) => f_X3_nearest_L30b N (fun a b c _ => k c (a, b)) s'.1 s'.2 i (mskF n T C (2 ^ T))) (fun _ _ _ => rfl) 0 (2 ^ T) (fun i => nR c i) (some ((nR c (2 ^ T)).1, mI (mskF n T C (2 ^ T)) 0 10 (nR c (2 ^ T)).2)) ?_ ?_ N 0 (Nat.le_refl _) (Nat.zero_le _) (by omega)
      · exact key
      · intro k i _ hi
        unfold f_X3_nearest_L30b f_X3_nearest_L71
        have hl := HN_lt n (bdM (n.1 40)) T C i
        rw [e_waysX _ hc.1 hcm.2.2.2.2.2.1, Option.bind_some, if_neg (by rw [nI_leI (by omega) (by omega)]; omega), gdl_nI (by omega) (by omega), gdl0, nI_clamp (by omega), mskF36 hi, HN_c hc hbd, mskF1 (show (19 : Nat) ≠ 36 by decide), xo, nI_and (by omega) (by omega), e_bitc (hcl i), Option.bind_some, nI_1, nR, ← hcc]
        by_cases q : nI (pcN (HN n (bdM (n.1 40)) T C i &&& o) 13) ≤ (nR (fun w => nI (pcN (HN n (bdM (n.1 40)) T C w &&& o) 13)) i).2
        · rw [if_pos q, if_pos q]
        · rw [if_neg q, if_neg q]
      · intro k
        unfold f_X3_nearest_L30b
        rw [e_waysX _ hc.1 hcm.2.2.2.2.2.1, Option.bind_some, if_pos (by rw [nI_leI (by omega) (by omega)]; omega)]
    have hm : f_X4_nearest N (mI (mskF n T C (2 ^ T)) 0 10 (nR c (2 ^ T)).2) = some ((nR c (2 ^ T)).1, mI (mI (mskF n T C (2 ^ T)) 0 10 (nR c (2 ^ T)).2) 39 11 (nR c (2 ^ T)).2) := by
      have hc1 : Crt (mI (mskF n T C (2 ^ T)) 0 10 (nR c (2 ^ T)).2) T C := Crt_x10 hcm _
      have e40 : (mI (mskF n T C (2 ^ T)) 0 10 (nR c (2 ^ T)).2).1 40 = n.1 40 := by simp [mI1, mskF1]
      have hH : ∀ w, HN (mI (mskF n T C (2 ^ T)) 0 10 (nR c (2 ^ T)).2) (bdM ((mI (mskF n T C (2 ^ T)) 0 10 (nR c (2 ^ T)).2).1 40)) T C w = HN n (bdM (n.1 40)) T C w := fun w => rfl
      generalize mI (mskF n T C (2 ^ T)) 0 10 (nR c (2 ^ T)).2 = m at hc1 e40 hH ⊢
      rw [f_X4_nearest, if_neg (fun q => hT ((T0 hc1).2.mp q))]
      have key := eq_forG (rc := f_X4_nearest_L16 N) (body := f_X4_nearest_L16b N) (fun f i (s' : Int32 × Int32) => f s'.1 s'.2 i m) (fun _ => rfl) 0 (2 ^ T) (fun i => nR c i) (some ((nR c (2 ^ T)).1, mI m 39 11 (nR c (2 ^ T)).2)) ?_ ?_ N 0 (Nat.le_refl _) (Nat.zero_le _) (by omega)
      · exact key
      · intro k i _ hi
        unfold f_X4_nearest_L16b f_X4_nearest_L52 f_X4_nearest_L65
        have hl := HN_lt n (bdM (n.1 40)) T C i
        rw [e_waysM _ hc.1 hc1.2.2.2.1, Option.bind_some, if_neg (by rw [nI_leI (by omega) (by omega)]; omega), e_heldByM N (by omega) m hc1 (by omega), hH, Option.bind_some, gdlT (show inb 1 1480 = true by decide), gdl0, show Int32.toNatClampNeg 1 = 1 by decide, e40, eo, nI_and (by omega) (by omega), e_bits N (by omega) (Nat.lt_trans (hcl i) (by decide)), Option.bind_some, nI_1, nR, ← hcc]
        by_cases q : nI (pcN (HN n (bdM (n.1 40)) T C i &&& o) 13) ≤ (nR (fun w => nI (pcN (HN n (bdM (n.1 40)) T C w &&& o) 13)) i).2
        · rw [if_pos q, if_pos q, if_pos q]
        · rw [if_neg q, if_neg q, if_neg q]
      · intro k
        unfold f_X4_nearest_L16b
        rw [e_waysM _ hc.1 hc1.2.2.2.1, Option.bind_some, if_pos (by rw [nI_leI (by omega) (by omega)]; omega)]
    exact Op_mk hx hm rfl (Inv_told (Inv_m T C _ h) _)
