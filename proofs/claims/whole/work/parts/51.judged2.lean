/-! ===== promise 42: judged, its loops ===== -/
theorem i_add0 (a : Int32) : a + 0 = a := by apply Int32.toBitVec_inj.mp; simp
def jB (n : xN) (T r k : Nat) (bd : Nat → Int32) (i : Nat) : Bool := hbK n bd T (clL n r (2 * i)).toNatClampNeg k == decide (clL n r (2 * i + 1) = 1)
theorem hbK_same {n m : xN} {bd : Nat → Int32} {T w k : Nat} (e41 : m.1 41 = n.1 41) (e42 : m.1 42 = n.1 42) (e43 : m.1 43 = n.1 43) (e44 : m.1 44 = n.1 44) : hbK m bd T w k = hbK n bd T w k := by
  unfold hbK kn sc tr
  rw [e41, e42, e43, e44]
theorem okJ_of {n : xN} {T r i : Nat} (hT : T ≤ 6) (h : okJ n T r i = true) : ∃ w : Nat, w < 2 ^ T ∧ clL n r (2 * i) = nI w ∧ (clL n r (2 * i)).toNatClampNeg = w := by
  unfold okJ at h
  obtain ⟨⟨a, b⟩, -⟩ := of_decide_eq_true h
  have h6 : 2 ^ T ≤ 2 ^ 6 := p2 hT
  obtain ⟨w, hw, e⟩ := i32_of (k := 2 ^ T) a b
  exact ⟨w, hw, e, by rw [e, nI_clamp (by omega)]⟩
set_option maxHeartbeats 1000000 in
theorem e_jX (N : Nat) (hN : 100 ≤ N) (n u : xN) {T C r s k : Nat} {bd : Nat → Int32} (hc : Crt u T C) (hk : k < C) (hr : r < 6) (hs : s ≤ 40) (e3 : u.1 3 r = nI s) (e11 : u.1 1 1 = 40) (ec : ∀ i, i < s → u.1 2 (40 * r + i) = n.1 46 (40 * r + i)) (hj : andA (okJ n T r) (s / 2) = true) (eb : ∀ b, b < 8 → u.1 37 b = bd b) (e41 : u.1 41 = n.1 41) (e42 : u.1 42 = n.1 42) (e43 : u.1 43 = n.1 43) (e44 : u.1 44 = n.1 44) :
    f_X3_isJudgedByTrial N (nI k) (nI r) u = some (bI (andA (jB n T r k bd) (s / 2) = true)) := by
  have h8 := hc.2.1
  obtain ⟨ka, -, k10, kt, -, -, -, ksec, -, -⟩ := hc.2.2.2.2.2.2.2.2.1 k hk
  unfold f_X3_isJudgedByTrial
  have key := eq_forR (rc := f_X3_isJudgedByTrial_L2 N u) (body := f_X3_isJudgedByTrial_L2b N u) (fun f i (_ : Unit) => f (nI k) (nI r) i) (fun _ => rfl) (s / 2) (fun _ => ()) (fun i => some (bI (allR (jB n T r k bd) (s / 2) (s / 2 - i) = true))) ?_ ?_ N 0 (Nat.zero_le _) (by omega)
  · rw [← allR_A]; exact key
  · intro f i hi hk1
    show f_X3_isJudgedByTrial_L2b N u f (nI k) (nI r) (nI i) = _
    have hk2 : f (nI k) (nI r) (nI (i + 1)) = _ := hk1
    obtain ⟨w, hw, ew, ew2⟩ := okJ_of hc.1 ((andA_iff _ _).mp hj i hi)
    unfold f_X3_isJudgedByTrial_L2b f_X3_isJudgedByTrial_L74
    have ew3 : n.1 46 (40 * r + 2 * i) = nI w := ew
    rw [e_size1 u hr, Option.bind_some, gdlT nz2, gdl0, e3, e_d2 hs, if_neg (by rw [nI_leI (by omega) (by omega)]; omega), e_2i, nI_1, nI_1, gdl_nI (by omega) (show k < 8 by omega), gdl0, nI_clamp (by omega), e_cell1 u e11 hr (show 2 * i < 40 by omega), Option.bind_some, e_cell1 u e11 hr (show 2 * i + 1 < 40 by omega), ec _ (by omega), ec _ (by omega), ew3, k10, e_heldAsK37 hc hw hk ka, Option.bind_some, Option.bind_some, allR_s _ hi, hk2]
    have eh : hB (u.1 37) (vS (u.1 41) T w) (kn u k) (tr u k) (sc u k) = hbK n bd T w k := by
      rw [hB_c eb kt (sec_lt ksec), ← hbK_same e41 e42 e43 e44]; rfl
    rw [eh]
    unfold jB
    rw [ew2]
    show _ = some (bI (((hbK n bd T w k == decide (n.1 46 (40 * r + (2 * i + 1)) = 1)) && allR (fun i => hbK n bd T (clL n r (2 * i)).toNatClampNeg k == decide (clL n r (2 * i + 1) = 1)) (s / 2) (s / 2 - (i + 1))) = true))
    by_cases a : n.1 46 (40 * r + (2 * i + 1)) = 1
    · rw [if_pos a, decide_eq_true a]
      cases hbK n bd T w k <;> simp [bI] <;> rfl
    · rw [if_neg a, decide_eq_false a]
      cases hbK n bd T w k <;> simp [bI] <;> rfl
  · intro f
    show f_X3_isJudgedByTrial_L2b N u f (nI k) (nI r) (nI (s / 2)) = _
    unfold f_X3_isJudgedByTrial_L2b
    rw [e_size1 u hr, Option.bind_some, gdlT nz2, gdl0, e3, e_d2 hs, if_pos (by rw [nI_leI (by omega) (by omega)]; omega), Nat.sub_self]; rfl
set_option maxHeartbeats 1000000 in
theorem e_jM (N : Nat) (hN : 100 ≤ N) (n u : xN) {T C r s k : Nat} (hc : Crt u T C) (hk : k < C) (hr : r < 6) (hs : s ≤ 40) (h2 : s % 2 = 0) (e3 : u.1 45 r = nI s) (ec : u.1 46 = n.1 46) (hj : andA (okJ n T r) (s / 2) = true) (e41 : u.1 41 = n.1 41) (e42 : u.1 42 = n.1 42) (e43 : u.1 43 = n.1 43) (e44 : u.1 44 = n.1 44) :
    f_X4_isJudged N (nI k) (nI r) u = some (bI (andA (jB n T r k (bdM (u.1 40))) (s / 2) = true)) := by
  have h6 : 2 ^ T ≤ 2 ^ 6 := p2 hc.1
  unfold f_X4_isJudged
  have key := eq_forG (rc := f_X4_isJudged_L5 N u) (body := f_X4_isJudged_L5b N u) (fun f _ (s : Int32 × Int32) => f (nI k) (nI r) s.1 s.2) (fun _ => rfl) 0 (s / 2) (fun i => (bI (andA (jB n T r k (bdM (u.1 40))) i = true), nI (2 * i))) (some (bI (andA (jB n T r k (bdM (u.1 40))) (s / 2) = true))) ?_ ?_ N 0 (Nat.le_refl _) (Nat.zero_le _) (by omega)
  · exact key
  · intro f i _ hi
    show f_X4_isJudged_L5b N u f (nI k) (nI r) (bI (andA (jB n T r k (bdM (u.1 40))) i = true)) (nI (2 * i)) = f (nI k) (nI r) (bI ((andA (jB n T r k (bdM (u.1 40))) i && jB n T r k (bdM (u.1 40)) i) = true)) (nI (2 * (i + 1)))
    obtain ⟨w, hw, ew, ew2⟩ := okJ_of hc.1 ((andA_iff _ _).mp hj i hi)
    have ew3 : n.1 46 (40 * r + 2 * i) = nI w := ew
    unfold f_X4_isJudged_L5b f_X4_isJudged_L60 f_X4_isJudged_L67 f_X4_isJudged_L68
    rw [gdl_nI (by omega) hr, gdl0, nI_clamp (by omega), e3, if_neg (by rw [nI_leI (by omega) (by omega)]; omega), (e_ix1 hr (show 2 * i < 40 by omega)).2, nI_1, gdl_nI (by omega) (by omega), gdl0, nI_clamp (by omega), nI_clamp (by omega), ec, ew3, e_holdsIn N (by omega) u hc (by omega) hk, Option.bind_some, gdl_nI (by omega) (by omega), gdl0, e_n2, hbK_same e41 e42 e43 e44]
    rw [show 2 * i + 2 = 2 * (i + 1) by omega]
    cases ha : andA (jB n T r k (bdM (u.1 40))) i
    · rfl
    · rw [bI_t rfl, if_neg (by decide), Bool.true_and]
      unfold jB
      rw [ew2]
      show _ = f (nI k) (nI r) (bI ((hbK n (bdM (u.1 40)) T w k == decide (n.1 46 (40 * r + 2 * i + 1) = 1)) = true)) (nI (2 * (i + 1)))
      by_cases a : n.1 46 (40 * r + 2 * i + 1) = 1
      · rw [if_pos a, decide_eq_true a]
        cases hbK n (bdM (u.1 40)) T w k <;> simp [bI]
      · rw [if_neg a, decide_eq_false a]
        cases hbK n (bdM (u.1 40)) T w k <;> simp [bI]
  · intro f
    show f_X4_isJudged_L5b N u f (nI k) (nI r) (bI (andA (jB n T r k (bdM (u.1 40))) (s / 2) = true)) (nI (2 * (s / 2))) = _
    unfold f_X4_isJudged_L5b
    rw [gdl_nI (by omega) hr, gdl0, nI_clamp (by omega), e3, if_pos (by rw [nI_leI (by omega) (by omega)]; omega), gdl_bI, gdl0]
def bd2 (n : xN) (t : Nat) (x : Nat × Nat) : Nat → Int32 := upd (upd (bdM (n.1 40)) (2 * t) (nI x.1)) (2 * t + 1) (nI x.2)
def jP (n : xN) (T r k t s : Nat) (x : Nat × Nat) : Bool := andA (jB n T r k (bd2 n t x)) (s / 2)
def g10 (x : Nat × Nat) : Int32 := (10 : Int32) * nI x.1 + nI x.2
def Trl (n : xN) (t : Nat) (u : xN) : Prop := (∀ b, b ≠ 37 → u.1 b = n.1 b) ∧ u.2 = n.2 ∧ ∀ b, b < 8 → b ≠ 2 * t → b ≠ 2 * t + 1 → u.1 37 b = bdM (n.1 40) b
theorem Trl_s {n u : xN} {t : Nat} (h : Trl n t u) (x : Nat × Nat) : Trl n t (mI (mI u 37 (2 * t) (nI x.1)) 37 (2 * t + 1) (nI x.2)) ∧ ∀ b, b < 8 → (mI (mI u 37 (2 * t) (nI x.1)) 37 (2 * t + 1) (nI x.2)).1 37 b = bd2 n t x b := by
  obtain ⟨h1, h2, h3⟩ := h
  refine ⟨⟨fun b hb => by rw [mI1, if_neg hb, mI1, if_neg hb, h1 b hb], h2, fun b hb n1 n2 => by rw [mI1, if_pos rfl, upd_o n2, mI1, if_pos rfl, upd_o n1, h3 b hb n1 n2]⟩, fun b hb => ?_⟩
  rw [mI1, if_pos rfl, mI1, if_pos rfl]
  unfold bd2
  by_cases n2 : b = 2 * t + 1
  · rw [n2, upd_s, upd_s]
  · rw [upd_o n2, upd_o n2]
    by_cases n1 : b = 2 * t
    · rw [n1, upd_s, upd_s]
    · rw [upd_o n1, upd_o n1, h3 b hb n1 n2]
theorem Trl_crt {n u : xN} {t T C : Nat} (h : Trl n t u) (hc : Crt n T C) : Crt u T C := Crt_keep hc ⟨by rw [h.1 _ (by decide)], by rw [h.1 _ (by decide)]⟩ (h.1 _ (by decide)) (h.1 _ (by decide)) (h.1 _ (by decide)) (h.1 _ (by decide)) (h.1 _ (by decide)) (h.1 _ (by decide)) (h.1 _ (by decide)) (h.1 _ (by decide)) (h.1 _ (by decide)) (h.1 _ (by decide))
set_option maxHeartbeats 1000000 in
theorem jud_inX (N : Nat) (hN : 100 ≤ N) {n : xN} {T C r s k t : Nat} (hc : Crt n T C) (hk : k < C) (ht : t < 4) (hr : r < 6) (hs : s ≤ 40) (e3 : n.1 3 r = nI s) (e11 : n.1 1 1 = 40) (ec : ∀ i, i < s → n.1 2 (40 * r + i) = n.1 46 (40 * r + i)) (hj : andA (okJ n T r) (s / 2) = true) (rec : Int32 → Int32 → Int32 → Int32 → Int32 → Int32 → xN → Option (Int32 × xN)) {l : Nat} (hl : l ≤ 4) :
    ∀ (d f : Nat), l + d ≤ 5 → d < f → ∀ (q : Int32 × Int32) (u : xN), Trl n t u → ∃ u', Trl n t u' ∧ f_X3_judged_L55 N rec f (nI k) (nI r) (nI t) q.1 q.2 (nI l) (nI (l + d)) u = rec (nI k) (nI r) (nI t) ((rwL l d).foldr (stX (jP n T r k t s) g10) q).1 ((rwL l d).foldr (stX (jP n T r k t s) g10) q).2 (dn l) u' := by
  intro d
  induction d with
  | zero =>
    intro f hd hf q u hu
    cases f with
    | zero => omega
    | succ f =>
      refine ⟨u, hu, ?_⟩
      show f_X3_judged_L55b N rec (f_X3_judged_L55 N rec f) (nI k) (nI r) (nI t) q.1 q.2 (nI l) (nI (l + 0)) u = _
      unfold f_X3_judged_L55b
      rw [if_pos (by rw [nI_leI (by omega) (by omega)]; omega), dn_p]
      rfl
  | succ d ih =>
    intro f hd hf q u hu
    cases f with
    | zero => omega
    | succ f =>
      obtain ⟨hu1, eb⟩ := Trl_s hu (l, l + (d + 1))
      obtain ⟨u', hu', e⟩ := ih f (by omega) (by omega) (stX (jP n T r k t s) g10 (l, l + (d + 1)) q) _ hu1
      refine ⟨u', hu', ?_⟩
      rw [rwL, List.foldr_append, List.foldr_cons, List.foldr_nil, show l + d + 1 = l + (d + 1) by omega, ← e]
      show f_X3_judged_L55b N rec (f_X3_judged_L55 N rec f) (nI k) (nI r) (nI t) q.1 q.2 (nI l) (nI (l + (d + 1))) u = _
      unfold f_X3_judged_L55b f_X3_judged_L108
      rw [if_neg (by rw [nI_leI (by omega) (by omega)]; omega), e_2i, nI_1, gdl_nI (by omega) (by omega), gdl_nI (by omega) (by omega), gdl0, nI_clamp (by omega), nI_clamp (by omega)]
      rw [e_jX N hN n _ (bd := bd2 n t (l, l + (d + 1))) (Trl_crt hu1 hc) hk hr hs (by rw [hu1.1 _ (by decide)]; exact e3) (by rw [hu1.1 _ (by decide)]; exact e11) (fun i hi => by rw [hu1.1 _ (by decide)]; exact ec i hi) hj eb (hu1.1 _ (by decide)) (hu1.1 _ (by decide)) (hu1.1 _ (by decide)) (hu1.1 _ (by decide)), Option.bind_some, show l + (d + 1) = l + d + 1 by omega, pk_m1]
      unfold stX
      show _ = f_X3_judged_L55 N rec f (nI k) (nI r) (nI t) (if jP n T r k t s (l, l + d + 1) = true then (q.1 + 1, g10 (l, l + d + 1)) else q).1 (if jP n T r k t s (l, l + d + 1) = true then (q.1 + 1, g10 (l, l + d + 1)) else q).2 (nI l) (nI (l + d)) _
      by_cases a : andA (jB n T r k (bd2 n t (l, l + d + 1))) (s / 2) = true
      · have a' : jP n T r k t s (l, l + d + 1) = true := a
        rw [bI_t a, if_neg (by decide), if_pos a']; rfl
      · have a' : ¬ jP n T r k t s (l, l + d + 1) = true := a
        rw [bI_f a, if_pos rfl, if_neg a']
theorem jud_outX (N : Nat) (hN : 100 ≤ N) {n : xN} {T C r s k t : Nat} (hc : Crt n T C) (hk : k < C) (ht : t < 4) (hr : r < 6) (hs : s ≤ 40) (e3 : n.1 3 r = nI s) (e11 : n.1 1 1 = 40) (ec : ∀ i, i < s → n.1 2 (40 * r + i) = n.1 46 (40 * r + i)) (hj : andA (okJ n T r) (s / 2) = true) :
    ∀ (l f : Nat), l ≤ 5 → l < f → ∀ (q : Int32 × Int32) (u : xN), Trl n t u → ∃ u', Trl n t u' ∧ f_X3_judged_L47 N f (nI k) (nI r) (nI t) q.1 q.2 (dn l) u = some (((alL 6 l).foldr (stX (jP n T r k t s) g10) q).1, mI u' 0 10 ((alL 6 l).foldr (stX (jP n T r k t s) g10) q).2) := by
  intro l
  induction l with
  | zero =>
    intro f hd hf q u hu
    cases f with
    | zero => omega
    | succ f =>
      refine ⟨u, hu, ?_⟩
      show f_X3_judged_L47b N (f_X3_judged_L47 N f) (nI k) (nI r) (nI t) q.1 q.2 (dn 0) u = _
      unfold f_X3_judged_L47b
      rw [if_pos dn_0]
      rfl
  | succ l ih =>
    intro f hd hf q u hu
    cases f with
    | zero => omega
    | succ f =>
      obtain ⟨u1, hu1, e1⟩ := jud_inX N hN hc hk ht hr hs e3 e11 ec hj (f_X3_judged_L47 N f) (show l ≤ 4 by omega) (6 - 1 - l) N (by omega) (by omega) q u hu
      obtain ⟨u2, hu2, e2⟩ := ih f (by omega) (by omega) ((rwL l (6 - 1 - l)).foldr (stX (jP n T r k t s) g10) q) u1 hu1
      refine ⟨u2, hu2, ?_⟩
      rw [alL, List.foldr_append, ← e2, ← e1]
      show f_X3_judged_L47b N (f_X3_judged_L47 N f) (nI k) (nI r) (nI t) q.1 q.2 (dn (l + 1)) u = _
      unfold f_X3_judged_L47b
      rw [dn_s, if_neg (nI_pos (by omega)), show l + (6 - 1 - l) = 5 by omega]
      rfl
def TrM (n : xN) (t : Nat) (a : Int32) (u : xN) : Prop := (∀ b, b ≠ 39 → b ≠ 40 → u.1 b = n.1 b) ∧ u.2 = n.2 ∧ u.1 39 = upd (n.1 39) 11 a ∧ ∀ j, j ≠ 2 + 2 * t → j ≠ 2 + 2 * t + 1 → u.1 40 j = n.1 40 j
theorem TrM_s {n u : xN} {t : Nat} {a : Int32} (h : TrM n t a u) (x : Nat × Nat) : TrM n t a (mI (mI u 40 (2 + 2 * t) (nI x.1)) 40 (2 + 2 * t + 1) (nI x.2)) ∧ bdM ((mI (mI u 40 (2 + 2 * t) (nI x.1)) 40 (2 + 2 * t + 1) (nI x.2)).1 40) = bd2 n t x := by
  obtain ⟨h1, h2, h3, h4⟩ := h
  refine ⟨⟨fun b hb hb2 => by rw [mI1, if_neg hb2, mI1, if_neg hb2, h1 b hb hb2], h2, by rw [mI1, if_neg (by decide), mI1, if_neg (by decide), h3], fun b n1 n2 => by rw [mI1, if_pos rfl, upd_o n2, mI1, if_pos rfl, upd_o n1, h4 b n1 n2]⟩, funext fun b => ?_⟩
  rw [mI1, if_pos rfl, mI1, if_pos rfl]
  unfold bd2 bdM
  by_cases n2 : b = 2 * t + 1
  · rw [n2, upd_s, show 2 + (2 * t + 1) = 2 + 2 * t + 1 by omega, upd_s]
  · rw [upd_o n2, upd_o (by omega)]
    by_cases n1 : b = 2 * t
    · rw [n1, upd_s, upd_s]
    · rw [upd_o n1, upd_o (by omega), h4 _ (by omega) (by omega)]
theorem TrM_a {n u : xN} {t : Nat} {a : Int32} (h : TrM n t a u) (b : Int32) : TrM n t b (mI u 39 11 b) := by
  obtain ⟨h1, h2, h3, h4⟩ := h
  refine ⟨fun c n1 n2 => by rw [mI1, if_neg n1, h1 c n1 n2], h2, ?_, fun j n1 n2 => by rw [mI1, if_neg (by decide), h4 j n1 n2]⟩
  rw [mI1, if_pos rfl, h3]
  funext j
  unfold upd
  split <;> rfl
theorem TrM_e {n u : xN} {t : Nat} {a : Int32} (h : TrM n t a u) : mI (mI u 40 (2 + 2 * t) (n.1 40 (2 + 2 * t))) 40 (2 + 2 * t + 1) (n.1 40 (2 + 2 * t + 1)) = mI n 39 11 a := by
  obtain ⟨h1, h2, h3, h4⟩ := h
  refine Prod.ext (funext fun b => ?_) h2
  rw [mI1, mI1, mI1]
  by_cases e : b = 40
  · subst e
    rw [if_pos rfl, if_pos rfl, mI1, if_neg (by decide)]
    funext j
    by_cases n2 : j = 2 + 2 * t + 1
    · rw [n2, upd_s]
    · rw [upd_o n2]
      by_cases n1 : j = 2 + 2 * t
      · rw [n1, upd_s]
      · rw [upd_o n1, h4 j n1 n2]
  · rw [if_neg e, mI1, if_neg e]
    by_cases e2 : b = 39
    · subst e2; rw [if_pos rfl, h3]
    · rw [if_neg e2, h1 b e2 e]
theorem TrM_crt {n u : xN} {t T C : Nat} {a : Int32} (h : TrM n t a u) (hc : Crt n T C) : Crt u T C := Crt_keep hc ⟨by rw [h.2.2.1, upd_o (by decide)], by rw [h.2.2.1, upd_o (by decide)]⟩ (h.1 _ (by decide) (by decide)) (h.1 _ (by decide) (by decide)) (h.1 _ (by decide) (by decide)) (h.1 _ (by decide) (by decide)) (h.1 _ (by decide) (by decide)) (h.1 _ (by decide) (by decide)) (h.1 _ (by decide) (by decide)) (h.1 _ (by decide) (by decide)) (h.1 _ (by decide) (by decide)) (h.1 _ (by decide) (by decide))
set_option maxHeartbeats 2000000 in
theorem jud_inM (N : Nat) (hN : 100 ≤ N) {n : xN} {T C r s k t : Nat} (hc : Crt n T C) (hk : k < C) (ht : t < 4) (hr : r < 6) (hs : s ≤ 40) (h2 : s % 2 = 0) (e3 : n.1 45 r = nI s) (hj : andA (okJ n T r) (s / 2) = true) (y0 y1 : Int32) (rec : Int32 → Int32 → Int32 → Int32 → Int32 → Int32 → Int32 → xN → Option (Int32 × xN)) {l : Nat} (hl : l ≤ 4) (q : Int32 × Int32) :
    ∀ (e j f : Nat), l + 1 + j + e = 6 → e < f → ∀ (u : xN), TrM n t ((rwL l j).foldl (stM (jP n T r k t s) g10) q).2 u → ∃ u', TrM n t ((rwL l (5 - l)).foldl (stM (jP n T r k t s) g10) q).2 u' ∧ f_X4_judged_L116 N rec f (nI k) (nI r) (nI (2 + 2 * t)) y0 y1 ((rwL l j).foldl (stM (jP n T r k t s) g10) q).1 (nI l) (nI (l + 1 + j)) u = rec (nI k) (nI r) (nI (2 + 2 * t)) y0 y1 ((rwL l (5 - l)).foldl (stM (jP n T r k t s) g10) q).1 (nI (l + 1)) u' := by
  intro e
  induction e with
  | zero =>
    intro j f he hf u hu
    have ej : j = 5 - l := by omega
    subst ej
    cases f with
    | zero => omega
    | succ f =>
      refine ⟨u, hu, ?_⟩
      show f_X4_judged_L116b N rec (f_X4_judged_L116 N rec f) (nI k) (nI r) (nI (2 + 2 * t)) y0 y1 _ (nI l) (nI (l + 1 + (5 - l))) u = _
      unfold f_X4_judged_L116b
      rw [if_pos (by rw [show (6 : Int32) = nI 6 from rfl, nI_leI (by omega) (by omega)]; omega), nI_1]
  | succ e ih =>
    intro j f he hf u hu
    cases f with
    | zero => omega
    | succ f =>
      generalize hQ : (rwL l j).foldl (stM (jP n T r k t s) g10) q = Q at hu ⊢
      obtain ⟨hu1, eb⟩ := TrM_s hu (l, l + 1 + j)
      generalize hu1e : mI (mI u 40 (2 + 2 * t) (nI (l, l + 1 + j).1)) 40 (2 + 2 * t + 1) (nI (l, l + 1 + j).2) = u1 at hu1 eb
      have hrw : (rwL l (j + 1)).foldl (stM (jP n T r k t s) g10) q = stM (jP n T r k t s) g10 Q (l, l + 1 + j) := by
        rw [rwL, List.foldl_append, hQ, List.foldl_cons, List.foldl_nil, show l + j + 1 = l + 1 + j by omega]
      have hu2 := TrM_a hu1 (stM (jP n T r k t s) g10 Q (l, l + 1 + j)).2
      obtain ⟨u', hu', e'⟩ := ih (j + 1) f (by omega) (by omega) _ (by rw [hrw]; exact hu2)
      refine ⟨u', hu', ?_⟩
      rw [← e', hrw]
      show f_X4_judged_L116b N rec (f_X4_judged_L116 N rec f) (nI k) (nI r) (nI (2 + 2 * t)) y0 y1 Q.1 (nI l) (nI (l + 1 + j)) u = _
      unfold f_X4_judged_L116b f_X4_judged_L171 f_X4_judged_L175 f_X4_judged_L190
      rw [if_neg (by rw [show (6 : Int32) = nI 6 from rfl, nI_leI (by omega) (by omega)]; omega), nI_1, gdl_nI (by omega) (by omega), gdl_nI (by omega) (by omega), gdl0, nI_clamp (by omega), nI_clamp (by omega)]
      rw [show mI (mI u 40 (2 + 2 * t) (nI l)) 40 (2 + 2 * t + 1) (nI (l + 1 + j)) = u1 from hu1e]
      have e11 : u1.1 39 11 = Q.2 := by rw [hu1.2.2.1, upd_s]
      rw [e_jM N hN n u1 (TrM_crt hu1 hc) hk hr hs h2 (by rw [hu1.1 _ (by decide) (by decide)]; exact e3) (hu1.1 _ (by decide) (by decide)) hj (hu1.1 _ (by decide) (by decide)) (hu1.1 _ (by decide) (by decide)) (hu1.1 _ (by decide) (by decide)) (hu1.1 _ (by decide) (by decide)), Option.bind_some, nI_1, e11, eb, show l + 1 + j + 1 = l + 1 + (j + 1) by omega]
      unfold stM
      by_cases a : andA (jB n T r k (bd2 n t (l, l + 1 + j))) (s / 2) = true
      · have a' : jP n T r k t s (l, l + 1 + j) = true := a
        by_cases z : Q.1 = 0
        · rw [bI_t a, if_neg (by decide), if_pos z, if_neg (by decide), if_pos a', if_pos z]; rfl
        · rw [bI_t a, if_neg (by decide), if_neg z, if_neg (by decide), if_pos a', if_neg z]
      · have a' : ¬ jP n T r k t s (l, l + 1 + j) = true := a
        rw [bI_f a, if_pos rfl, if_pos rfl, if_neg a', i_add0]
theorem jud_outM (N : Nat) (hN : 100 ≤ N) {n : xN} {T C r s k t : Nat} (hc : Crt n T C) (hk : k < C) (ht : t < 4) (hr : r < 6) (hs : s ≤ 40) (h2 : s % 2 = 0) (e3 : n.1 45 r = nI s) (hj : andA (okJ n T r) (s / 2) = true) :
    ∀ (e l f : Nat), l + e = 5 → e < f → ∀ (u : xN), TrM n t ((alL 6 l).foldl (stM (jP n T r k t s) g10) (0, -9)).2 u → f_X4_judged_L104 N f (nI k) (nI r) (nI (2 + 2 * t)) (n.1 40 (2 + 2 * t)) (n.1 40 (2 + 2 * t + 1)) ((alL 6 l).foldl (stM (jP n T r k t s) g10) (0, -9)).1 (nI l) u = some (((alL 6 5).foldl (stM (jP n T r k t s) g10) (0, -9)).1, mI n 39 11 ((alL 6 5).foldl (stM (jP n T r k t s) g10) (0, -9)).2) := by
  intro e
  induction e with
  | zero =>
    intro l f hl hf u hu
    have el : l = 5 := by omega
    subst el
    cases f with
    | zero => omega
    | succ f =>
      show f_X4_judged_L104b N (f_X4_judged_L104 N f) (nI k) (nI r) (nI (2 + 2 * t)) (n.1 40 (2 + 2 * t)) (n.1 40 (2 + 2 * t + 1)) _ (nI 5) u = _
      unfold f_X4_judged_L104b
      rw [if_pos (by decide), nI_1, gdl_nI (by omega) (by omega), gdl_nI (by omega) (by omega), gdl0, nI_clamp (by omega), nI_clamp (by omega), TrM_e hu]
  | succ e ih =>
    intro l f hl hf u hu
    cases f with
    | zero => omega
    | succ f =>
      obtain ⟨u1, hu1, e1⟩ := jud_inM N hN hc hk ht hr hs h2 e3 hj (n.1 40 (2 + 2 * t)) (n.1 40 (2 + 2 * t + 1)) (f_X4_judged_L104 N f) (show l ≤ 4 by omega) ((alL 6 l).foldl (stM (jP n T r k t s) g10) (0, -9)) (5 - l) 0 N (by omega) (by omega) u hu
      have hal : (alL 6 (l + 1)).foldl (stM (jP n T r k t s) g10) (0, -9) = (rwL l (5 - l)).foldl (stM (jP n T r k t s) g10) ((alL 6 l).foldl (stM (jP n T r k t s) g10) (0, -9)) := by
        rw [alL, List.foldl_append]
      have e2 := ih (l + 1) f (by omega) (by omega) u1 (by rw [hal]; exact hu1)
      rw [hal] at e2
      rw [← e2, ← e1]
      show f_X4_judged_L104b N (f_X4_judged_L104 N f) (nI k) (nI r) (nI (2 + 2 * t)) (n.1 40 (2 + 2 * t)) (n.1 40 (2 + 2 * t + 1)) _ (nI l) u = _
      unfold f_X4_judged_L104b
      rw [if_neg (by rw [show (5 : Int32) = nI 5 from rfl, nI_leI (by omega) (by omega)]; omega), nI_1]
      rfl
