/-! ===== promise 40: falls; borders that may be ===== -/
theorem e_isFlag (a : Int32) : f_X3_isFlag a = some (bI (a = 0 ∨ a = 1)) := by
  unfold f_X3_isFlag
  by_cases h : a = 0
  · subst h; decide
  · by_cases h1 : a = 1
    · subst h1; decide
    · rw [bI_f (by simp [h, h1])]
      simp [f_X3_isFlag_L14, h, h1, gdl, isb0]
abbrev okB (b c : Int32) : Prop := (b = 0 ∧ 0 ≤ c.toInt ∧ c.toInt ≤ 4) ∨ (b = 1 ∧ 1 ≤ c.toInt ∧ c.toInt ≤ 5)
theorem e_isBorderM (b c : Int32) : f_X4_isBorder b c = some (bI (okB b c)) := by
  have q0 : (0 : Int64).toInt = 0 := rfl
  have q1 : (1 : Int64).toInt = 1 := rfl
  have q4 : (4 : Int64).toInt = 4 := rfl
  have q5 : (5 : Int64).toInt = 5 := rfl
  unfold f_X4_isBorder f_X4_isBorder_L16 f_X4_isBorder_L33 f_X4_isBorder_L37 f_X4_isBorder_L38
  rw [e_in, e_in, i64_of, q0, q1, q4, q5]
  by_cases h0 : b = 0
  · have n1 : ¬ b = 1 := by rw [h0]; decide
    by_cases hc : 0 ≤ c.toInt ∧ c.toInt ≤ 4
    · rw [bI_t (show okB b c from Or.inl ⟨h0, hc⟩), if_pos h0, Option.bind_some, bI_t hc]; rfl
    · rw [bI_f (show ¬ okB b c from fun z => z.elim (fun y => hc y.2) (fun y => n1 y.1)), if_pos h0, Option.bind_some, bI_f hc, if_pos rfl, if_neg n1]; rfl
  · rw [if_neg h0]
    by_cases h1 : b = 1
    · rw [if_pos h1, Option.bind_some]
      by_cases hc : 1 ≤ c.toInt ∧ c.toInt ≤ 5
      · rw [bI_t (show okB b c from Or.inr ⟨h1, hc⟩), bI_t hc]; rfl
      · rw [bI_f (show ¬ okB b c from fun z => z.elim (fun y => h0 y.1) (fun y => hc y.2)), bI_f hc]; rfl
    · rw [if_neg h1, bI_f (show ¬ okB b c from fun z => z.elim (fun y => h0 y.1) (fun y => h1 y.1))]; rfl
theorem e_isBorderX (a b c : Int32) : f_X3_isBorder a b c = some (bI ((0 ≤ a.toInt ∧ a.toInt < 4) ∧ okB b c)) := by
  unfold f_X3_isBorder f_X3_isBorder_L30 f_X3_isBorder_L31
  rw [e_isTraitX, Option.bind_some, e_isFlag, Option.bind_some]
  by_cases ha : 0 ≤ a.toInt ∧ a.toInt < 4
  · rw [bI_t ha, if_neg (by decide)]
    by_cases hb : b = 0 ∨ b = 1
    · rw [bI_t hb, if_neg (by decide)]
      simp only [i32_lt, i32_le]
      rcases hb with rfl | rfl
      · have n1 : ¬ (0 : Int32) = 1 := by decide
        have e5 : (5 + 0 : Int32).toInt = 5 := by decide
        rw [z0, e5]
        by_cases h1 : c.toInt < 0
        · rw [if_pos h1, bI_f (fun z => z.2.elim (fun y => by omega) (fun y => n1 y.1))]; rfl
        · rw [if_neg h1]
          by_cases h2 : 5 ≤ c.toInt
          · rw [if_pos h2, bI_f (fun z => z.2.elim (fun y => by omega) (fun y => n1 y.1))]; rfl
          · rw [if_neg h2, bI_t ⟨ha, Or.inl ⟨rfl, by omega, by omega⟩⟩]; rfl
      · have n1 : ¬ (1 : Int32) = 0 := by decide
        have e5 : (5 + 1 : Int32).toInt = 6 := by decide
        rw [z1, e5]
        by_cases h1 : c.toInt < 1
        · rw [if_pos h1, bI_f (fun z => z.2.elim (fun y => n1 y.1) (fun y => by omega))]; rfl
        · rw [if_neg h1]
          by_cases h2 : 6 ≤ c.toInt
          · rw [if_pos h2, bI_f (fun z => z.2.elim (fun y => n1 y.1) (fun y => by omega))]; rfl
          · rw [if_neg h2, bI_t ⟨ha, Or.inr ⟨rfl, by omega, by omega⟩⟩]; rfl
    · rw [bI_f hb, if_pos rfl, bI_f (fun z => z.2.elim (fun y => hb (Or.inl y.1)) (fun y => hb (Or.inr y.1)))]; rfl
  · rw [bI_f ha, if_pos rfl, bI_f (fun z => ha z.1)]; rfl
theorem okB_of {b c : Int32} (h : okB b c) : ∃ w v : Nat, w ≤ 1 ∧ v ≤ 5 ∧ w ≤ v ∧ v ≤ 4 + w ∧ b = nI w ∧ c = nI v := by
  rcases h with ⟨rfl, h1, h2⟩ | ⟨rfl, h1, h2⟩
  · obtain ⟨v, hv, rfl⟩ := i32_of (k := 5) h1 (by omega)
    exact ⟨0, v, by omega, by omega, by omega, by omega, rfl, rfl⟩
  · obtain ⟨v, hv, rfl⟩ := i32_of (k := 6) (show 0 ≤ c.toInt by omega) (by omega)
    rw [nI_toInt (by omega)] at h1
    exact ⟨1, v, by omega, by omega, by omega, by omega, rfl, rfl⟩
abbrev stB (bd : Nat → Int32) (t w v : Nat) : Prop := if w = 0 then nI v < bd (2 * t + 1) else bd (2 * t) < nI v
theorem e_belM (n : xN) {t w v : Nat} (ht : t < 4) (hw : w ≤ 1) : f_X4_isBelow (nI t) (nI w) (nI v) n = some (bI (stB (bdM (n.1 40)) t w v)) := by
  unfold f_X4_isBelow f_X4_isBelow_L35
  rw [e_upperM n ht, e_lowerM n ht, Option.bind_some, Option.bind_some]
  by_cases h : w = 0
  · subst h
    rw [if_pos (show nI 0 = 0 from rfl)]
    by_cases hh : bdM (n.1 40) (2 * t + 1) ≤ nI v
    · rw [if_pos hh, bI_f (show ¬ stB (bdM (n.1 40)) t 0 v from fun z => (nlt_le _ _).mpr hh z)]; rfl
    · rw [if_neg hh, bI_t (show stB (bdM (n.1 40)) t 0 v from (nle_lt _ _).mp hh)]; rfl
  · have : w = 1 := by omega
    subst this
    rw [if_neg (by decide)]
    by_cases hh : nI v ≤ bdM (n.1 40) (2 * t)
    · rw [if_pos hh, bI_f (show ¬ stB (bdM (n.1 40)) t 1 v from fun z => (nlt_le _ _).mpr hh z)]; rfl
    · rw [if_neg hh, bI_t (show stB (bdM (n.1 40)) t 1 v from (nle_lt _ _).mp hh)]; rfl
theorem e_belX (n : xN) {t w v : Nat} (ht : t < 4) (hw : w ≤ 1) : f_X3_staysBelow (nI t) (nI w) (nI v) n = some (bI (stB (n.1 20) t w v)) := by
  unfold f_X3_staysBelow f_X3_staysBelow_L41
  rw [e_upX n ht, e_loX n ht, Option.bind_some, Option.bind_some]
  by_cases h : w = 0
  · subst h
    rw [if_pos (show nI 0 = 0 from rfl)]
    by_cases hh : n.1 20 (2 * t + 1) ≤ nI v
    · rw [if_pos hh, bI_f (show ¬ stB (n.1 20) t 0 v from fun z => (nlt_le _ _).mpr hh z)]; rfl
    · rw [if_neg hh, bI_t (show stB (n.1 20) t 0 v from (nle_lt _ _).mp hh)]; rfl
  · have : w = 1 := by omega
    subst this
    rw [if_neg (by decide)]
    by_cases hh : nI v ≤ n.1 20 (2 * t)
    · rw [if_pos hh, bI_f (show ¬ stB (n.1 20) t 1 v from fun z => (nlt_le _ _).mpr hh z)]; rfl
    · rw [if_neg hh, bI_t (show stB (n.1 20) t 1 v from (nle_lt _ _).mp hh)]; rfl
theorem stB_c {bd bd' : Nat → Int32} {t w v : Nat} (ht : t < 4) (h : ∀ b, b < 8 → bd b = bd' b) : bI (stB bd t w v) = bI (stB bd' t w v) := by
  refine bI_c ?_
  unfold stB
  rw [h (2 * t) (by omega), h (2 * t + 1) (by omega)]
theorem e_at {t w : Nat} : (2 : Int32) * nI t + nI w = nI (2 * t + w) := by
  rw [show (2 : Int32) = nI 2 from rfl, pk_mul, nI_add]
theorem e_atM {t w : Nat} : ((2 : Int32) + (2 : Int32) * nI t) + nI w = nI (2 + (2 * t + w)) := by
  rw [show (2 : Int32) = nI 2 from rfl, pk_mul, nI_add, nI_add, Nat.add_assoc]
/-- what the invariant does not speak of -/
theorem Inv_same {n m : xN} (h : Inv n) (e : ∀ b, (b ≤ 12 ∨ b = 15 ∨ (19 ≤ b ∧ b ≤ 35) ∨ b = 38 ∨ (40 ≤ b ∧ b ≤ 49)) → m.1 b = n.1 b) (e39 : ∀ k, (k = 1 ∨ k = 3 ∨ k = 11 ∨ k = 14) → m.1 39 k = n.1 39 k) (e2 : m.2 = n.2) : Inv m := by
  unfold Inv cOf at *
  rw [e2, e39 1 (by simp), e39 3 (by simp), e39 11 (by simp), e39 14 (by simp), e 0 (by simp), e 1 (by simp), e 2 (by simp), e 3 (by simp), e 4 (by simp), e 5 (by simp), e 6 (by simp), e 7 (by simp), e 8 (by simp), e 9 (by simp), e 10 (by simp), e 11 (by simp), e 12 (by simp), e 15 (by simp), e 19 (by simp), e 20 (by simp), e 21 (by simp), e 22 (by simp), e 24 (by simp), e 25 (by simp), e 26 (by simp), e 27 (by simp), e 28 (by simp), e 29 (by simp), e 30 (by simp), e 31 (by simp), e 32 (by simp), e 33 (by simp), e 34 (by simp), e 35 (by simp), e 38 (by simp), e 40 (by simp), e 41 (by simp), e 42 (by simp), e 43 (by simp), e 44 (by simp), e 45 (by simp), e 46 (by simp), e 47 (by simp), e 48 (by simp), e 49 (by simp)]
  exact h
/-- the borders, copied for a trial -/
def tri (n : xN) : xN := (va_up n.1 37 (fun b => if b < 8 then n.1 20 b else n.1 37 b), n.2)
theorem e_trial (n : xN) : f_X3_copyBordersToTrial n = some (tri n) := by
  unfold f_X3_copyBordersToTrial
  rw [gdlT (by decide), gdl0]
  refine congrArg some (Prod.ext ?_ rfl)
  refine congrArg (va_up n.1 37) (funext fun b => ?_)
  have t0 : Int32.toNatClampNeg 0 = 0 := by decide
  have t8 : Int32.toNatClampNeg 8 = 8 := by decide
  rw [t0, t8]
  unfold va_cpy
  by_cases h : b < 8
  · rw [if_pos ⟨Nat.zero_le _, by omega⟩, if_pos h, Nat.zero_add, Nat.sub_zero]
  · rw [if_neg (by omega), if_neg h]
theorem tri1 {n : xN} {b : Nat} (h : b ≠ 37) : (tri n).1 b = n.1 b := by simp [tri, va_up, h]
theorem tri37 {n : xN} {b : Nat} (h : b < 8) : (tri n).1 37 b = n.1 20 b := by simp [tri, va_up, h]
theorem Inv_tri {n : xN} (h : Inv n) (k : Nat) (v : Int32) : Inv (mI (tri n) 37 k v) :=
  Inv_same h (fun b hb => by rw [mI1, if_neg (by omega), tri1 (by omega)]) (fun k _ => by rw [mI1, if_neg (by decide), tri1 (by decide)]) rfl
theorem HN_same {n m : xN} {bd : Nat → Int32} {T C w : Nat} (e41 : m.1 41 = n.1 41) (e42 : m.1 42 = n.1 42) (e43 : m.1 43 = n.1 43) (e44 : m.1 44 = n.1 44) : HN m bd T C w = HN n bd T C w := by
  unfold HN hbK kn sc tr
  rw [e41, e42, e43, e44]
set_option maxHeartbeats 2000000 in
theorem op_falls (N : Nat) (hN : 100 ≤ N) (a b c : Int32) : Op (f_X3_falls N a b c) (f_X4_falls N a b c) := by
  intro n h
  obtain ⟨T, C, hc⟩ := Crt_of h
  obtain ⟨o, ho, eo, xo, hbd⟩ := On_of h hc
  have h6 : 2 ^ T ≤ 2 ^ 6 := p2 hc.1
  have h8 := p8 hc.2.1
  by_cases ha : 0 ≤ a.toInt ∧ a.toInt < 4
  · have ha' : 0 ≤ a.toInt ∧ a.toInt ≤ 3 := by omega
    by_cases hb : okB b c
    · obtain ⟨t, ht, rfl⟩ := i32_of (k := 4) ha.1 (by omega)
      obtain ⟨w, v, hw, hv, _, _, rfl, rfl⟩ := okB_of hb
      by_cases hs : stB (n.1 20) t w v
      · have hs' : stB (bdM (n.1 40)) t w v := by have := stB_c (t := t) (w := w) (v := v) ht hbd; rw [bI_t hs] at this; exact of_eq_true ((bI_1 _).symm.trans (eq_true this.symm))
        generalize hbd' : upd (bdM (n.1 40)) (2 * t + w) (nI v) = bd'
        generalize hp : (fun z => decide (HN n (bdM (n.1 40)) T C z &&& o = o)) = p
        generalize hq : (fun z => decide (HN n bd' T C z &&& o = o)) = q
        have hpz : ∀ z, (HN n (bdM (n.1 40)) T C z &&& o = o) ↔ p z = true := fun z => by rw [← hp]; simp
        have hqz : ∀ z, (HN n bd' T C z &&& o = o) ↔ q z = true := fun z => by rw [← hq]; simp
        let fa := fun i => cnt (fun z => p z && !q z) i
        let ri := fun i => cnt (fun z => !p z && q z) i
        let u1 := mI (tri n) 37 (2 * t + w) (nI v)
        have e37 : ∀ b, b < 8 → u1.1 37 b = bd' b := by
          intro b hb
          show (mI (tri n) 37 (2 * t + w) (nI v)).1 37 b = _
          rw [mI1, if_pos rfl, ← hbd']
          unfold upd
          split
          · rfl
          · rw [tri37 hb, hbd b hb]
        have u1o : ∀ b, b ≠ 37 → u1.1 b = n.1 b := fun b hb => by
          show (mI (tri n) 37 (2 * t + w) (nI v)).1 b = _
          rw [mI1, if_neg hb, tri1 hb]
        have hc1 : Crt u1 T C := Crt_keep hc ⟨by rw [u1o _ (by decide)], by rw [u1o _ (by decide)]⟩ (u1o _ (by decide)) (u1o _ (by decide)) (u1o _ (by decide)) (u1o _ (by decide)) (u1o _ (by decide)) (u1o _ (by decide)) (u1o _ (by decide)) (u1o _ (by decide)) (u1o _ (by decide)) (u1o _ (by decide))
        have hHs : ∀ bd z, HN u1 bd T C z = HN n bd T C z := fun bd z => HN_same (u1o _ (by decide)) (u1o _ (by decide)) (u1o _ (by decide)) (u1o _ (by decide))
        have hx : f_X3_falls N (nI t) (nI w) (nI v) n = some (nI (fa (2 ^ T)), mI u1 0 10 (nI (ri (2 ^ T)))) := by
          have key := eq_forG (rc := f_X3_falls_L48 N) (body := f_X3_falls_L48b N) (fun f i (s : Int32 × Int32) => f s.1 s.2 i u1) (fun _ => rfl) 0 (2 ^ T) (fun i => (nI (fa i), nI (ri i))) (some (nI (fa (2 ^ T)), mI u1 0 10 (nI (ri (2 ^ T))))) ?_ ?_ N 0 (Nat.le_refl _) (Nat.zero_le _) (by omega)
          · unfold f_X3_falls
            rw [e_isBorderX, Option.bind_some, bI_t ⟨ha, hb⟩, if_neg (by decide), e_belX n ht hw, Option.bind_some, bI_t hs, if_neg (by decide), e_trial, Option.bind_some, e_at, gdl_nI (by omega) (by omega), gdl0, nI_clamp (by omega)]
            exact key
          · intro f i _ hi
            show f_X3_falls_L48b N f (nI (fa i)) (nI (ri i)) (nI i) u1 = f (nI (fa (i + 1))) (nI (ri (i + 1))) (nI (i + 1)) u1
            unfold f_X3_falls_L48b f_X3_falls_L106 f_X3_falls_L119
            have l1 := HN_lt n (bdM (n.1 40)) T C i
            have l2 := HN_lt n bd' T C i
            rw [e_waysX _ hc.1 hc1.2.2.2.2.2.1, Option.bind_some, if_neg (by rw [nI_leI (by omega) (by omega)]; omega), e_goodX N (by omega) u1 hc1 hi (by rw [u1o _ (by decide)]; exact xo) (by omega), Option.bind_some, e_heldBy37 N (by omega) u1 hc1 hi, Option.bind_some, u1o 19 (by decide), xo, u1o 20 (by decide), HN_c hc1 hbd, HN_c hc1 e37, hHs, hHs, e_isMet (by omega) (by omega), Option.bind_some, bI_c (hpz i), bI_c (hqz i)]
            show _ = f (nI (cnt (fun z => p z && !q z) i + (if (p i && !q i) = true then 1 else 0))) (nI (cnt (fun z => !p z && q z) i + (if (!p i && q i) = true then 1 else 0))) (nI (i + 1)) u1
            cases p i <;> cases q i <;> simp [bI, nI_1, fa, ri]
          · intro f
            show f_X3_falls_L48b N f (nI (fa (2 ^ T))) (nI (ri (2 ^ T))) (nI (2 ^ T)) u1 = _
            unfold f_X3_falls_L48b
            rw [e_waysX _ hc.1 hc1.2.2.2.2.2.1, Option.bind_some, if_pos (by rw [nI_leI (by omega) (by omega)]; omega)]
        have hm : ∀ m : xN, Crt m T C → m.1 40 = n.1 40 → (∀ bd z, HN m bd T C z = HN n bd T C z) → f_X4_falls N (nI t) (nI w) (nI v) m = some (nI (fa (2 ^ T)), mI m 39 11 (nI (ri (2 ^ T)))) := by
          intro m hcm e40 hH
          generalize hy : n.1 40 (2 + (2 * t + w)) = y
          have key := eq_forG (rc := f_X4_falls_L59 N) (body := f_X4_falls_L59b N) (fun f i (s : Int32 × Int32) => f (nI v) (nI (2 + (2 * t + w))) y s.1 i (mI m 39 11 s.2)) (fun _ => rfl) 0 (2 ^ T) (fun i => (nI (fa i), nI (ri i))) (some (nI (fa (2 ^ T)), mI m 39 11 (nI (ri (2 ^ T))))) ?_ ?_ N 0 (Nat.le_refl _) (Nat.zero_le _) (by omega)
          · unfold f_X4_falls
            rw [e_isTrait, Option.bind_some, bI_t ha', if_neg (by decide), e_isBorderM, Option.bind_some, bI_t hb, if_neg (by decide), e_belM m ht hw, Option.bind_some, e40, bI_t hs', if_neg (by decide), e_atM, gdl_nI (by omega) (by omega), gdl0, nI_clamp (by omega), hy]
            exact key
          · intro f i _ hi
            show f_X4_falls_L59b N f (nI v) (nI (2 + (2 * t + w))) y (nI (fa i)) (nI i) (mI m 39 11 (nI (ri i))) = f (nI v) (nI (2 + (2 * t + w))) y (nI (fa (i + 1))) (nI (i + 1)) (mI m 39 11 (nI (ri (i + 1))))
            unfold f_X4_falls_L59b f_X4_falls_L117 f_X4_falls_L118 f_X4_falls_L140 f_X4_falls_L141
            generalize hmm : mI m 39 11 (nI (ri i)) = m1
            have m1o : ∀ b, b ≠ 39 → m1.1 b = m.1 b := fun b hb => by rw [← hmm, mI1, if_neg hb]
            have hcm1 : Crt m1 T C := by rw [← hmm]; exact Crt_keep hcm (by simp [mI1, upd]) (by simp [mI1]) (by simp [mI1]) (by simp [mI1]) (by simp [mI1]) (by simp [mI1]) (by simp [mI1]) (by simp [mI1]) (by simp [mI1]) (by simp [mI1]) (by simp [mI1])
            have hH1 : ∀ bd z, HN m1 bd T C z = HN n bd T C z := fun bd z => by rw [← hH]; exact HN_same (m1o _ (by decide)) (m1o _ (by decide)) (m1o _ (by decide)) (m1o _ (by decide))
            have hcm2 := Crt_k40 hcm1 (2 + (2 * t + w)) (nI v)
            have e42 : (mI m1 40 (2 + (2 * t + w)) (nI v)).1 40 = upd (n.1 40) (2 + (2 * t + w)) (nI v) := by rw [mI1, if_pos rfl, m1o _ (by decide), e40]
            have eb : bdM (upd (n.1 40) (2 + (2 * t + w)) (nI v)) = bd' := by
              rw [← hbd']
              funext b
              unfold bdM upd
              by_cases z : b = 2 * t + w
              · rw [if_pos (by omega), if_pos z]
              · rw [if_neg (by omega), if_neg z]
            have er : mI (mI m1 40 (2 + (2 * t + w)) (nI v)) 40 (2 + (2 * t + w)) y = m1 := by
              rw [mI_mI, ← hy, ← e40, ← m1o 40 (by decide), mI_id]
            have hH2 : ∀ z, HN (mI m1 40 (2 + (2 * t + w)) (nI v)) bd' T C z = HN n bd' T C z := fun z => by rw [← hH1]; exact HN_same (by simp [mI1]) (by simp [mI1]) (by simp [mI1]) (by simp [mI1])
            have l1 := HN_lt n (bdM (n.1 40)) T C i
            have l2 := HN_lt n bd' T C i
            rw [e_waysM _ hc.1 hcm1.2.2.2.1, Option.bind_some, if_neg (by rw [nI_leI (by omega) (by omega)]; omega), e_goodM N (by omega) m1 hcm1 (by omega) (by rw [m1o _ (by decide), e40]; exact eo) (by omega), Option.bind_some, gdl_nI (by omega) (by omega), gdl0, nI_clamp (by omega), e_goodM N (by omega) _ hcm2 (by omega) (show (mI m1 40 (2 + (2 * t + w)) (nI v)).1 40 1 = nI o by rw [e42, upd_o (by omega)]; exact eo) (by omega), Option.bind_some, gdl_nI (by omega) (by omega), gdl0, er, e42, eb, hH2, m1o 40 (by decide), e40, hH1, bI_c (hpz i), bI_c (hqz i)]
            have e11 : m1.1 39 11 = nI (ri i) := by rw [← hmm, mI1, if_pos rfl, upd_s]
            have ew : ∀ z, mI m1 39 11 z = mI m 39 11 z := fun z => by rw [← hmm, mI_mI]
            show _ = f (nI v) (nI (2 + (2 * t + w))) y (nI (cnt (fun z => p z && !q z) i + (if (p i && !q i) = true then 1 else 0))) (nI (i + 1)) (mI m 39 11 (nI (cnt (fun z => !p z && q z) i + (if (!p i && q i) = true then 1 else 0))))
            rw [e11]
            cases p i <;> cases q i <;> simp [bI, nI_1, fa, ri, ew]
          · intro f
            show f_X4_falls_L59b N f (nI v) (nI (2 + (2 * t + w))) y (nI (fa (2 ^ T))) (nI (2 ^ T)) (mI m 39 11 (nI (ri (2 ^ T)))) = _
            unfold f_X4_falls_L59b
            rw [e_waysM _ hc.1 (by rw [mI1, if_pos rfl, upd_o (by decide)]; exact hcm.2.2.2.1), Option.bind_some, if_pos (by rw [nI_leI (by omega) (by omega)]; omega)]
        refine Op_mk hx (hm _ (Crt_x10 hc1 _) (by rw [mI1, if_neg (by decide)]; exact u1o 40 (by decide)) (fun bd z => (HN_same (by simp [mI1]) (by simp [mI1]) (by simp [mI1]) (by simp [mI1])).trans (hHs bd z))) rfl (Inv_told (Inv_tri h _ _) _)
      · have hs' : ¬ stB (bdM (n.1 40)) t w v := fun z => by have := stB_c (t := t) (w := w) (v := v) ht hbd; rw [bI_f hs, bI_t z] at this; exact absurd this (by decide)
        exact ⟨-4, n, n, by unfold f_X3_falls; rw [e_isBorderX, Option.bind_some, bI_t ⟨ha, hb⟩, if_neg (by decide), e_belX n ht hw, Option.bind_some, bI_f hs, if_pos rfl], by unfold f_X4_falls; rw [e_isTrait, Option.bind_some, bI_t ha', if_neg (by decide), e_isBorderM, Option.bind_some, bI_t hb, if_neg (by decide), e_belM n ht hw, Option.bind_some, bI_f hs', if_pos rfl], h⟩
    · exact ⟨-1, n, n, by unfold f_X3_falls; rw [e_isBorderX, Option.bind_some, bI_f (fun z => hb z.2), if_pos rfl], by unfold f_X4_falls f_X4_falls_L15; rw [e_isTrait, Option.bind_some, bI_t ha', if_neg (by decide), e_isBorderM, Option.bind_some, bI_f hb, if_pos rfl], h⟩
  · exact ⟨-1, n, n, by unfold f_X3_falls; rw [e_isBorderX, Option.bind_some, bI_f (fun z => ha z.1), if_pos rfl], by unfold f_X4_falls f_X4_falls_L15; rw [e_isTrait, Option.bind_some, bI_f (by omega), if_pos rfl], h⟩
