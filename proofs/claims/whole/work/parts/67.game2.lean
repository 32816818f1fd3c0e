/-! ===== promises 33, 34: the game, the reference's tables ===== -/
theorem ok_forG {ρ σ O : Type} {rc : Nat → ρ} {body : ρ → ρ} (app : ρ → Int32 → σ → Option O) (hrec : ∀ n, rc (n + 1) = body (rc n)) (e : Nat) (I : Nat → σ → Prop) (P : O → Prop)
    (hstep : ∀ (k : ρ) (i : Nat) (s : σ), i < e → I i s → (∀ s', I (i + 1) s' → ok (app k (nI (i + 1)) s') P) → ok (app (body k) (nI i) s) P) (hexit : ∀ (k : ρ) (s : σ), I e s → ok (app (body k) (nI e) s) P) :
    ∀ (n i : Nat) (s : σ), i ≤ e → e - i < n → I i s → ok (app (rc n) (nI i) s) P := by
  intro n
  induction n with
  | zero => intro i s _ h _; exact absurd h (by omega)
  | succ n ih =>
    intro i s hi hn hI
    rw [hrec]
    by_cases h : i < e
    · exact hstep _ i s h hI (fun s' hs' => ih (i + 1) s' (by omega) (by omega) hs')
    · have : i = e := by omega
      subst this
      exact hexit _ s hI
def Tb (T C : Nat) (q : Nat → Nat → Bool) (u : xN) : Prop := ∀ S, S < 2 ^ C → ∀ t, t < 2 ^ T → u.1 52 (64 * S + t) = bI (q S t = true)
theorem nar_bI (b : Bool) : vp_nar .boolean (bI (b = true)) = bI (b = true) := by cases b <;> rfl
theorem i64 (S t : Nat) : (64 : Int32) * nI S + nI t = nI (64 * S + t) := by rw [show (64 : Int32) = nI 64 from rfl, pk_mul, nI_add]
set_option maxHeartbeats 1000000 in
theorem e_answers (N : Nat) (hN : 100 ≤ N) (u : xN) {T C S t : Nat} {q : Nat → Nat → Bool} (hT : T ≤ 6) (hC : C ≤ 8) (eT : u.1 39 1 = nI T) (hq : Tb T C q u) (hS : S < 2 ^ C) (ht : t < 2 ^ T) : f_X4_answers N (nI S) (nI t) u = some (bI (ans T q S t = true)) := by
  have h6 : 2 ^ T ≤ 64 := p2 (m := 6) hT
  have h8 := p8 hC
  unfold f_X4_answers
  rw [i64, gdl_nI (by omega) (by omega), gdl0, nI_clamp (by omega), hq S hS t ht]
  have key := eq_forG (rc := f_X4_answers_L15 N u) (body := f_X4_answers_L15b N u) (fun f i (l : Int32) => f (nI S) (nI t) l i) (fun _ => rfl) 0 T (fun i => bI ((q S t || anyA (fun i => !t.testBit i && q S (t ||| 2 ^ i)) i) = true)) (some (bI (ans T q S t = true))) ?_ ?_ N 0 (Nat.le_refl _) (Nat.zero_le _) (by omega)
  · have k2 : f_X4_answers_L15 N u N (nI S) (nI t) (bI ((q S t || false) = true)) 0 = _ := key
    rw [Bool.or_false] at k2
    exact k2
  · intro f i _ hi
    show f_X4_answers_L15b N u f (nI S) (nI t) (bI ((q S t || anyA (fun i => !t.testBit i && q S (t ||| 2 ^ i)) i) = true)) (nI i) = f (nI S) (nI t) (bI ((q S t || (anyA (fun i => !t.testBit i && q S (t ||| 2 ^ i)) i || (!t.testBit i && q S (t ||| 2 ^ i)))) = true)) (nI (i + 1))
    have h2i : 2 ^ i < 2 ^ T := Nat.pow_lt_pow_right (by decide) hi
    have ht2 : t ||| 2 ^ i < 2 ^ T := Nat.or_lt_two_pow ht h2i
    unfold f_X4_answers_L15b f_X4_answers_L56 f_X4_answers_L60 f_X4_answers_L61
    rw [eT, if_neg (by rw [nI_leI (by omega) (by omega)]; omega), e_has (by omega) (by omega), Option.bind_some, sh1 (by omega), nI_or (by omega) (by omega), i64, gdl_nI (by omega) (by omega), gdl0, nI_clamp (by omega), hq S hS _ ht2, nI_1]
    cases q S t <;> cases anyA (fun i => !t.testBit i && q S (t ||| 2 ^ i)) i <;> cases t.testBit i <;> cases q S (t ||| 2 ^ i) <;> rfl
  · intro f
    show f_X4_answers_L15b N u f (nI S) (nI t) (bI (ans T q S t = true)) (nI T) = _
    unfold f_X4_answers_L15b
    rw [eT, if_pos (by rw [nI_leI (by omega) (by omega)]; omega), gdl_bI, gdl0]
set_option maxHeartbeats 1000000 in
theorem e_wst (N : Nat) (hN : 100 ≤ N) (u : xN) {T C S t o : Nat} {q : Nat → Nat → Bool} (hT : T ≤ 6) (hC : C ≤ 8) (eT : u.1 39 1 = nI T) (eC : u.1 39 3 = nI C) (eo : u.1 40 1 = nI o) (ho : o < 2 ^ C) (hq : Tb T C q u) (hS : S < 2 ^ C) (ht : t < 2 ^ T) : f_X4_withstands N (nI S) (nI t) u = some (bI (wst T C o q S t = true)) := by
  have h6 : 2 ^ T ≤ 64 := p2 (m := 6) hT
  have h8 := p8 hC
  have ul := unm_lt (H := S) ho
  unfold f_X4_withstands wst
  rw [gdlT ib1, gdl0, tn1, eo, u_of (by omega) (by omega)]
  by_cases h : unm o S = 0
  · rw [if_pos (by rw [h]; rfl), if_pos h, e_answers N hN u hT hC eT hq hS ht, Option.bind_some, gdl_bI, gdl0]
  · rw [if_neg (nI_ne0 (by omega) (by omega)), if_neg h]
    have key := eq_forG (rc := f_X4_withstands_L28 N u) (body := f_X4_withstands_L28b N u) (fun f i (l : Int32) => f (nI S) (nI t) (nI (unm o S)) l i) (fun _ => rfl) 0 C (fun i => bI (andA (fun k => !(unm o S).testBit k || ans T q (S ||| 2 ^ k) t) i = true)) (some (bI (andA (fun k => !(unm o S).testBit k || ans T q (S ||| 2 ^ k) t) C = true))) ?_ ?_ N 0 (Nat.le_refl _) (Nat.zero_le _) (by omega)
    · exact key
    · intro f i _ hi
      show f_X4_withstands_L28b N u f (nI S) (nI t) (nI (unm o S)) (bI (andA (fun k => !(unm o S).testBit k || ans T q (S ||| 2 ^ k) t) i = true)) (nI i) = f (nI S) (nI t) (nI (unm o S)) (bI ((andA (fun k => !(unm o S).testBit k || ans T q (S ||| 2 ^ k) t) i && (!(unm o S).testBit i || ans T q (S ||| 2 ^ i) t)) = true)) (nI (i + 1))
      have h2i : 2 ^ i < 2 ^ C := Nat.pow_lt_pow_right (by decide) hi
      have hS2 : S ||| 2 ^ i < 2 ^ C := Nat.or_lt_two_pow hS h2i
      unfold f_X4_withstands_L28b f_X4_withstands_L65 f_X4_withstands_L69 f_X4_withstands_L70
      rw [eC, if_neg (by rw [nI_leI (by omega) (by omega)]; omega), e_has (by omega) (by omega), Option.bind_some, sh1 (by omega), nI_or (by omega) (by omega), e_answers N hN u hT hC eT hq hS2 ht, Option.bind_some, nI_1]
      cases andA (fun k => !(unm o S).testBit k || ans T q (S ||| 2 ^ k) t) i <;> cases (unm o S).testBit i <;> cases ans T q (S ||| 2 ^ i) t <;> rfl
    · intro f
      show f_X4_withstands_L28b N u f (nI S) (nI t) (nI (unm o S)) _ (nI C) = _
      unfold f_X4_withstands_L28b
      rw [eC, if_pos (by rw [nI_leI (by omega) (by omega)]; omega), gdl_bI, gdl0]
/-- a table that is filled, place behind place -/
def Fil (a : Nat) (T C : Nat) (g : Nat → Nat → Bool) (u0 : xN) (S t : Nat) (u : xN) : Prop := (∀ c, c ≠ a → u.1 c = u0.1 c) ∧ u.2 = u0.2 ∧ ∀ S', S' < 2 ^ C → ∀ t', t' < 2 ^ T → (S' < S ∨ (S' = S ∧ t' < t)) → u.1 a (64 * S' + t') = bI (g S' t' = true)
theorem Fil_s {a T C S t : Nat} {g : Nat → Nat → Bool} {u0 u : xN} (hT : T ≤ 6) (ht : t < 2 ^ T) (h : Fil a T C g u0 S t u) : Fil a T C g u0 S (t + 1) (mI u a (64 * S + t) (bI (g S t = true))) := by
  have h6 : 2 ^ T ≤ 64 := p2 (m := 6) hT
  obtain ⟨h1, h2, h3⟩ := h
  refine ⟨fun c hc => by rw [mI1, if_neg hc, h1 c hc], h2, fun S' hS' t' ht' hlt => ?_⟩
  rw [mI1, if_pos rfl]
  by_cases e : S' = S ∧ t' = t
  · rw [e.1, e.2, upd_s]
  · rw [upd_o (by omega), h3 S' hS' t' ht' (by omega)]
theorem Fil_r {a T C S : Nat} {g : Nat → Nat → Bool} {u0 u : xN} (h : Fil a T C g u0 S (2 ^ T) u) : Fil a T C g u0 (S + 1) 0 u := by
  obtain ⟨h1, h2, h3⟩ := h
  exact ⟨h1, h2, fun S' hS' t' ht' hlt => h3 S' hS' t' ht' (by omega)⟩
set_option maxHeartbeats 1000000 in
theorem e_layTurn (N : Nat) (hN : 16400 ≤ N) (u : xN) {T C o : Nat} {q : Nat → Nat → Bool} (hT : T ≤ 6) (hC : C ≤ 8) (eT : u.1 39 1 = nI T) (eC : u.1 39 3 = nI C) (eo : u.1 40 1 = nI o) (ho : o < 2 ^ C) (hq : Tb T C q u) : ok (f_X4_layTurn N u) (fun v => (∀ c, c ≠ 52 → c ≠ 53 → v.1 c = u.1 c) ∧ v.2 = u.2 ∧ Tb T C (wst T C o q) v) := by
  have h6 : 2 ^ T ≤ 64 := p2 (m := 6) hT
  have h8 := p8 hC
  have hq' : ∀ {S t v}, Fil 53 T C (wst T C o q) u S t v → Tb T C q v := fun {S t v} hv S' hS' t' ht' => by rw [hv.1 52 (by decide)]; exact hq S' hS' t' ht'
  unfold f_X4_layTurn
  refine ok_forG (rc := f_X4_layTurn_L2 N) (body := f_X4_layTurn_L2b N) (fun f i (v : xN) => f i v) (fun _ => rfl) (2 ^ C) (fun S v => Fil 53 T C (wst T C o q) u S 0 v) _ ?_ ?_ N 0 u (Nat.zero_le _) (by omega) ⟨fun _ _ => rfl, rfl, fun S' _ t' _ hlt => absurd hlt (by omega)⟩
  · intro f S v hS hv hk
    show ok (f_X4_layTurn_L2b N f (nI S) v) _
    unfold f_X4_layTurn_L2b
    rw [hv.1 39 (by decide), eC, sh1 (by omega), if_neg (by rw [nI_leI (by omega) (by omega)]; omega)]
    refine ok_forG (rc := f_X4_layTurn_L14 N f) (body := f_X4_layTurn_L14b N f) (fun g i (v : xN) => g (nI S) i v) (fun _ => rfl) (2 ^ T) (fun t v => Fil 53 T C (wst T C o q) u S t v) _ ?_ ?_ N 0 v (Nat.zero_le _) (by omega) hv
    · intro g t w ht hw hk2
      show ok (f_X4_layTurn_L14b N f g (nI S) (nI t) w) _
      unfold f_X4_layTurn_L14b
      rw [e_waysM w hT (by rw [hw.1 39 (by decide)]; exact eT), Option.bind_some, if_neg (by rw [nI_leI (by omega) (by omega)]; omega), e_wst N (by omega) w hT hC (by rw [hw.1 39 (by decide)]; exact eT) (by rw [hw.1 39 (by decide)]; exact eC) (by rw [hw.1 40 (by decide)]; exact eo) ho (hq' hw) hS ht, Option.bind_some, i64, gdl_nI (by omega) (by omega), gdl0, nI_clamp (by omega), nar_bI, nI_1]
      exact hk2 _ (Fil_s hT ht hw)
    · intro g w hw
      show ok (f_X4_layTurn_L14b N f g (nI S) (nI (2 ^ T)) w) _
      unfold f_X4_layTurn_L14b
      rw [e_waysM w hT (by rw [hw.1 39 (by decide)]; exact eT), Option.bind_some, if_pos (by rw [nI_leI (by omega) (by omega)]; omega), nI_1]
      exact hk _ (Fil_r hw)
  · intro f v hv
    show ok (f_X4_layTurn_L2b N f (nI (2 ^ C)) v) _
    unfold f_X4_layTurn_L2b
    rw [hv.1 39 (by decide), eC, sh1 (by omega), if_pos (by rw [nI_leI (by omega) (by omega)]; omega)]
    refine ok_forG (rc := f_X4_layTurn_L53 N) (body := f_X4_layTurn_L53b N) (fun f i (v : xN) => f i v) (fun _ => rfl) 16384 (fun i w => (∀ c, c ≠ 52 → w.1 c = v.1 c) ∧ w.2 = v.2 ∧ ∀ p, p < i → w.1 52 p = vp_nar .boolean (v.1 53 p)) _ ?_ ?_ N 0 v (Nat.zero_le _) (by omega) ⟨fun _ _ => rfl, rfl, fun p hp => absurd hp (by omega)⟩
    · intro g i w hi ⟨w1, w2, w3⟩ hk
      show ok (f_X4_layTurn_L53b N g (nI i) w) _
      unfold f_X4_layTurn_L53b
      rw [if_neg (by rw [show (16384 : Int32) = nI 16384 from rfl, nI_leI (by omega) (by omega)]; omega), gdl_nI (by omega) hi, gdl_nI (by omega) hi, gdl0, nI_clamp (by omega), nI_1, w1 53 (by decide)]
      refine hk _ ⟨fun c hc => by rw [mI1, if_neg hc, w1 c hc], w2, fun p hp => ?_⟩
      rw [mI1, if_pos rfl]
      by_cases e : p = i
      · rw [e, upd_s]
      · rw [upd_o e, w3 p (by omega)]
    · intro g w ⟨w1, w2, w3⟩
      show ok (f_X4_layTurn_L53b N g (nI 16384) w) _
      unfold f_X4_layTurn_L53b
      rw [if_pos (by decide)]
      refine ok_some.mpr ⟨fun c h1 h2 => by rw [w1 c h1, hv.1 c h2], w2.trans hv.2.1, fun S hS t ht => ?_⟩
      rw [w3 _ (by omega), hv.2.2 S hS t ht (Or.inl hS), nar_bI]
set_option maxHeartbeats 1000000 in
theorem e_layGame (N : Nat) (hN : 16400 ≤ N) (n u : xN) {T C o τ : Nat} (hc : Crt u T C) (eo : u.1 40 1 = nI o) (ho : o < 2 ^ C) (hH : ∀ w, HN u (bdM (u.1 40)) T C w = HN n (bdM (n.1 40)) T C w) (hτ : τ ≤ 3) : ok (f_X4_layGame N (nI τ) u) (fun v => (∀ c, c ≠ 52 → c ≠ 53 → v.1 c = u.1 c) ∧ v.2 = u.2 ∧ Tb T C (wn n T C o τ) v) := by
  have hT := hc.1
  have hC := hc.2.1
  have eT := hc.2.2.2.1
  have eC := hc.2.2.2.2.1
  have h6 : 2 ^ T ≤ 64 := p2 (m := 6) hT
  have h8 := p8 hC
  have crt : ∀ {v : xN}, (∀ c, c ≠ 52 → c ≠ 53 → v.1 c = u.1 c) → Crt v T C := fun {v} hv => Crt_keep hc ⟨by rw [hv _ (by decide) (by decide)], by rw [hv _ (by decide) (by decide)]⟩ (hv _ (by decide) (by decide)) (hv _ (by decide) (by decide)) (hv _ (by decide) (by decide)) (hv _ (by decide) (by decide)) (hv _ (by decide) (by decide)) (hv _ (by decide) (by decide)) (hv _ (by decide) (by decide)) (hv _ (by decide) (by decide)) (hv _ (by decide) (by decide)) (hv _ (by decide) (by decide))
  unfold f_X4_layGame
  refine ok_forG (rc := f_X4_layGame_L2 N) (body := f_X4_layGame_L2b N) (fun f i (v : xN) => f (nI τ) i v) (fun _ => rfl) (2 ^ C) (fun S v => Fil 52 T C (wn n T C o 0) u S 0 v) _ ?_ ?_ N 0 u (Nat.zero_le _) (by omega) ⟨fun _ _ => rfl, rfl, fun S' _ t' _ hlt => absurd hlt (by omega)⟩
  · intro f S v hS hv hk
    show ok (f_X4_layGame_L2b N f (nI τ) (nI S) v) _
    unfold f_X4_layGame_L2b
    rw [hv.1 39 (by decide), eC, sh1 (by omega), if_neg (by rw [nI_leI (by omega) (by omega)]; omega)]
    refine ok_forG (rc := f_X4_layGame_L14 N f) (body := f_X4_layGame_L14b N f) (fun g i (v : xN) => g (nI τ) (nI S) i v) (fun _ => rfl) (2 ^ T) (fun t v => Fil 52 T C (wn n T C o 0) u S t v) _ ?_ ?_ N 0 v (Nat.zero_le _) (by omega) hv
    · intro g t w ht hw hk2
      show ok (f_X4_layGame_L14b N f g (nI τ) (nI S) (nI t) w) _
      have hcw : Crt w T C := crt (fun c h1 _ => hw.1 c h1)
      have eH : HN w (bdM (w.1 40)) T C t = HN n (bdM (n.1 40)) T C t := by
        rw [← hH, hw.1 40 (by decide)]
        exact HN_same (hw.1 41 (by decide)) (hw.1 42 (by decide)) (hw.1 43 (by decide)) (hw.1 44 (by decide))
      have hl := HN_lt n (bdM (n.1 40)) T C t
      have hw2 := hk2 _ (Fil_s hT ht hw)
      unfold f_X4_layGame_L14b f_X4_layGame_L49
      rw [e_waysM w hT hcw.2.2.2.1, Option.bind_some, if_neg (by rw [nI_leI (by omega) (by omega)]; omega), e_heldByM N (by omega) w hcw (by omega), Option.bind_some, eH, i64, gdl_nI (by omega) (by omega), gdl0, gdl_nI (by omega) (by omega), gdl0, nI_clamp (by omega), nI_1]
      have em : (nI S &&& (nI (HN n (bdM (n.1 40)) T C t) ^^^ (-1)) = 0) ↔ HN n (bdM (n.1 40)) T C t &&& S = S := met_M (by omega) (by omega)
      by_cases h : HN n (bdM (n.1 40)) T C t &&& S = S
      · have e1 : wn n T C o 0 S t = true := decide_eq_true h
        rw [if_pos (em.mpr h)]
        rw [e1] at hw2
        exact hw2
      · have e1 : wn n T C o 0 S t = false := decide_eq_false h
        rw [if_neg (fun z => h (em.mp z))]
        rw [e1] at hw2
        exact hw2
    · intro g w hw
      show ok (f_X4_layGame_L14b N f g (nI τ) (nI S) (nI (2 ^ T)) w) _
      unfold f_X4_layGame_L14b
      rw [e_waysM w hT (by rw [hw.1 39 (by decide)]; exact eT), Option.bind_some, if_pos (by rw [nI_leI (by omega) (by omega)]; omega), nI_1]
      exact hk _ (Fil_r hw)
  · intro f v hv
    show ok (f_X4_layGame_L2b N f (nI τ) (nI (2 ^ C)) v) _
    unfold f_X4_layGame_L2b
    rw [hv.1 39 (by decide), eC, sh1 (by omega), if_pos (by rw [nI_leI (by omega) (by omega)]; omega)]
    refine ok_forG (rc := f_X4_layGame_L64 N) (body := f_X4_layGame_L64b N) (fun f i (v : xN) => f (nI τ) i v) (fun _ => rfl) τ (fun i w => (∀ c, c ≠ 52 → c ≠ 53 → w.1 c = u.1 c) ∧ w.2 = u.2 ∧ Tb T C (wn n T C o i) w) _ ?_ ?_ N 0 v (Nat.zero_le _) (by omega) ⟨fun c h1 _ => hv.1 c h1, hv.2.1, fun S hS t ht => hv.2.2 S hS t ht (Or.inl hS)⟩
    · intro g i w hi ⟨w1, w2, w3⟩ hk
      show ok (f_X4_layGame_L64b N g (nI τ) (nI i) w) _
      unfold f_X4_layGame_L64b
      rw [if_neg (by rw [nI_leI (by omega) (by omega)]; omega), nI_1]
      refine ok_bind.mpr (ok_mono (e_layTurn N hN w hT hC (by rw [w1 39 (by decide) (by decide)]; exact eT) (by rw [w1 39 (by decide) (by decide)]; exact eC) (by rw [w1 40 (by decide) (by decide)]; exact eo) ho w3) (fun x ⟨x1, x2, x3⟩ => hk x ⟨fun c h1 h2 => by rw [x1 c h1 h2, w1 c h1 h2], x2.trans w2, x3⟩))
    · intro g w hw
      show ok (f_X4_layGame_L64b N g (nI τ) (nI τ) w) _
      unfold f_X4_layGame_L64b
      rw [if_pos (by rw [nI_leI (by omega) (by omega)]; omega)]
      exact ok_some.mpr hw
theorem Inv_tab {n m : xN} (h : Inv n) (e : ∀ c, c ≠ 52 → c ≠ 53 → m.1 c = n.1 c) (e2 : m.2 = n.2) : Inv m := Inv_same h (fun b hb => e b (by omega) (by omega)) (fun k _ => by rw [e 39 (by decide) (by decide)]) e2
theorem HN_m {n : xN} {T C W w : Nat} : HN (mskF n T C W) (bdM ((mskF n T C W).1 40)) T C w = HN n (bdM (n.1 40)) T C w := by
  rw [mskF1 (by decide)]
  exact HN_same (mskF1 (by decide)) (mskF1 (by decide)) (mskF1 (by decide)) (mskF1 (by decide))
theorem e_in03 (a : Int32) : f_X4_in (Int32.toInt64 a) 0 3 = some (bI (0 ≤ a.toInt ∧ a.toInt ≤ 3)) := by rw [e_inI]; rfl
theorem e_in13 (a : Int32) : f_X4_in (Int32.toInt64 a) 1 3 = some (bI (1 ≤ a.toInt ∧ a.toInt ≤ 3)) := by rw [e_inI]; rfl
theorem ib16 : inb 0 16384 = true := by decide
set_option maxHeartbeats 1000000 in
theorem op_game (N : Nat) (hN : 16400 ≤ N) (a : Int32) : Op (f_X3_game N a) (f_X4_game N a) := by
  intro n h
  obtain ⟨T, C, hc⟩ := Crt_of h
  obtain ⟨o, ho, eo, xo, hbd⟩ := On_of h hc
  obtain ⟨t1, t2⟩ := T0 hc
  have z3 : (3 : Int32).toInt = 3 := rfl
  have p0 : 0 < 2 ^ C := Nat.pow_pos (by decide)
  have p1 : 0 < 2 ^ T := Nat.pow_pos (by decide)
  by_cases ha : 0 ≤ a.toInt ∧ a.toInt ≤ 3
  · obtain ⟨τ, hτ, rfl⟩ := i32_of (k := 4) ha.1 (by omega)
    have hle : nI τ ≤ 3 := by rw [i32_le, z3]; omega
    by_cases hT : T = 0
    · exact ⟨-4, n, n, by unfold f_X3_game; rw [if_neg (nI_pos (by omega)), if_pos hle, if_pos (t1.mpr hT)], by unfold f_X4_game; rw [e_in03, Option.bind_some, bI_t ha, if_neg (by decide), if_pos (t2.mpr hT)], h⟩
    · obtain ⟨v, ev, v1, v2, v3⟩ := e_layGame N hN n (mskF n T C (2 ^ T)) (o := o) (τ := τ) (Crt_m hc) (by rw [mskF1 (by decide)]; exact eo) ho (fun w => HN_m) (by omega)
      refine ⟨bI (wn n T C o τ 0 0 = true), mskF n T C (2 ^ T), v, ?_, ?_, Inv_tab (Inv_m T C _ h) v1 v2⟩
      · unfold f_X3_game f_X3_game_L52
        have e0 : f_X3_winningWays_l3 N (nI τ) 0 (mskF n T C (2 ^ T)) = some (wwX n T C o τ 0) := e_ww3 N (by omega) n hc hbd xo ho τ (by omega) 0 p0
        rw [if_neg (nI_pos (by omega)), if_pos hle, if_neg (fun z => hT (t1.mp z)), e_judge N (by omega) n hc, Option.bind_some, e0, Option.bind_some, e_none, Option.bind_some, bl_ww n hc.1 τ 0 0 p1]
        cases wn n T C o τ 0 0 <;> rfl
      · unfold f_X4_game f_X4_game_L43
        have r0 : v.1 52 0 = bI (wn n T C o τ 0 0 = true) := v3 0 p0 0 p1
        rw [e_in03, Option.bind_some, bI_t ha, if_neg (by decide), mskF1 (by decide), if_neg (fun z => hT (t2.mp z)), ev, Option.bind_some, gdlT ib16, gdl0, tn0, r0]
        cases wn n T C o τ 0 0 <;> rfl
  · refine ⟨-1, n, n, ?_, ?_, h⟩
    · unfold f_X3_game f_X3_game_L9
      by_cases hl : a < 0
      · rw [if_pos hl]
      · rw [if_neg hl, if_neg (fun z => ha ⟨by rw [i32_lt, z0] at hl; omega, by rw [i32_le, z3] at z; exact z⟩)]
    · unfold f_X4_game
      rw [e_in03, Option.bind_some, bI_f ha, if_pos rfl]
def nmR (n : xN) (T C o τ : Nat) : Nat → Int32
  | 0 => -9
  | j + 1 => if o.testBit (C - 1 - j) = true ∧ ans T (wn n T C o τ) (2 ^ (C - 1 - j)) 0 = false then nI (C - 1 - j) else nmR n T C o τ j
theorem nmR_s (n : xN) {T C o τ i : Nat} (hi : i < C) : nmR n T C o τ (C - i) = if o.testBit i = true ∧ ans T (wn n T C o τ) (2 ^ i) 0 = false then nI i else nmR n T C o τ (C - (i + 1)) := by
  have e1 : C - i = (C - (i + 1)) + 1 := by omega
  have e2 : C - 1 - (C - (i + 1)) = i := by omega
  rw [e1, nmR, e2]
set_option maxHeartbeats 1000000 in
theorem op_names (N : Nat) (hN : 16400 ≤ N) (a : Int32) : Op (f_X3_names N a) (f_X4_names N a) := by
  intro n h
  obtain ⟨T, C, hc⟩ := Crt_of h
  obtain ⟨o, ho, eo, xo, hbd⟩ := On_of h hc
  obtain ⟨t1, t2⟩ := T0 hc
  have z3 : (3 : Int32).toInt = 3 := rfl
  have hC := hc.2.1
  have h8 := p8 hC
  have p1 : 0 < 2 ^ T := Nat.pow_pos (by decide)
  by_cases ha : 1 ≤ a.toInt ∧ a.toInt ≤ 3
  · obtain ⟨τ', hτ', rfl⟩ := i32_of (a := a) (k := 4) (by omega) (by omega)
    have i1 : 1 ≤ τ' := by have := ha.1; rw [nI_toInt (by omega)] at this; omega
    obtain ⟨τ, rfl⟩ : ∃ τ, τ' = τ + 1 := ⟨τ' - 1, by omega⟩
    have hle : nI (τ + 1) ≤ 3 := by rw [i32_le, z3]; omega
    have hlo : ¬ nI (τ + 1) < 1 := by rw [i32_lt, z1]; omega
    by_cases hT : T = 0
    · exact ⟨-4, n, n, by unfold f_X3_names; rw [if_neg hlo, if_pos hle, if_pos (t1.mpr hT)], by unfold f_X4_names; rw [e_in13, Option.bind_some, bI_t ha, if_neg (by decide), if_pos (t2.mpr hT)], h⟩
    · have hcm : Crt (mskF n T C (2 ^ T)) T C := Crt_m hc
      obtain ⟨v, ev, v1, v2, v3⟩ := e_layGame N hN n (mskF n T C (2 ^ T)) (o := o) (τ := τ) hcm (by rw [mskF1 (by decide)]; exact eo) ho (fun w => HN_m) (by omega)
      have vm : ∀ c, c ≠ 36 → c ≠ 52 → c ≠ 53 → v.1 c = n.1 c := fun c a b d => by rw [v1 c b d, mskF1 a]
      refine ⟨nmR n T C o τ C, mskF n T C (2 ^ T), v, ?_, ?_, Inv_tab (Inv_m T C _ h) v1 v2⟩
      · unfold f_X3_names
        rw [if_neg hlo, if_pos hle, if_neg (fun z => hT (t1.mp z)), e_judge N (by omega) n hc, Option.bind_some]
        have key := eq_forR (rc := f_X3_names_L38 N) (body := f_X3_names_L38b N) (fun f i (_ : Unit) => f (nI (τ + 1)) i (mskF n T C (2 ^ T))) (fun _ => rfl) C (fun _ => ()) (fun i => some (nmR n T C o τ (C - i), mskF n T C (2 ^ T))) ?_ ?_ N 0 (Nat.zero_le _) (by omega)
        · exact key
        · intro f i hi hk
          have hk2 : f (nI (τ + 1)) (nI (i + 1)) (mskF n T C (2 ^ T)) = _ := hk
          show f_X3_names_L38b N f (nI (τ + 1)) (nI i) (mskF n T C (2 ^ T)) = _
          have h2i : 2 ^ i < 2 ^ C := Nat.pow_lt_pow_right (by decide) hi
          unfold f_X3_names_L38b f_X3_names_L82
          rw [hcm.2.2.2.2.2.2.1, if_neg (by rw [nI_leI (by omega) (by omega)]; omega), e_isOn _ (show (mskF n T C (2 ^ T)).1 19 1 = nI o by rw [mskF1 (by decide)]; exact xo) (by omega) (by omega), Option.bind_some, nI_pred, sh1 (by omega), e_ww3 N (by omega) n hc hbd xo ho τ (by omega) _ h2i, Option.bind_some, e_wAhead N (by omega) _ hc.1 hcm.2.2.2.2.2.1, Option.bind_some, e_none, Option.bind_some, bl_ans n hc.1 p1, nI_1, hk2, nmR_s n hi]
          cases o.testBit i <;> cases ans T (wn n T C o τ) (2 ^ i) 0 <;> simp [bI]
        · intro f
          show f_X3_names_L38b N f (nI (τ + 1)) (nI C) (mskF n T C (2 ^ T)) = _
          unfold f_X3_names_L38b
          rw [hcm.2.2.2.2.2.2.1, if_pos (by rw [nI_leI (by omega) (by omega)]; omega), Nat.sub_self]; rfl
      · unfold f_X4_names
        rw [e_in13, Option.bind_some, bI_t ha, if_neg (by decide), mskF1 (by decide), if_neg (fun z => hT (t2.mp z)), nI_pred, ev, Option.bind_some]
        have key := eq_forR (rc := f_X4_names_L33 N) (body := f_X4_names_L33b N) (fun f i (_ : Unit) => f i v) (fun _ => rfl) C (fun _ => ()) (fun i => some (nmR n T C o τ (C - i), v)) ?_ ?_ N 0 (Nat.zero_le _) (by omega)
        · exact key
        · intro f i hi hk
          have hk2 : f (nI (i + 1)) v = _ := hk
          show f_X4_names_L33b N f (nI i) v = _
          have h2i : 2 ^ i < 2 ^ C := Nat.pow_lt_pow_right (by decide) hi
          have ea : f_X4_answers N (nI (2 ^ i)) 0 v = _ := e_answers N (by omega) v hc.1 hC (by rw [vm 39 (by decide) (by decide) (by decide)]; exact hc.2.2.2.1) v3 h2i p1
          unfold f_X4_names_L33b f_X4_names_L67
          rw [vm 39 (by decide) (by decide) (by decide), hc.2.2.2.2.1, if_neg (by rw [nI_leI (by omega) (by omega)]; omega), gdlT ib1, gdl0, tn1, vm 40 (by decide) (by decide) (by decide), eo, e_has (by omega) (by omega), Option.bind_some, sh1 (by omega), ea, Option.bind_some, nI_1, hk2, nmR_s n hi]
          cases o.testBit i <;> cases ans T (wn n T C o τ) (2 ^ i) 0 <;> simp [bI]
        · intro f
          show f_X4_names_L33b N f (nI C) v = _
          unfold f_X4_names_L33b
          rw [vm 39 (by decide) (by decide) (by decide), hc.2.2.2.2.1, if_pos (by rw [nI_leI (by omega) (by omega)]; omega), Nat.sub_self]; rfl
  · refine ⟨-1, n, n, ?_, ?_, h⟩
    · unfold f_X3_names f_X3_names_L10
      by_cases hl : a < 1
      · rw [if_pos hl]
      · rw [if_neg hl, if_neg (fun z => ha ⟨by rw [i32_lt, z1] at hl; omega, by rw [i32_le, z3] at z; exact z⟩)]
    · unfold f_X4_names
      rw [e_in13, Option.bind_some, bI_f ha, if_pos rfl]
