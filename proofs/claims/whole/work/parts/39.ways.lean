/-! ===== all ways judged; how many bits; loops that count down; good ===== -/
/-- the counter one below -/
def dn (i : Nat) : Int32 := nI i - 1
theorem dn_s (i : Nat) : dn (i + 1) = nI i := nI_pred i
theorem dn_p (i : Nat) : nI i + (-1) = dn i := by
  unfold dn
  rw [Int32.sub_eq_add_neg]
theorem dn_0 : dn 0 < 0 := by decide
theorem eq_forD {σ O : Type} {rc : Nat → Int32 → σ → Option O} {body : (Int32 → σ → Option O) → Int32 → σ → Option O} (hrec : ∀ n i s, rc (n + 1) i s = body (rc n) i s) (W : Nat) (S : Nat → σ) (o : Option O)
    (hstep : ∀ (k : Int32 → σ → Option O) (i : Nat), i < W → body k (nI i) (S (i + 1)) = k (dn i) (S i)) (hexit : ∀ (k : Int32 → σ → Option O), body k (dn 0) (S 0) = o) :
    ∀ (n i : Nat), i ≤ W → i < n → rc n (dn i) (S i) = o := by
  intro n
  induction n with
  | zero => intro i _ h; exact absurd h (by omega)
  | succ n ih =>
    intro i hi hn
    rw [hrec]
    cases i with
    | zero => exact hexit _
    | succ i =>
      rw [dn_s, hstep _ i (by omega)]
      exact ih i (by omega) (by omega)
/-- how many below i; the first from W - j on -/
def cnt (p : Nat → Bool) : Nat → Nat
  | 0 => 0
  | i + 1 => cnt p i + (if p i = true then 1 else 0)
def fstD (p : Nat → Bool) (W : Nat) : Nat → Int32
  | 0 => -9
  | j + 1 => if p (W - 1 - j) = true then nI (W - 1 - j) else fstD p W j
theorem cnt_le (p : Nat → Bool) (i : Nat) : cnt p i ≤ i := by
  induction i with
  | zero => exact Nat.le_refl 0
  | succ i ih => rw [cnt]; split <;> omega
theorem cnt_mono (p : Nat → Bool) {i j : Nat} (h : i ≤ j) : cnt p i ≤ cnt p j := by
  induction j with
  | zero => have : i = 0 := by omega
            subst this; exact Nat.le_refl _
  | succ j ih =>
    by_cases e : i = j + 1
    · subst e; exact Nat.le_refl _
    · rw [cnt]; have := ih (by omega); omega
theorem mI_mI (n : xN) (a k : Nat) (v w : Int32) : mI (mI n a k v) a k w = mI n a k w := by
  unfold mI
  refine Prod.ext (funext fun b => funext fun j => ?_) rfl
  simp only [va_up]
  by_cases hb : b = a
  · simp only [hb, reduceIte]
    by_cases hj : j = k
    · subst hj; rw [upd_s, upd_s]
    · rw [upd_o hj, upd_o hj, upd_o hj]
  · simp only [hb, reduceIte]
/-- all ways judged -/
def mskF (n : xN) (T C W : Nat) : xN := (va_up n.1 36 (fun j => if j < W then nI (HN n (n.1 20) T C j) else n.1 36 j), n.2)
theorem mskF1 {n : xN} {T C W b : Nat} (h : b ≠ 36) : (mskF n T C W).1 b = n.1 b := by simp [mskF, va_up, h]
theorem mskF36 {n : xN} {T C W j : Nat} (h : j < W) : (mskF n T C W).1 36 j = nI (HN n (n.1 20) T C j) := by simp [mskF, va_up, h]
theorem mskF_0 (n : xN) (T C : Nat) : mskF n T C 0 = n := by
  unfold mskF
  refine Prod.ext (funext fun b => funext fun j => ?_) rfl
  simp only [va_up]
  split
  · rename_i h; subst h; exact if_neg (by omega)
  · rfl
theorem mskF_s (n : xN) (T C W : Nat) : mI (mskF n T C W) 36 W (nI (HN n (n.1 20) T C W)) = mskF n T C (W + 1) := by
  unfold mskF mI
  refine Prod.ext (funext fun b => funext fun j => ?_) rfl
  simp only [va_up]
  by_cases hb : b = 36
  · simp only [hb, reduceIte]
    by_cases hj : j = W
    · subst hj; rw [upd_s, if_pos (by omega)]
    · rw [upd_o hj]
      by_cases h3 : j < W
      · rw [if_pos h3, if_pos (by omega)]
      · rw [if_neg h3, if_neg (by omega)]
  · simp only [hb, reduceIte]
theorem Crt_m {n : xN} {T C W : Nat} (hc : Crt n T C) : Crt (mskF n T C W) T C := Crt_keep hc (by simp [mskF1]) (mskF1 (by decide)) (mskF1 (by decide)) (mskF1 (by decide)) (mskF1 (by decide)) (mskF1 (by decide)) (mskF1 (by decide)) (mskF1 (by decide)) (mskF1 (by decide)) (mskF1 (by decide)) (mskF1 (by decide))
theorem Inv_m {n : xN} (T C W : Nat) (h : Inv n) : Inv (mskF n T C W) := by
  unfold Inv cOf at *
  simp only [mskF1 (show (1 : Nat) ≠ 36 by decide), mskF, va_up, reduceIte, Nat.reduceEqDiff] at *
  exact h
theorem e_judge (N : Nat) (hN : 100 ≤ N) (n : xN) {T C : Nat} (hc : Crt n T C) : f_X3_judgeWays_20 N n = some (mskF n T C (2 ^ T)) := by
  have h6 : 2 ^ T ≤ 2 ^ 6 := p2 hc.1
  unfold f_X3_judgeWays_20
  have key := eq_for (rc := fun k i s => f_X3_judgeWays_20_L2 N k i s) (body := fun k i s => f_X3_judgeWays_20_L2b N k i s) (fun _ _ _ => rfl) 0 (2 ^ T) (fun i => mskF n T C i) (some (mskF n T C (2 ^ T))) ?_ ?_ N 0 (Nat.le_refl _) (Nat.zero_le _) (by omega)
  · rw [mskF_0] at key; exact key
  · intro k i _ hi
    unfold f_X3_judgeWays_20_L2b
    have hcm : Crt (mskF n T C i) T C := Crt_m hc
    rw [e_waysX _ hc.1 hcm.2.2.2.2.2.1, Option.bind_some, if_neg (by rw [nI_leI (by omega) (by omega)]; omega), e_heldBy20 N (by omega) _ hcm hi, Option.bind_some, gdl_nI (by omega) (by omega), gdl0, nI_clamp (by omega), nI_1]
    exact congrArg (k (nI (i + 1))) (mskF_s n T C i)
  · intro k
    unfold f_X3_judgeWays_20_L2b
    have hcm : Crt (mskF n T C (2 ^ T)) T C := Crt_m hc
    rw [e_waysX _ hc.1 hcm.2.2.2.2.2.1, Option.bind_some, if_pos (by rw [nI_leI (by omega) (by omega)]; omega)]
/-- good ways -/
def pG (n : xN) (T C o w : Nat) : Bool := decide (HN n (bdM (n.1 40)) T C w &&& o = o)
theorem bI_pG (n : xN) (T C o w : Nat) : bI (HN n (bdM (n.1 40)) T C w &&& o = o) = bI (pG n T C o w = true) := bI_c (by simp [pG])
theorem e_metK (n : xN) {T C o w : Nat} (hc : Crt n T C) (hbd : ∀ b, b < 8 → n.1 20 b = bdM (n.1 40) b) (hw : w < 2 ^ T) (ho : o < 2 ^ 31) : f_X3_isMet ((mskF n T C (2 ^ T)).1 36 w) (nI o) = some (bI (pG n T C o w = true)) := by
  have h8 := p8 hc.2.1
  have hl := HN_lt n (bdM (n.1 40)) T C w
  rw [mskF36 hw, HN_c hc hbd, e_isMet (by omega) ho, bI_pG]
theorem e_goodMK (N : Nat) (hN : 10 ≤ N) (n m : xN) {T C w o : Nat} (hc : Crt m T C) (hw : w < 2 ^ 31) (eo : m.1 40 1 = nI o) (ho : o < 2 ^ 31) (hH : HN m (bdM (m.1 40)) T C w = HN n (bdM (n.1 40)) T C w) : f_X4_isGood N (nI w) m = some (bI (pG n T C o w = true)) := by
  rw [e_goodM N hN m hc hw eo ho, hH, bI_pG]
theorem T0 {n : xN} {T C : Nat} (hc : Crt n T C) : (n.1 7 0 = 0 ↔ T = 0) ∧ (n.1 39 1 = 0 ↔ T = 0) := by
  obtain ⟨hT, -, -, eT, -, xT, -⟩ := hc
  rw [eT, xT, show (0 : Int32) = nI 0 from rfl, nI_eq (by omega) (by omega)]
  exact ⟨Iff.rfl, Iff.rfl⟩
theorem cnt_n (N : Nat) (hN : 100 ≤ N) (n m : xN) {T C o : Nat} (hc : Crt m T C) (eo : m.1 40 1 = nI o) (ho : o < 2 ^ 31) (hH : ∀ w, HN m (bdM (m.1 40)) T C w = HN n (bdM (n.1 40)) T C w) : f_X4_goodMany N m = some (nI (cnt (pG n T C o) (2 ^ T))) := by
  have h6 : 2 ^ T ≤ 2 ^ 6 := p2 hc.1
  unfold f_X4_goodMany
  have key := eq_for (rc := fun k i s => f_X4_goodMany_L4 N m k s i) (body := fun k i s => f_X4_goodMany_L4b N m (fun a b => k b a) s i) (fun _ _ _ => rfl) 0 (2 ^ T) (fun i => nI (cnt (pG n T C o) i)) (some (nI (cnt (pG n T C o) (2 ^ T)))) ?_ ?_ N 0 (Nat.le_refl _) (Nat.zero_le _) (by omega)
  · exact key
  · intro k i _ hi
    unfold f_X4_goodMany_L4b f_X4_goodMany_L26
    rw [e_waysM _ hc.1 hc.2.2.2.1, Option.bind_some, if_neg (by rw [nI_leI (by omega) (by omega)]; omega), e_goodMK N (by omega) n m hc (by omega) eo ho (hH i), Option.bind_some, nI_1, cnt]
    by_cases h : pG n T C o i = true
    · rw [bI_t h, if_neg (by decide), if_pos h, nI_1]
    · rw [bI_f h, if_pos rfl, if_neg h, Int32.add_zero]; rfl
  · intro k
    unfold f_X4_goodMany_L4b
    rw [e_waysM _ hc.1 hc.2.2.2.1, Option.bind_some, if_pos (by rw [nI_leI (by omega) (by omega)]; omega)]
theorem fst_step (p : Nat → Bool) {W i : Nat} (hi : i < W) : fstD p W (W - i) = if p i = true then nI i else fstD p W (W - (i + 1)) := by
  have e1 : W - i = (W - (i + 1)) + 1 := by omega
  rw [e1, fstD]
  have e2 : W - 1 - (W - (i + 1)) = i := by omega
  rw [e2]
theorem Crt_k11 {n : xN} {T C : Nat} (hc : Crt n T C) (v : Int32) : Crt (mI n 39 11 v) T C := Crt_keep hc (by simp [mI1, upd]) (by simp [mI1]) (by simp [mI1]) (by simp [mI1]) (by simp [mI1]) (by simp [mI1]) (by simp [mI1]) (by simp [mI1]) (by simp [mI1]) (by simp [mI1]) (by simp [mI1])
theorem Crt_x10 {n : xN} {T C : Nat} (hc : Crt n T C) (v : Int32) : Crt (mI n 0 10 v) T C := Crt_keep hc (by simp [mI1]) (by simp [mI1]) (by simp [mI1]) (by simp [mI1]) (by simp [mI1]) (by simp [mI1]) (by simp [mI1]) (by simp [mI1]) (by simp [mI1]) (by simp [mI1]) (by simp [mI1])
set_option maxHeartbeats 1000000 in
theorem op_good (N : Nat) (hN : 100 ≤ N) : Op (f_X3_good N) (f_X4_good N) := by
  intro n h
  obtain ⟨T, C, hc⟩ := Crt_of h
  obtain ⟨o, ho, eo, xo, hbd⟩ := On_of h hc
  have h6 : 2 ^ T ≤ 2 ^ 6 := p2 hc.1
  have h8 := p8 hc.2.1
  obtain ⟨t1, t2⟩ := T0 hc
  by_cases hT : T = 0
  · refine ⟨-4, n, n, ?_, ?_, h⟩
    · rw [f_X3_good, if_pos (t1.mpr hT)]
    · rw [f_X4_good, if_pos (t2.mpr hT)]
  · have hx : f_X3_good N n = some (nI (cnt (pG n T C o) (2 ^ T)), mI (mskF n T C (2 ^ T)) 0 10 (fstD (pG n T C o) (2 ^ T) (2 ^ T))) := by
      have hcm : Crt (mskF n T C (2 ^ T)) T C := Crt_m hc
      rw [f_X3_good, if_neg (fun q => hT (t1.mp q)), e_judge N hN n hc, Option.bind_some, e_waysX _ hc.1 hcm.2.2.2.2.2.1, Option.bind_some]
      have key := eq_forD (rc := fun k i s => f_X3_good_L39 N k s.1 s.2.1 i s.2.2) (body := fun k i (s : Int32 × Int32 × xN) => f_X3_good_L39b N (fun a b c d => k c (a, b, d)) s.1 s.2.1 i s.2.2) (fun k i s => fs_X3_good_L39 N k s.1 s.2.1 i s.2.2) (2 ^ T) (fun i => (nI (cnt (pG n T C o) (2 ^ T) - cnt (pG n T C o) i), fstD (pG n T C o) (2 ^ T) (2 ^ T - i), mskF n T C (2 ^ T))) (some (nI (cnt (pG n T C o) (2 ^ T)), mI (mskF n T C (2 ^ T)) 0 10 (fstD (pG n T C o) (2 ^ T) (2 ^ T)))) ?_ ?_ N (2 ^ T) (Nat.le_refl _) (by omega)
      · rw [Nat.sub_self, Nat.sub_self] at key; exact key
      · intro k i hi
        unfold f_X3_good_L39b f_X3_good_L67
        have hm := cnt_mono (pG n T C o) (show i + 1 ≤ 2 ^ T by omega)
        rw [cnt] at hm
        rw [if_neg (nI_pos (by omega)), gdl_nI (by omega) (by omega), gdl0, nI_clamp (by omega), mskF1 (show (19 : Nat) ≠ 36 by decide), xo, e_metK n hc hbd hi (by omega), Option.bind_some, dn_p, fst_step _ hi, cnt]
        by_cases q : pG n T C o i = true
        · rw [if_pos q] at hm
          rw [bI_t q, if_neg (by decide), if_pos q, if_pos q, nI_1]
          rw [show cnt (pG n T C o) (2 ^ T) - cnt (pG n T C o) i = cnt (pG n T C o) (2 ^ T) - (cnt (pG n T C o) i + 1) + 1 by omega]
        · rw [bI_f q, if_pos rfl, if_neg q, if_neg q]; rfl
      · intro k
        unfold f_X3_good_L39b
        rw [if_pos dn_0]; rfl
    have hm : f_X4_good N (mI (mskF n T C (2 ^ T)) 0 10 (fstD (pG n T C o) (2 ^ T) (2 ^ T))) = some (nI (cnt (pG n T C o) (2 ^ T)), mI (mI (mskF n T C (2 ^ T)) 0 10 (fstD (pG n T C o) (2 ^ T) (2 ^ T))) 39 11 (fstD (pG n T C o) (2 ^ T) (2 ^ T))) := by
      have hc1 : Crt (mI (mskF n T C (2 ^ T)) 0 10 (fstD (pG n T C o) (2 ^ T) (2 ^ T))) T C := Crt_x10 (Crt_m hc) _
      have e40 : (mI (mskF n T C (2 ^ T)) 0 10 (fstD (pG n T C o) (2 ^ T) (2 ^ T))).1 40 = n.1 40 := by simp [mI1, mskF1]
      have hH : ∀ w, HN (mI (mskF n T C (2 ^ T)) 0 10 (fstD (pG n T C o) (2 ^ T) (2 ^ T))) (bdM ((mI (mskF n T C (2 ^ T)) 0 10 (fstD (pG n T C o) (2 ^ T) (2 ^ T))).1 40)) T C w = HN n (bdM (n.1 40)) T C w := fun w => rfl
      generalize mI (mskF n T C (2 ^ T)) 0 10 (fstD (pG n T C o) (2 ^ T) (2 ^ T)) = m at hc1 e40 hH ⊢
      rw [f_X4_good, if_neg (fun q => hT ((T0 hc1).2.mp q)), e_waysM _ hc.1 (Crt_k11 hc1 _).2.2.2.1, Option.bind_some]
      have key := eq_forD (rc := fun k i s => f_X4_good_L23 N k i s) (body := fun k i s => f_X4_good_L23b N k i s) (fun _ _ _ => rfl) (2 ^ T) (fun i => mI m 39 11 (fstD (pG n T C o) (2 ^ T) (2 ^ T - i))) (some (nI (cnt (pG n T C o) (2 ^ T)), mI m 39 11 (fstD (pG n T C o) (2 ^ T) (2 ^ T)))) ?_ ?_ N (2 ^ T) (Nat.le_refl _) (by omega)
      · rw [Nat.sub_self] at key; exact key
      · intro k i hi
        unfold f_X4_good_L23b f_X4_good_L44
        rw [if_neg (nI_pos (by omega)), e_goodMK N (by omega) n _ (Crt_k11 hc1 _) (by omega) (o := o) (by simp [mI1, e40, eo]) (by omega) (hH i), Option.bind_some, dn_p, fst_step _ hi, mI_mI, mI_mI]
        by_cases q : pG n T C o i = true
        · rw [bI_t q, if_neg (by decide), if_pos q]
        · rw [bI_f q, if_pos rfl, if_neg q]
          simp [mI1, upd]
      · intro k
        unfold f_X4_good_L23b
        rw [if_pos dn_0, cnt_n N hN n _ (Crt_k11 hc1 _) (o := o) (by simp [mI1, e40, eo]) (by omega) hH]
        rfl
    exact Op_mk hx hm rfl (Inv_told (Inv_m T C _ h) _)
