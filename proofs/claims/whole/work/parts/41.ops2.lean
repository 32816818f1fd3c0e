/-! ===== promises 46 to 48, 50, 51; tight; clash; worth ===== -/
theorem op_asked : OpP f_X3_asked f_X4_asked := fun n h => ⟨n.1 0 10, rfl, by rw [f_X4_asked, h.2.2.2.2.1.1]⟩
theorem op_upper : OpL f_X3_upper f_X4_upper := fun n h => ⟨n.2 0 11, rfl, by rw [f_X4_upper, h.2.2.2.2.1.2.1]⟩
theorem op_lower : OpL f_X3_lower f_X4_lower := fun n h => ⟨n.2 0 12, rfl, by rw [f_X4_lower, h.2.2.2.2.1.2.2]⟩
theorem op_finding : OpP f_X3_finding f_X4_finding := fun n h => ⟨n.1 0 9, rfl, by rw [f_X4_finding, h.2.2.2.1.1]⟩
theorem op_findings (a : Int32) : OpP (f_X3_findings a) (f_X4_findings a) := by
  intro n h
  have z5 : (5 : Int32).toInt = 5 := rfl
  have e4 : f_X4_in (Int32.toInt64 a) (1 : Int64) (5 : Int64) = some (bI (1 ≤ a.toInt ∧ a.toInt ≤ 5)) := by rw [e_inI]; rfl
  by_cases ha : 1 ≤ a.toInt ∧ a.toInt ≤ 5
  · obtain ⟨f, hf, rfl⟩ := i32_of (show 0 ≤ a.toInt by omega) (k := 6) (by omega)
    refine ⟨n.1 49 f, ?_, ?_⟩
    · rw [f_X3_findings, if_neg (by rw [i32_lt, z1]; omega), if_pos (by rw [i32_le, z5]; omega), gdl_nI (by omega) hf, gdl0, nI_clamp (by omega), h.2.2.2.1.2 f hf]
    · rw [f_X4_findings, e4, bI_t ha, Option.bind_some, if_neg (by decide), gdl_nI (by omega) hf, gdl0, nI_clamp (by omega)]
      rfl
  · refine ⟨-1, ?_, ?_⟩
    · rw [f_X3_findings]
      by_cases q : a < 1
      · rw [if_pos q]; rfl
      · rw [if_neg q, if_neg (by rw [i32_lt, z1] at q; rw [i32_le, z5]; omega)]; rfl
    · rw [f_X4_findings, e4, bI_f ha, Option.bind_some, if_pos rfl]; rfl
/-- a set without one -/
def rmv (w i : Nat) : Nat := w ^^^ (w &&& 2 ^ i)
theorem rmv_lt {w i T : Nat} (h : w < 2 ^ T) : rmv w i < 2 ^ T := Nat.xor_lt_two_pow h (Nat.lt_of_le_of_lt Nat.and_le_left h)
theorem rmv_tb (w i j : Nat) : (rmv w i).testBit j = (w.testBit j && !decide (j = i)) := by
  unfold rmv
  rw [Nat.testBit_xor, Nat.testBit_and, Nat.testBit_two_pow]
  by_cases h : i = j
  · subst h; simp
  · have : ¬ j = i := fun q => h q.symm
    simp [h, this]
theorem e_rmv {w i : Nat} (hw : w < 2 ^ 31) (hi : i ≤ 30) : nI w &&& (((1 : Int32) <<< (nI i &&& 31)) ^^^ (-1)) = nI (rmv w i) := by
  have h2 : 2 ^ i ≤ 2 ^ 30 := p2 hi
  rw [sh1 hi]
  apply b_ext
  intro j hj
  rw [b_and, b_xor, b_m1 j hj, bt_nI (by omega), bt_nI (by omega), bt_nI (Nat.lt_trans (rmv_lt hw) (by decide)), rmv_tb, Nat.testBit_two_pow]
  by_cases h : i = j
  · subst h; simp
  · have : ¬ j = i := fun q => h q.symm
    simp [h, this]
def allR (q : Nat → Bool) (e : Nat) : Nat → Bool
  | 0 => true
  | j + 1 => q (e - 1 - j) && allR q e j
theorem allR_s (q : Nat → Bool) {e i : Nat} (hi : i < e) : allR q e (e - i) = (q i && allR q e (e - (i + 1))) := by
  have e1 : e - i = (e - (i + 1)) + 1 := by omega
  have e2 : e - 1 - (e - (i + 1)) = i := by omega
  rw [e1, allR, e2]
theorem allR_iff (q : Nat → Bool) (e : Nat) : ∀ j, j ≤ e → (allR q e j = true ↔ ∀ w, e - j ≤ w → w < e → q w = true) := by
  intro j
  induction j with
  | zero => intro _; exact ⟨fun _ w h1 h2 => absurd h1 (by omega), fun _ => rfl⟩
  | succ j ih =>
    intro hj
    rw [allR, Bool.and_eq_true, ih (by omega)]
    constructor
    · rintro ⟨a, b⟩ w h1 h2
      by_cases e1 : w = e - 1 - j
      · rw [e1]; exact a
      · exact b w (by omega) h2
    · intro h
      exact ⟨h _ (by omega) (by omega), fun w h1 h2 => h w (by omega) h2⟩
theorem e_tightX (N : Nat) (hN : 100 ≤ N) (n : xN) {T C o way : Nat} (hc : Crt n T C) (hw : way < 2 ^ T) (xo : n.1 19 1 = nI o) (ho : o < 2 ^ 31) (hbd : ∀ b, b < 8 → n.1 20 b = bdM (n.1 40) b) : f_X3_tight_L25 N n N (nI way) 0 = some (bI (allR (fun i => !(way.testBit i && pG n T C o (rmv way i))) T T = true)) := by
  have h6 : 2 ^ T ≤ 2 ^ 6 := p2 hc.1
  have hT := hc.1
  have key := eq_forR (rc := f_X3_tight_L25 N n) (body := f_X3_tight_L25b N n) (fun f i (_ : Unit) => f (nI way) i) (fun _ => rfl) T (fun _ => ()) (fun i => some (bI (allR (fun i => !(way.testBit i && pG n T C o (rmv way i))) T (T - i) = true))) ?_ ?_ N 0 (Nat.zero_le _) (by omega)
  · exact key
  · intro k i hi hk
    unfold f_X3_tight_L25b f_X3_tight_L60
    rw [hc.2.2.2.2.2.1, if_neg (by rw [nI_leI (by omega) (by omega)]; omega), e_hasBit (by omega) (by omega), Option.bind_some, e_rmv (by omega) (by omega), e_goodX N (by omega) n hc (rmv_lt hw) xo ho, Option.bind_some, HN_c hc hbd, bI_pG, nI_1, hk, allR_s _ hi]
    cases h1 : way.testBit i <;> cases h2 : pG n T C o (rmv way i) <;> simp [bI]
  · intro k
    unfold f_X3_tight_L25b
    rw [hc.2.2.2.2.2.1, if_pos (by rw [nI_leI (by omega) (by omega)]; omega), Nat.sub_self]
    rfl
theorem e_tightM (N : Nat) (hN : 100 ≤ N) (n : xN) {T C o way : Nat} (hc : Crt n T C) (hw : way < 2 ^ T) (eo : n.1 40 1 = nI o) (ho : o < 2 ^ 31) : ∀ (k i : Nat), i ≤ T → T - i + 1 < k → f_X4_tight_L18 N n k (nI way) 1 (nI i) = some (bI (allR (fun i => !(way.testBit i && pG n T C o (rmv way i))) T (T - i) = true)) := by
  have h6 : 2 ^ T ≤ 2 ^ 6 := p2 hc.1
  have hT := hc.1
  have h0 : ∀ (k : Nat) (c : Int32), f_X4_tight_L18 N n (k + 1) (nI way) 0 c = some 0 := by
    intro k c
    show f_X4_tight_L18b N n (f_X4_tight_L18 N n k) (nI way) 0 c = some 0
    unfold f_X4_tight_L18b f_X4_tight_L64 f_X4_tight_L73
    split <;> rfl
  intro k
  induction k with
  | zero => intro i _ h; exact absurd h (by omega)
  | succ k ih =>
    intro i hi hk
    show f_X4_tight_L18b N n (f_X4_tight_L18 N n k) (nI way) 1 (nI i) = _
    unfold f_X4_tight_L18b f_X4_tight_L52 f_X4_tight_L57
    rw [hc.2.2.2.1]
    by_cases h : i < T
    · rw [if_neg (by rw [nI_leI (by omega) (by omega)]; omega), if_neg (by decide), e_has (by omega) (by omega), Option.bind_some, e_rmv (by omega) (by omega), e_goodM N (by omega) n hc (Nat.lt_trans (rmv_lt hw) (by omega)) eo ho, Option.bind_some, bI_pG, nI_1, ih (i + 1) (by omega) (by omega), allR_s _ h]
      obtain ⟨k', rfl⟩ : ∃ k', k = k' + 1 := ⟨k - 1, by omega⟩
      rw [h0]
      cases h1 : way.testBit i <;> cases h2 : pG n T C o (rmv way i) <;> simp [bI]
    · have : i = T := by omega
      subst this
      rw [if_pos (by rw [nI_leI (by omega) (by omega)]; omega), Nat.sub_self]
      rfl
theorem op_tight (N : Nat) (hN : 100 ≤ N) (a : Int32) : OpP (f_X3_tight N a) (f_X4_tight N a) := by
  intro n h
  obtain ⟨T, C, hc⟩ := Crt_of h
  obtain ⟨o, ho, eo, xo, hbd⟩ := On_of h hc
  obtain ⟨hT, hC, h0, eT, eC, xT, xC, hs, hcl, hg⟩ := id hc
  have h6 : 2 ^ T ≤ 2 ^ 6 := p2 hc.1
  have h8 := p8 hC
  by_cases ha : 0 ≤ a.toInt ∧ a.toInt < (2 ^ T : Nat)
  · obtain ⟨w, hw, rfl⟩ := i32_of ha.1 ha.2
    have eX := e_goodX N (by omega) n hc hw xo (by omega)
    rw [HN_c hc hbd, bI_pG] at eX
    have eM := e_goodM N (by omega) n hc (show w < 2 ^ 31 by omega) eo (by omega)
    rw [bI_pG] at eM
    by_cases q : pG n T C o w = true
    · refine ⟨bI (allR (fun i => !(w.testBit i && pG n T C o (rmv w i))) T T = true), ?_, ?_⟩
      · simp only [f_X3_tight, e_isWayX n hT xT, bI_t ha, Option.bind_some, eX, bI_t q]
        rw [if_neg (by decide), if_neg (by decide), e_tightX N hN n hc hw xo (by omega) hbd]
      · simp only [f_X4_tight, e_isWayM n hT eT, bI_t ha, Option.bind_some, eM, bI_t q]
        rw [if_neg (by decide)]
        exact e_tightM N hN n hc hw eo (by omega) N 0 (Nat.zero_le _) (by omega)
    · refine ⟨0, ?_, ?_⟩
      · simp only [f_X3_tight, e_isWayX n hT xT, bI_t ha, Option.bind_some, eX, bI_f q]; rfl
      · simp only [f_X4_tight, e_isWayM n hT eT, bI_t ha, Option.bind_some, eM, bI_f q]
        rw [if_neg (by decide)]
        obtain ⟨N', rfl⟩ : ∃ k, N = k + 1 := ⟨N - 1, by omega⟩
        show f_X4_tight_L18b (N' + 1) n (f_X4_tight_L18 (N' + 1) n N') (nI w) 0 0 = some 0
        unfold f_X4_tight_L18b f_X4_tight_L64 f_X4_tight_L73
        split <;> rfl
  · refine ⟨-1, ?_, ?_⟩
    · simp only [f_X3_tight, e_isWayX n hT xT, bI_f ha, Option.bind_some]; rfl
    · simp only [f_X4_tight, e_isWayM n hT eT, bI_f ha, Option.bind_some]; rfl
/-- none meets the set -/
def clN (n : xN) (T C s : Nat) : Bool := allR (fun w => !pG n T C s w) (2 ^ T) (2 ^ T)
theorem e_isClash (N : Nat) (hN : 100 ≤ N) (n : xN) {T C s : Nat} (hc : Crt n T C) (hbd : ∀ b, b < 8 → n.1 20 b = bdM (n.1 40) b) (hs : s < 2 ^ 31) : f_X3_isClash N (nI s) (mskF n T C (2 ^ T)) = some (bI (clN n T C s = true)) := by
  have h6 : 2 ^ T ≤ 2 ^ 6 := p2 hc.1
  have hcm : Crt (mskF n T C (2 ^ T)) T C := Crt_m hc
  unfold f_X3_isClash
  have key := eq_forR (rc := f_X3_isClash_L2 N (mskF n T C (2 ^ T))) (body := f_X3_isClash_L2b N (mskF n T C (2 ^ T))) (fun f i (_ : Unit) => f (nI s) i) (fun _ => rfl) (2 ^ T) (fun _ => ()) (fun i => some (bI (allR (fun w => !pG n T C s w) (2 ^ T) (2 ^ T - i) = true))) ?_ ?_ N 0 (Nat.zero_le _) (by omega)
  · exact key
  · intro k i hi hk
    unfold f_X3_isClash_L2b
    rw [e_waysX _ hc.1 hcm.2.2.2.2.2.1, Option.bind_some, if_neg (by rw [nI_leI (by omega) (by omega)]; omega), gdl_nI (by omega) (by omega), gdl0, nI_clamp (by omega), e_metK n hc hbd hi hs, Option.bind_some, nI_1, hk, allR_s _ hi]
    cases h2 : pG n T C s i <;> simp [bI]
  · intro k
    unfold f_X3_isClash_L2b
    rw [e_waysX _ hc.1 hcm.2.2.2.2.2.1, Option.bind_some, if_pos (by rw [nI_leI (by omega) (by omega)]; omega), Nat.sub_self]
    rfl
theorem e_clashes (N : Nat) (hN : 100 ≤ N) (n m : xN) {T C s : Nat} (hc : Crt m T C) (hs : s < 2 ^ 31) (hH : ∀ w, HN m (bdM (m.1 40)) T C w = HN n (bdM (n.1 40)) T C w) : f_X4_clashes N (nI s) m = some (bI (clN n T C s = true)) := by
  have h6 : 2 ^ T ≤ 2 ^ 6 := p2 hc.1
  have h8 := p8 hc.2.1
  unfold f_X4_clashes
  have key := eq_forR (rc := f_X4_clashes_L2 N m) (body := f_X4_clashes_L2b N m) (fun f i (_ : Unit) => f (nI s) i) (fun _ => rfl) (2 ^ T) (fun _ => ()) (fun i => some (bI (allR (fun w => !pG n T C s w) (2 ^ T) (2 ^ T - i) = true))) ?_ ?_ N 0 (Nat.zero_le _) (by omega)
  · exact key
  · intro k i hi hk
    unfold f_X4_clashes_L2b
    have hl := HN_lt n (bdM (n.1 40)) T C i
    rw [e_waysM _ hc.1 hc.2.2.2.1, Option.bind_some, if_neg (by rw [nI_leI (by omega) (by omega)]; omega), e_heldByM N (by omega) m hc (by omega), hH, Option.bind_some, nI_1, hk, allR_s _ hi]
    have e : (nI s &&& (nI (HN n (bdM (n.1 40)) T C i) ^^^ (-1)) = 0) ↔ pG n T C s i = true := by
      rw [met_M (by omega) hs]
      simp [pG]
    by_cases q : pG n T C s i = true
    · rw [if_pos (e.mpr q)]; simp [q, bI]
    · rw [if_neg (fun z => q (e.mp z))]
      have q' : pG n T C s i = false := by simpa using q
      simp [q']
  · intro k
    unfold f_X4_clashes_L2b
    rw [e_waysM _ hc.1 hc.2.2.2.1, Option.bind_some, if_pos (by rw [nI_leI (by omega) (by omega)]; omega), Nat.sub_self]
    rfl
theorem e_setsX (n : xN) {C : Nat} (hC : C ≤ 8) (eC : n.1 7 1 = nI C) : f_X0_clauseSets_7 n = some (nI (2 ^ C)) := by
  unfold f_X0_clauseSets_7
  rw [eC, sh1 (by omega)]
theorem op_clash (N : Nat) (hN : 100 ≤ N) (a : Int32) : OpX (f_X3_clash N a) (f_X4_clash N a) := by
  intro n h
  obtain ⟨T, C, hc⟩ := Crt_of h
  obtain ⟨o, ho, eo, xo, hbd⟩ := On_of h hc
  obtain ⟨hT, hC, h0, eT, eC, xT, xC, hs, hcl, hg⟩ := id hc
  have h6 : 2 ^ T ≤ 2 ^ 6 := p2 hc.1
  have h8 := p8 hC
  have hin : ∀ m : xN, m.1 39 3 = nI C → f_X4_in (Int32.toInt64 a) (0 : Int64) (Int32.toInt64 (((1 : Int32) <<< ((m.1 39 3) &&& 31)) - (1 : Int32))) = some (bI (0 ≤ a.toInt ∧ a.toInt < (2 ^ C : Nat))) := by
    intro m em
    rw [em, sh1 (by omega)]
    generalize 2 ^ C = K at *
    rw [e_inm a _ (by rw [nI_toInt (by omega)]; omega)]
    exact congrArg some (bI_c (by rw [nI_toInt (by omega)]))
  by_cases ha : 0 ≤ a.toInt ∧ a.toInt < (2 ^ C : Nat)
  · obtain ⟨s, hsC, rfl⟩ := i32_of ha.1 ha.2
    have a1 : ¬ nI s < 0 := nI_pos (by omega)
    have a2 : nI s < nI (2 ^ C) := by rw [nI_ltI (by omega) (by omega)]; exact hsC
    obtain ⟨t1, t2⟩ := T0 hc
    by_cases hT0 : T = 0
    · refine ⟨-4, n, ?_, ?_, h⟩
      · rw [f_X3_clash, if_neg a1, e_setsX n hC xC, Option.bind_some, if_pos a2, if_pos (t1.mpr hT0)]
      · rw [f_X4_clash, hin n eC, bI_t ha, Option.bind_some, if_neg (by decide), if_pos (t2.mpr hT0)]; rfl
    · have hcm : Crt (mskF n T C (2 ^ T)) T C := Crt_m hc
      refine ⟨bI (clN n T C s = true), mskF n T C (2 ^ T), ?_, ?_, Inv_m _ _ _ h⟩
      · rw [f_X3_clash, if_neg a1, e_setsX n hC xC, Option.bind_some, if_pos a2, if_neg (fun q => hT0 (t1.mp q)), e_judge N hN n hc, Option.bind_some, e_isClash N hN n hc hbd (by omega), Option.bind_some]
        unfold f_X3_clash_L54
        cases clN n T C s <;> simp [bI]
      · rw [f_X4_clash, hin _ hcm.2.2.2.2.1, bI_t ha, Option.bind_some, if_neg (by decide), if_neg (fun q => hT0 ((T0 hcm).2.mp q)), e_clashes N hN n _ hcm (by omega) (fun _ => rfl), Option.bind_some]
        unfold f_X4_clash_L45
        cases clN n T C s <;> simp [bI]
  · refine ⟨-1, n, ?_, ?_, h⟩
    · rw [f_X3_clash]
      by_cases q : a < 0
      · rw [if_pos q]; rfl
      · rw [if_neg q, e_setsX n hC xC, Option.bind_some, if_neg (by rw [i32_lt, z0] at q; rw [i32_lt, nI_toInt (by omega)]; omega)]; rfl
    · rw [f_X4_clash, hin n eC, bI_f ha, Option.bind_some, if_pos rfl]
