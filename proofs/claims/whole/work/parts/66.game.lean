/-! ===== promises 33, 34: the game; what it comes to, and the class's sets of ways ===== -/
def ans (T : Nat) (q : Nat → Nat → Bool) (S t : Nat) : Bool := q S t || anyA (fun i => !t.testBit i && q S (t ||| 2 ^ i)) T
def wst (T C o : Nat) (q : Nat → Nat → Bool) (S t : Nat) : Bool := if unm o S = 0 then ans T q S t else andA (fun k => !(unm o S).testBit k || ans T q (S ||| 2 ^ k) t) C
def wn (n : xN) (T C o : Nat) : Nat → Nat → Nat → Bool
  | 0, S, t => pG n T C S t
  | k + 1, S, t => wst T C o (wn n T C o k) S t
theorem ans_c {T : Nat} {q q' : Nat → Nat → Bool} {S t : Nat} (ht : t < 2 ^ T) (h : ∀ t, t < 2 ^ T → q S t = q' S t) : ans T q S t = ans T q' S t := by
  unfold ans
  rw [h t ht]
  have : ∀ m, m ≤ T → anyA (fun i => !t.testBit i && q S (t ||| 2 ^ i)) m = anyA (fun i => !t.testBit i && q' S (t ||| 2 ^ i)) m := by
    intro m
    induction m with
    | zero => intro _; rfl
    | succ m ih =>
      intro hm
      rw [anyA, anyA, ih (by omega), h _ (Nat.or_lt_two_pow ht (Nat.pow_lt_pow_right (by decide) (by omega)))]
  rw [this T (Nat.le_refl _)]
/-- bits of a long -/
def bl (x : Int64) (i : Nat) : Bool := x.toBitVec.getLsbD i
theorem bl_or (x y : Int64) (i : Nat) : bl (x ||| y) i = (bl x i || bl y i) := by unfold bl; rw [Int64.toBitVec_or, BitVec.getLsbD_or]
theorem bl_and (x y : Int64) (i : Nat) : bl (x &&& y) i = (bl x i && bl y i) := by unfold bl; rw [Int64.toBitVec_and, BitVec.getLsbD_and]
theorem bl_0 (i : Nat) : bl 0 i = false := BitVec.getLsbD_zero
theorem bl_m1 : ∀ i, i < 64 → bl (-1) i = true := by decide +kernel
theorem bl_sh : (List.range 64).all (fun t => (List.range 64).all (fun i => decide (bl ((1 : Int64) <<< (Int32.toInt64 (nI t) &&& 63)) i = decide (i = t)))) = true := by decide +kernel
theorem bl_shl {t i : Nat} (ht : t < 64) (hi : i < 64) : bl ((1 : Int64) <<< (Int32.toInt64 (nI t) &&& 63)) i = decide (i = t) := by
  have h := List.all_eq_true.mp bl_sh t (List.mem_range.mpr ht)
  have h2 := List.all_eq_true.mp h i (List.mem_range.mpr hi)
  exact of_decide_eq_true h2
theorem su64 : ∀ n, n < 64 → ((Int64.toUInt64 (Int32.toInt64 (nI n)) &&& Int64.toUInt64 63).toBitVec % 64).toNat = n := by decide +kernel
theorem bl_ushr {s : Nat} (hs : s < 64) (x : Int64) (i : Nat) : bl (UInt64.toInt64 (Int64.toUInt64 x >>> (Int64.toUInt64 (Int32.toInt64 (nI s)) &&& Int64.toUInt64 63))) i = bl x (s + i) := by
  show (Int64.toUInt64 x >>> (Int64.toUInt64 (Int32.toInt64 (nI s)) &&& Int64.toUInt64 63)).toBitVec.getLsbD i = x.toUInt64.toBitVec.getLsbD (s + i)
  rw [UInt64.toBitVec_shiftRight]
  show (x.toUInt64.toBitVec >>> ((Int64.toUInt64 (Int32.toInt64 (nI s)) &&& Int64.toUInt64 63).toBitVec % 64).toNat).getLsbD i = _
  rw [su64 s hs, BitVec.getLsbD_ushiftRight]
theorem bl_wo_all : (List.range 6).all (fun j => (List.range 64).all (fun i => decide (bl (xSl j) i = !i.testBit j))) = true := by decide +kernel
theorem bl_wo {j i : Nat} (hj : j < 6) (hi : i < 64) : bl (xSl j) i = !i.testBit j := by
  have h := List.all_eq_true.mp bl_wo_all j (List.mem_range.mpr hj)
  have h2 := List.all_eq_true.mp h i (List.mem_range.mpr hi)
  exact of_decide_eq_true h2
def mk64 (p : Nat → Bool) : Nat → Int64
  | 0 => 0
  | i + 1 => if p i = true then mk64 p i ||| ((1 : Int64) <<< (Int32.toInt64 (nI i) &&& 63)) else mk64 p i
theorem bl_mk (p : Nat → Bool) : ∀ m, m ≤ 64 → ∀ i, i < 64 → bl (mk64 p m) i = (decide (i < m) && p i) := by
  intro m
  induction m with
  | zero => intro _ i _; rw [mk64, bl_0]; simp
  | succ m ih =>
    intro hm i hi
    rw [mk64]
    by_cases h : p m = true
    · rw [if_pos h, bl_or, ih (by omega) i hi, bl_shl (by omega) hi]
      by_cases e : i = m
      · subst e; simp [h]
      · by_cases g : i < m
        · simp [g, e, show i < m + 1 by omega]
        · simp [g, e, show ¬ i < m + 1 by omega]
    · rw [if_neg h, ih (by omega) i hi]
      by_cases e : i = m
      · subst e; simp [h]
      · by_cases g : i < m
        · simp [g, show i < m + 1 by omega]
        · simp [g, show ¬ i < m + 1 by omega]
def ahd (L : Int64) : Nat → Int64
  | 0 => L
  | i + 1 => ahd L i ||| ((UInt64.toInt64 (Int64.toUInt64 L >>> (Int64.toUInt64 (Int32.toInt64 (nI (2 ^ i))) &&& Int64.toUInt64 63))) &&& (xSl i))
theorem add_or {t i : Nat} (h : t.testBit i = false) : t ||| 2 ^ i = 2 ^ i + t := by
  have e : 2 ^ i &&& t = 0 := by
    apply Nat.eq_of_testBit_eq
    intro j
    rw [Nat.testBit_and, Nat.testBit_two_pow, Nat.zero_testBit]
    by_cases z : i = j
    · subst z; rw [h]; simp
    · simp [z]
  have hd : t / 2 ^ i % 2 = 0 := by
    rw [div_tb, h]; rfl
  have hlt : t % 2 ^ i < 2 ^ i := Nat.mod_lt _ (Nat.pow_pos (by decide))
  have e1 : 2 ^ i * (t / 2 ^ i) + t % 2 ^ i = t := Nat.div_add_mod t (2 ^ i)
  apply Nat.eq_of_testBit_eq
  intro j
  rw [Nat.testBit_or, Nat.testBit_two_pow]
  have e2 : 2 ^ i + t = 2 ^ i * (t / 2 ^ i + 1) + t % 2 ^ i := by rw [Nat.mul_add, Nat.mul_one]; omega
  have e3 : t = 2 ^ i * (t / 2 ^ i) + t % 2 ^ i := e1.symm
  rw [e2, Nat.testBit_two_pow_mul_add _ hlt]
  have e4 : t.testBit j = if j < i then (t % 2 ^ i).testBit j else (t / 2 ^ i).testBit (j - i) := by
    conv => lhs; rw [e3]
    rw [Nat.testBit_two_pow_mul_add _ hlt]
  rw [e4]
  by_cases z : j < i
  · rw [if_pos z, if_pos z]
    simp [show ¬ i = j by omega]
  · rw [if_neg z, if_neg z]
    obtain ⟨q, hq⟩ : ∃ q, t / 2 ^ i = 2 * q := ⟨t / 2 ^ i / 2, by omega⟩
    rw [hq]
    obtain ⟨d, rfl⟩ : ∃ d, j = i + d := ⟨j - i, by omega⟩
    rw [show i + d - i = d by omega]
    cases d with
    | zero => simp
    | succ d =>
      rw [Nat.testBit_succ, Nat.testBit_succ, show (2 * q + 1) / 2 = q by omega, show 2 * q / 2 = q by omega]
      simp
theorem bl_ahd (L : Int64) {T t : Nat} (hT : T ≤ 6) (ht : t < 2 ^ T) : ∀ m, m ≤ T → bl (ahd L m) t = (bl L t || anyA (fun i => !t.testBit i && bl L (t ||| 2 ^ i)) m) := by
  have h6 : 2 ^ T ≤ 64 := p2 (m := 6) hT
  intro m
  induction m with
  | zero => intro _; rw [ahd, anyA, Bool.or_false]
  | succ m ih =>
    intro hm
    have hs : 2 ^ m < 64 := Nat.lt_of_lt_of_le (Nat.pow_lt_pow_right (by decide) (show m < 6 by omega)) (by decide)
    rw [ahd, anyA, bl_or, ih (by omega), bl_and, bl_ushr hs, bl_wo (by omega) (by omega), Bool.or_assoc]
    cases hb : t.testBit m
    · rw [add_or hb]
      cases bl L (2 ^ m + t) <;> simp
    · simp
def awl (g : Nat → Int64) (left : Nat) : Nat → Int64
  | 0 => -1
  | k + 1 => if left.testBit k = true then awl g left k &&& g k else awl g left k
theorem bl_awl (g : Nat → Int64) (left : Nat) {t : Nat} (ht : t < 64) : ∀ m, bl (awl g left m) t = andA (fun k => !left.testBit k || bl (g k) t) m := by
  intro m
  induction m with
  | zero => rw [awl, andA, bl_m1 t ht]
  | succ m ih =>
    rw [awl, andA]
    cases hb : left.testBit m
    · rw [if_neg (by decide), ih]; simp
    · rw [if_pos rfl, bl_and, ih]; simp
def wwX (n : xN) (T C o : Nat) : Nat → Nat → Int64
  | 0, S => mk64 (pG n T C S) (2 ^ T)
  | τ + 1, S => if unm o S = 0 then ahd (wwX n T C o τ S) T else awl (fun k => ahd (wwX n T C o τ (S ||| 2 ^ k)) T) (unm o S) C
theorem bl_ww (n : xN) {T C o : Nat} (hT : T ≤ 6) : ∀ τ S t, t < 2 ^ T → bl (wwX n T C o τ S) t = wn n T C o τ S t := by
  have h6 : 2 ^ T ≤ 64 := p2 (m := 6) hT
  intro τ
  induction τ with
  | zero =>
    intro S t ht
    rw [wwX, wn, bl_mk _ _ h6 t (by omega)]
    simp [ht]
  | succ τ ih =>
    intro S t ht
    have ha : ∀ S, bl (ahd (wwX n T C o τ S) T) t = ans T (wn n T C o τ) S t := by
      intro S
      rw [bl_ahd _ hT ht T (Nat.le_refl _)]
      show ans T (fun S' t' => bl (wwX n T C o τ S) t') S t = _
      exact ans_c ht (fun t' ht' => ih S t' ht')
    rw [wwX, wn]
    unfold wst
    by_cases h : unm o S = 0
    · rw [if_pos h, if_pos h, ha]
    · rw [if_neg h, if_neg h, bl_awl _ _ (by omega)]
      have : (fun k => !(unm o S).testBit k || bl (ahd (wwX n T C o τ (S ||| 2 ^ k)) T) t) = (fun k => !(unm o S).testBit k || ans T (wn n T C o τ) (S ||| 2 ^ k) t) := funext fun k => by rw [ha]
      rw [this]
theorem bl_ans (n : xN) {T C o : Nat} (hT : T ≤ 6) {τ S t : Nat} (ht : t < 2 ^ T) : bl (ahd (wwX n T C o τ S) T) t = ans T (wn n T C o τ) S t := by
  rw [bl_ahd _ hT ht T (Nat.le_refl _)]
  show ans T (fun S' t' => bl (wwX n T C o τ S) t') S t = _
  exact ans_c ht (fun t' ht' => bl_ww n hT τ S t' ht')
set_option maxHeartbeats 1000000 in
theorem e_wMeet (N : Nat) (hN : 100 ≤ N) (n : xN) {T C S : Nat} (hc : Crt n T C) (hbd : ∀ b, b < 8 → n.1 20 b = bdM (n.1 40) b) (hS : S < 2 ^ 31) : f_X3_waysMeeting N (nI S) (mskF n T C (2 ^ T)) = some (mk64 (pG n T C S) (2 ^ T)) := by
  have h6 : 2 ^ T ≤ 2 ^ 6 := p2 hc.1
  have hcm : Crt (mskF n T C (2 ^ T)) T C := Crt_m hc
  have h8 := p8 hc.2.1
  unfold f_X3_waysMeeting
  have key := eq_forG (rc := f_X3_waysMeeting_L5 N (mskF n T C (2 ^ T))) (body := f_X3_waysMeeting_L5b N (mskF n T C (2 ^ T))) (fun f i (l : Int64) => f (nI S) l i) (fun _ => rfl) 0 (2 ^ T) (fun i => mk64 (pG n T C S) i) (some (mk64 (pG n T C S) (2 ^ T))) ?_ ?_ N 0 (Nat.le_refl _) (Nat.zero_le _) (by omega)
  · exact key
  · intro f i _ hi
    show f_X3_waysMeeting_L5b N (mskF n T C (2 ^ T)) f (nI S) (mk64 (pG n T C S) i) (nI i) = f (nI S) (mk64 (pG n T C S) (i + 1)) (nI (i + 1))
    have hl := HN_lt n (bdM (n.1 40)) T C i
    unfold f_X3_waysMeeting_L5b f_X3_waysMeeting_L38
    rw [e_waysX _ hc.1 hcm.2.2.2.2.2.1, Option.bind_some, if_neg (by rw [nI_leI (by omega) (by omega)]; omega), gdl_nI (by omega) (by omega), gdl0, nI_clamp (by omega), mskF36 hi, HN_c hc hbd, e_isMet (by omega) hS, Option.bind_some, bI_pG, nI_1, mk64]
    by_cases h : pG n T C S i = true
    · rw [bI_t h, if_neg (by decide), if_pos h]
    · rw [bI_f h, if_pos rfl, if_neg h]
  · intro f
    show f_X3_waysMeeting_L5b N (mskF n T C (2 ^ T)) f (nI S) _ (nI (2 ^ T)) = _
    unfold f_X3_waysMeeting_L5b
    rw [e_waysX _ hc.1 hcm.2.2.2.2.2.1, Option.bind_some, if_pos (by rw [nI_leI (by omega) (by omega)]; omega)]
theorem e_wAhead (N : Nat) (hN : 100 ≤ N) (u : xN) {T : Nat} (hT : T ≤ 6) (eT : u.1 7 0 = nI T) (L : Int64) : f_X3_waysAhead N L u = some (ahd L T) := by
  unfold f_X3_waysAhead
  have key := eq_forG (rc := f_X3_waysAhead_L5 N u) (body := f_X3_waysAhead_L5b N u) (fun f i (l : Int64) => f L l i) (fun _ => rfl) 0 T (fun i => ahd L i) (some (ahd L T)) ?_ ?_ N 0 (Nat.le_refl _) (Nat.zero_le _) (by omega)
  · exact key
  · intro f i _ hi
    show f_X3_waysAhead_L5b N u f L (ahd L i) (nI i) = f L (ahd L (i + 1)) (nI (i + 1))
    unfold f_X3_waysAhead_L5b
    rw [eT, if_neg (by rw [nI_leI (by omega) (by omega)]; omega), gdl_nI (by omega) (by omega), gdl0, nI_clamp (by omega), nI_1, sh1 (by omega)]
    rfl
  · intro f
    show f_X3_waysAhead_L5b N u f L _ (nI T) = _
    unfold f_X3_waysAhead_L5b
    rw [eT, if_pos (by rw [nI_leI (by omega) (by omega)]; omega)]
theorem e_none (L : Int64) : f_X3_hasWayOfNone L = some (bI (bl L 0 = true)) := by
  unfold f_X3_hasWayOfNone f_X3_hasWayOfNone_L13
  have e : L &&& 1 = if bl L 0 = true then 1 else 0 := by
    apply Int64.toBitVec_inj.mp
    apply BitVec.eq_of_getLsbD_eq
    intro i hi
    have h1 : ∀ i, i < 64 → bl 1 i = decide (i = 0) := by decide +kernel
    have q : (L &&& 1).toBitVec.getLsbD i = (bl L i && bl 1 i) := bl_and L 1 i
    rw [q, h1 i hi]
    by_cases z : i = 0
    · subst z
      cases hb : bl L 0
      · rfl
      · rfl
    · rw [decide_eq_false z, Bool.and_false]
      cases hb : bl L 0
      · rw [if_neg (by decide)]; exact (bl_0 i).symm
      · rw [if_pos rfl]; show false = bl 1 i; rw [h1 i hi, decide_eq_false z]
  rw [e]
  cases bl L 0
  · rfl
  · rfl
theorem u_of {o S : Nat} (ho : o < 2 ^ 31) (hS : S < 2 ^ 31) : nI o &&& (nI S ^^^ (-1)) = nI (unm o S) := e_unm ho hS
theorem e_ww0 (N : Nat) (hN : 100 ≤ N) (n : xN) {T C o S : Nat} (hc : Crt n T C) (hbd : ∀ b, b < 8 → n.1 20 b = bdM (n.1 40) b) (hS : S < 2 ^ C) : f_X3_winningWays_l0 N (nI 0) (nI S) (mskF n T C (2 ^ T)) = some (wwX n T C o 0 S) := by
  have h8 := p8 hc.2.1
  unfold f_X3_winningWays_l0
  rw [if_neg (by decide), e_wMeet N hN n hc hbd (by omega)]; rfl
set_option maxHeartbeats 1000000 in
theorem e_ww1 (N : Nat) (hN : 100 ≤ N) (n : xN) {T C o : Nat} (hc : Crt n T C) (hbd : ∀ b, b < 8 → n.1 20 b = bdM (n.1 40) b) (xo : n.1 19 1 = nI o) (ho : o < 2 ^ C) : ∀ τ, τ ≤ 1 → ∀ S, S < 2 ^ C → f_X3_winningWays_l1 N (nI τ) (nI S) (mskF n T C (2 ^ T)) = some (wwX n T C o τ S) := by
  intro τ hτ S hS
  have h8 := p8 hc.2.1
  have hC := hc.2.1
  have hcm : Crt (mskF n T C (2 ^ T)) T C := Crt_m hc
  have xo' : (mskF n T C (2 ^ T)).1 19 1 = nI o := by rw [mskF1 (by decide), xo]
  have ul := unm_lt (H := S) ho
  unfold f_X3_winningWays_l1
  cases τ with
  | zero => rw [if_neg (by decide), e_wMeet N hN n hc hbd (by omega)]; rfl
  | succ τ =>
    rw [if_pos (by rw [show (0 : Int32) = nI 0 from rfl, nI_ltI (by omega) (by omega)]; omega), xo', u_of (by omega) (by omega), nI_pred, wwX]
    by_cases h : unm o S = 0
    · rw [if_pos (by rw [h]; rfl), if_pos h, show τ = 0 by omega, e_ww0 (o := o) N hN n hc hbd hS, Option.bind_some, e_wAhead N hN _ hc.1 hcm.2.2.2.2.2.1, Option.bind_some]
    · rw [if_neg (nI_ne0 (by omega) (by omega)), if_neg h]
      have key := eq_forG (rc := f_X3_winningWays_l1_L47 N (mskF n T C (2 ^ T))) (body := f_X3_winningWays_l1_L47b N (mskF n T C (2 ^ T))) (fun f i (l : Int64) => f (nI (τ + 1)) (nI S) (nI (unm o S)) l i) (fun _ => rfl) 0 C (fun i => awl (fun k => ahd (wwX n T C o τ (S ||| 2 ^ k)) T) (unm o S) i) (some (awl (fun k => ahd (wwX n T C o τ (S ||| 2 ^ k)) T) (unm o S) C)) ?_ ?_ N 0 (Nat.le_refl _) (Nat.zero_le _) (by omega)
      · exact key
      · intro f i _ hi
        show f_X3_winningWays_l1_L47b N (mskF n T C (2 ^ T)) f (nI (τ + 1)) (nI S) (nI (unm o S)) (awl (fun k => ahd (wwX n T C o τ (S ||| 2 ^ k)) T) (unm o S) i) (nI i) = f (nI (τ + 1)) (nI S) (nI (unm o S)) (awl (fun k => ahd (wwX n T C o τ (S ||| 2 ^ k)) T) (unm o S) (i + 1)) (nI (i + 1))
        have hS2 : S ||| 2 ^ i < 2 ^ C := Nat.or_lt_two_pow hS (Nat.pow_lt_pow_right (by decide) hi)
        have h2i : 2 ^ i < 2 ^ C := Nat.pow_lt_pow_right (by decide) hi
        unfold f_X3_winningWays_l1_L47b f_X3_winningWays_l1_L90
        rw [hcm.2.2.2.2.2.2.1, if_neg (by rw [nI_leI (by omega) (by omega)]; omega), e_hasBit (by omega) (by omega), Option.bind_some, nI_pred, sh1 (by omega), nI_or (by omega) (by omega), show τ = 0 by omega, e_ww0 (o := o) N hN n hc hbd hS2, Option.bind_some, e_wAhead N hN _ hc.1 hcm.2.2.2.2.2.1, Option.bind_some, nI_1, awl]
        by_cases hb : (unm o S).testBit i = true
        · rw [bI_t hb, if_neg (by decide), if_pos hb]
        · rw [bI_f hb, if_pos rfl, if_neg hb]
      · intro f
        show f_X3_winningWays_l1_L47b N (mskF n T C (2 ^ T)) f (nI (τ + 1)) (nI S) (nI (unm o S)) _ (nI C) = _
        unfold f_X3_winningWays_l1_L47b
        rw [hcm.2.2.2.2.2.2.1, if_pos (by rw [nI_leI (by omega) (by omega)]; omega)]
set_option maxHeartbeats 1000000 in
theorem e_ww2 (N : Nat) (hN : 100 ≤ N) (n : xN) {T C o : Nat} (hc : Crt n T C) (hbd : ∀ b, b < 8 → n.1 20 b = bdM (n.1 40) b) (xo : n.1 19 1 = nI o) (ho : o < 2 ^ C) : ∀ τ, τ ≤ 2 → ∀ S, S < 2 ^ C → f_X3_winningWays_l2 N (nI τ) (nI S) (mskF n T C (2 ^ T)) = some (wwX n T C o τ S) := by
  intro τ hτ S hS
  have h8 := p8 hc.2.1
  have hC := hc.2.1
  have hcm : Crt (mskF n T C (2 ^ T)) T C := Crt_m hc
  have xo' : (mskF n T C (2 ^ T)).1 19 1 = nI o := by rw [mskF1 (by decide), xo]
  have ul := unm_lt (H := S) ho
  unfold f_X3_winningWays_l2
  cases τ with
  | zero => rw [if_neg (by decide), e_wMeet N hN n hc hbd (by omega)]; rfl
  | succ τ =>
    rw [if_pos (by rw [show (0 : Int32) = nI 0 from rfl, nI_ltI (by omega) (by omega)]; omega), xo', u_of (by omega) (by omega), nI_pred, wwX]
    by_cases h : unm o S = 0
    · rw [if_pos (by rw [h]; rfl), if_pos h, e_ww1 N hN n hc hbd xo ho τ (by omega) S hS, Option.bind_some, e_wAhead N hN _ hc.1 hcm.2.2.2.2.2.1, Option.bind_some]
    · rw [if_neg (nI_ne0 (by omega) (by omega)), if_neg h]
      have key := eq_forG (rc := f_X3_winningWays_l2_L47 N (mskF n T C (2 ^ T))) (body := f_X3_winningWays_l2_L47b N (mskF n T C (2 ^ T))) (fun f i (l : Int64) => f (nI (τ + 1)) (nI S) (nI (unm o S)) l i) (fun _ => rfl) 0 C (fun i => awl (fun k => ahd (wwX n T C o τ (S ||| 2 ^ k)) T) (unm o S) i) (some (awl (fun k => ahd (wwX n T C o τ (S ||| 2 ^ k)) T) (unm o S) C)) ?_ ?_ N 0 (Nat.le_refl _) (Nat.zero_le _) (by omega)
      · exact key
      · intro f i _ hi
        show f_X3_winningWays_l2_L47b N (mskF n T C (2 ^ T)) f (nI (τ + 1)) (nI S) (nI (unm o S)) (awl (fun k => ahd (wwX n T C o τ (S ||| 2 ^ k)) T) (unm o S) i) (nI i) = f (nI (τ + 1)) (nI S) (nI (unm o S)) (awl (fun k => ahd (wwX n T C o τ (S ||| 2 ^ k)) T) (unm o S) (i + 1)) (nI (i + 1))
        have hS2 : S ||| 2 ^ i < 2 ^ C := Nat.or_lt_two_pow hS (Nat.pow_lt_pow_right (by decide) hi)
        have h2i : 2 ^ i < 2 ^ C := Nat.pow_lt_pow_right (by decide) hi
        unfold f_X3_winningWays_l2_L47b f_X3_winningWays_l2_L90
        rw [hcm.2.2.2.2.2.2.1, if_neg (by rw [nI_leI (by omega) (by omega)]; omega), e_hasBit (by omega) (by omega), Option.bind_some, nI_pred, sh1 (by omega), nI_or (by omega) (by omega), e_ww1 N hN n hc hbd xo ho τ (by omega) _ hS2, Option.bind_some, e_wAhead N hN _ hc.1 hcm.2.2.2.2.2.1, Option.bind_some, nI_1, awl]
        by_cases hb : (unm o S).testBit i = true
        · rw [bI_t hb, if_neg (by decide), if_pos hb]
        · rw [bI_f hb, if_pos rfl, if_neg hb]
      · intro f
        show f_X3_winningWays_l2_L47b N (mskF n T C (2 ^ T)) f (nI (τ + 1)) (nI S) (nI (unm o S)) _ (nI C) = _
        unfold f_X3_winningWays_l2_L47b
        rw [hcm.2.2.2.2.2.2.1, if_pos (by rw [nI_leI (by omega) (by omega)]; omega)]
set_option maxHeartbeats 1000000 in
theorem e_ww3 (N : Nat) (hN : 100 ≤ N) (n : xN) {T C o : Nat} (hc : Crt n T C) (hbd : ∀ b, b < 8 → n.1 20 b = bdM (n.1 40) b) (xo : n.1 19 1 = nI o) (ho : o < 2 ^ C) : ∀ τ, τ ≤ 3 → ∀ S, S < 2 ^ C → f_X3_winningWays_l3 N (nI τ) (nI S) (mskF n T C (2 ^ T)) = some (wwX n T C o τ S) := by
  intro τ hτ S hS
  have h8 := p8 hc.2.1
  have hC := hc.2.1
  have hcm : Crt (mskF n T C (2 ^ T)) T C := Crt_m hc
  have xo' : (mskF n T C (2 ^ T)).1 19 1 = nI o := by rw [mskF1 (by decide), xo]
  have ul := unm_lt (H := S) ho
  unfold f_X3_winningWays_l3
  cases τ with
  | zero => rw [if_neg (by decide), e_wMeet N hN n hc hbd (by omega)]; rfl
  | succ τ =>
    rw [if_pos (by rw [show (0 : Int32) = nI 0 from rfl, nI_ltI (by omega) (by omega)]; omega), xo', u_of (by omega) (by omega), nI_pred, wwX]
    by_cases h : unm o S = 0
    · rw [if_pos (by rw [h]; rfl), if_pos h, e_ww2 N hN n hc hbd xo ho τ (by omega) S hS, Option.bind_some, e_wAhead N hN _ hc.1 hcm.2.2.2.2.2.1, Option.bind_some]
    · rw [if_neg (nI_ne0 (by omega) (by omega)), if_neg h]
      have key := eq_forG (rc := f_X3_winningWays_l3_L47 N (mskF n T C (2 ^ T))) (body := f_X3_winningWays_l3_L47b N (mskF n T C (2 ^ T))) (fun f i (l : Int64) => f (nI (τ + 1)) (nI S) (nI (unm o S)) l i) (fun _ => rfl) 0 C (fun i => awl (fun k => ahd (wwX n T C o τ (S ||| 2 ^ k)) T) (unm o S) i) (some (awl (fun k => ahd (wwX n T C o τ (S ||| 2 ^ k)) T) (unm o S) C)) ?_ ?_ N 0 (Nat.le_refl _) (Nat.zero_le _) (by omega)
      · exact key
      · intro f i _ hi
        show f_X3_winningWays_l3_L47b N (mskF n T C (2 ^ T)) f (nI (τ + 1)) (nI S) (nI (unm o S)) (awl (fun k => ahd (wwX n T C o τ (S ||| 2 ^ k)) T) (unm o S) i) (nI i) = f (nI (τ + 1)) (nI S) (nI (unm o S)) (awl (fun k => ahd (wwX n T C o τ (S ||| 2 ^ k)) T) (unm o S) (i + 1)) (nI (i + 1))
        have hS2 : S ||| 2 ^ i < 2 ^ C := Nat.or_lt_two_pow hS (Nat.pow_lt_pow_right (by decide) hi)
        have h2i : 2 ^ i < 2 ^ C := Nat.pow_lt_pow_right (by decide) hi
        unfold f_X3_winningWays_l3_L47b f_X3_winningWays_l3_L90
        rw [hcm.2.2.2.2.2.2.1, if_neg (by rw [nI_leI (by omega) (by omega)]; omega), e_hasBit (by omega) (by omega), Option.bind_some, nI_pred, sh1 (by omega), nI_or (by omega) (by omega), e_ww2 N hN n hc hbd xo ho τ (by omega) _ hS2, Option.bind_some, e_wAhead N hN _ hc.1 hcm.2.2.2.2.2.1, Option.bind_some, nI_1, awl]
        by_cases hb : (unm o S).testBit i = true
        · rw [bI_t hb, if_neg (by decide), if_pos hb]
        · rw [bI_f hb, if_pos rfl, if_neg hb]
      · intro f
        show f_X3_winningWays_l3_L47b N (mskF n T C (2 ^ T)) f (nI (τ + 1)) (nI S) (nI (unm o S)) _ (nI C) = _
        unfold f_X3_winningWays_l3_L47b
        rw [hcm.2.2.2.2.2.2.1, if_pos (by rw [nI_leI (by omega) (by omega)]; omega)]
