/-! ===== promise 18: undo ===== -/
theorem dn_int {i : Nat} (h : i ≤ 100) : (dn i).toInt = (i : Int) - 1 := by
  unfold dn
  rw [i32_sub (by rw [nI_toInt (by omega), z1]; omega) (by rw [nI_toInt (by omega), z1]; omega), nI_toInt (by omega), z1]
theorem dn_lt {i : Nat} (h : i ≤ 100) : dn i < nI i := by rw [i32_lt, dn_int h, nI_toInt (by omega)]; omega
def Pud (n : xN) (D d : Nat) (u : xN) : Prop := (∀ c, c ≠ 19 → c ≠ 20 → u.1 c = n.1 c) ∧ u.2 = n.2 ∧ u.1 19 = upd (n.1 19) 1 (snapR (n.1 40) 0 D d 0) ∧ ∀ b, b < 8 → u.1 20 b = snapR (n.1 40) 0 D d (1 + b)
set_option maxHeartbeats 1000000 in
theorem tbX (N : Nat) {n : xN} {C D nn : Nat} (hC : C ≤ 8) (hD : D ≤ 40) (hh : ∀ d, d < D → (∃ q : Nat, q < 8 ∧ n.1 21 d = nI q ∧ n.1 22 d = snapR (n.1 40) 0 D d (1 + q) ∧ ∀ j, j < 9 → j ≠ 1 + q → snapR (n.1 40) 0 D d j = snapR (n.1 40) 0 D (d + 1) j) ∨
      (∃ k : Nat, k < C ∧ n.1 21 d = nI (8 + k) ∧ (n.1 22 d = 0 ∨ n.1 22 d = 1) ∧ snapR (n.1 40) 0 D d 0 = setBit (snapR (n.1 40) 0 D (d + 1) 0) k (n.1 22 d) ∧ ∀ j, j < 9 → j ≠ 0 → snapR (n.1 40) 0 D d j = snapR (n.1 40) 0 D (d + 1) j)) :
    ∀ (e d f : Nat), nn + e = d → d ≤ D → e < f → ∀ u, Pud n D d u → ∃ u', Pud n D nn u' ∧ f_X2_takeBackTo_19_L7 N f (nI nn) (dn d) u = some (mI u' 19 2 (nI nn)) := by
  intro e
  induction e with
  | zero =>
    intro d f hd hdD hf u hu
    have : d = nn := by omega
    subst this
    cases f with
    | zero => omega
    | succ f =>
      refine ⟨u, hu, ?_⟩
      show f_X2_takeBackTo_19_L7b N (f_X2_takeBackTo_19_L7 N f) (nI d) (dn d) u = _
      unfold f_X2_takeBackTo_19_L7b
      rw [if_pos (dn_lt (by omega))]
  | succ e ih =>
    intro d f hd hdD hf u hu
    cases f with
    | zero => omega
    | succ f =>
      obtain ⟨d', rfl⟩ : ∃ d', d = d' + 1 := ⟨d - 1, by omega⟩
      obtain ⟨p1, p2, p3, p4⟩ := hu
      have u21 : u.1 21 = n.1 21 := p1 21 (by decide) (by decide)
      have u22 : u.1 22 = n.1 22 := p1 22 (by decide) (by decide)
      have hstep : ∃ v, Pud n D d' v ∧ f_X2_takeBackTo_19_L7b N (f_X2_takeBackTo_19_L7 N f) (nI nn) (nI d') u = f_X2_takeBackTo_19_L7 N f (nI nn) (dn d') v := by
        unfold f_X2_takeBackTo_19_L7b f_X2_takeBackTo_19_L66 f_X2_takeBackTo_19_L69
        rw [if_neg (by rw [nI_ltI (by omega) (by omega)]; omega), gdl_nI (by omega) (by omega), gdl0, nI_clamp (by omega), u21, u22, dn_p]
        rcases hh d' (by omega) with ⟨q, hq, a, b, c⟩ | ⟨k, hk, a, b, c, g⟩
        · refine ⟨mI u 20 q (n.1 22 d'), ⟨fun x h1 h2 => by rw [mI1, if_neg h2, p1 x h1 h2], p2, ?_, fun x hx => ?_⟩, ?_⟩
          · rw [mI1, if_neg (by decide), p3, c 0 (by omega) (by omega)]
          · rw [mI1, if_pos rfl]
            by_cases z : x = q
            · subst z; rw [upd_s, b]
            · rw [upd_o z, p4 x hx, c (1 + x) (by omega) (by omega)]
          · rw [a, if_neg (by rw [show (8 : Int32) = nI 8 from rfl, nI_leI (by omega) (by omega)]; omega), gdl_nI (by omega) (by omega), gdl_nI (by omega) hq, gdl0, nI_clamp (by omega)]
        · have e8 : nI (8 + k) - 8 = nI k := by
            have := pk_sub (a := 8 + k) (b := 8) (by omega)
            rw [show 8 + k - 8 = k by omega] at this
            exact this
          have u19 : u.1 19 1 = snapR (n.1 40) 0 D (d' + 1) 0 := by rw [p3, upd_s]
          refine ⟨mI u 19 1 (snapR (n.1 40) 0 D d' 0), ⟨fun x h1 h2 => by rw [mI1, if_neg h1, p1 x h1 h2], p2, ?_, fun x hx => ?_⟩, ?_⟩
          · rw [mI1, if_pos rfl, p3]
            funext x
            unfold upd
            split <;> rfl
          · rw [mI1, if_neg (by decide), p4 x hx, g (1 + x) (by omega) (by omega)]
          · rw [a, if_pos (by rw [show (8 : Int32) = nI 8 from rfl, nI_leI (by omega) (by omega)]; omega), gdl_nI (by omega) (by omega), gdl0, e8]
            unfold f_X2_setClause_19 f_X2_setClause_19_L26
            rw [u19, c]
            unfold setBit
            rcases b with b | b
            · rw [b, if_neg (show ¬ (0 : Int32) = 1 by decide), if_pos (show (0 : Int32) = 0 from rfl), Option.bind_some, if_neg (show ¬ (0 : Int32) = 1 by decide)]
            · rw [b, if_pos (show (1 : Int32) = 1 from rfl), if_neg (show ¬ (1 : Int32) = 0 by decide), Option.bind_some, if_pos (show (1 : Int32) = 1 from rfl)]
      obtain ⟨v, hv, ev⟩ := hstep
      obtain ⟨u', hu', e'⟩ := ih d' f (by omega) (by omega) (by omega) v hv
      refine ⟨u', hu', ?_⟩
      show f_X2_takeBackTo_19_L7b N (f_X2_takeBackTo_19_L7 N f) (nI nn) (dn (d' + 1)) u = _
      rw [dn_s, ev, e']
def unI (m : xN) (nn i : Nat) : xN := (va_up m.1 40 (fun p => if 1 ≤ p ∧ p < 1 + i then m.1 40 (p + (9 + 9 * nn)) else m.1 40 p), m.2)
theorem unI1 {m : xN} {nn i b : Nat} : (unI m nn i).1 b = if b = 40 then (fun p => if 1 ≤ p ∧ p < 1 + i then m.1 40 (p + (9 + 9 * nn)) else m.1 40 p) else m.1 b := by simp [unI, va_up]
theorem unI_0 (m : xN) (nn : Nat) : unI m nn 0 = m := by
  refine Prod.ext (funext fun b => ?_) rfl
  rw [unI1]
  split
  · rename_i h; subst h
    funext p
    rw [if_neg (by omega)]
  · rfl
theorem unI_s (m : xN) (nn : Nat) {i : Nat} (hi : i < 9) : mI (unI m nn i) 40 (1 + i) ((unI m nn i).1 40 (10 + 9 * nn + i)) = unI m nn (i + 1) := by
  refine Prod.ext (funext fun b => ?_) rfl
  rw [mI1]
  by_cases h : b = 40
  · subst h
    rw [if_pos rfl, unI1, unI1, if_pos rfl, if_pos rfl]
    funext p
    by_cases hp : p = 1 + i
    · subst hp
      rw [upd_s, if_neg (by omega), if_pos (by omega), show 1 + i + (9 + 9 * nn) = 10 + 9 * nn + i by omega]
    · rw [upd_o hp]
      by_cases h3 : 1 ≤ p ∧ p < 1 + i
      · rw [if_pos h3, if_pos (by omega)]
      · rw [if_neg h3, if_neg (by omega)]
  · rw [if_neg h, unI1, unI1, if_neg h, if_neg h]
set_option maxHeartbeats 1000000 in
theorem e_undoM (N : Nat) (hN : 100 ≤ N) (m : xN) {D nn : Nat} (hD : D ≤ 40) (hn : nn ≤ D) : f_X4_undo_L29 N N (nI nn) (nI D - nI nn) 0 m = some (nI (D - nn), mI (if nn < D then unI m nn 9 else m) 40 0 (nI nn)) := by
  rw [pk_sub hn]
  by_cases h : nn < D
  · rw [if_pos h]
    have key := eq_forG (rc := f_X4_undo_L29 N) (body := f_X4_undo_L29b N) (fun f i (u : xN) => f (nI nn) (nI (D - nn)) i u) (fun _ => rfl) 0 9 (fun i => unI m nn i) (some (nI (D - nn), mI (unI m nn 9) 40 0 (nI nn))) ?_ ?_ N 0 (Nat.le_refl _) (Nat.zero_le _) (by omega)
    · have k2 : f_X4_undo_L29 N N (nI nn) (nI (D - nn)) 0 (unI m nn 0) = _ := key
      rw [unI_0] at k2
      exact k2
    · intro f i _ hi
      show f_X4_undo_L29b N f (nI nn) (nI (D - nn)) (nI i) (unI m nn i) = f (nI nn) (nI (D - nn)) (nI (i + 1)) (unI m nn (i + 1))
      have ix : (10 : Int32) + (9 : Int32) * nI nn + nI i = nI (10 + 9 * nn + i) := by rw [show (10 : Int32) = nI 10 from rfl, show (9 : Int32) = nI 9 from rfl, pk_mul, nI_add, nI_add]
      have i1 : (1 : Int32) + nI i = nI (1 + i) := by rw [show (1 : Int32) = nI 1 from rfl, nI_add]
      unfold f_X4_undo_L29b
      rw [if_neg (by rw [show (9 : Int32) = nI 9 from rfl, nI_leI (by omega) (by omega)]; omega), if_neg (nI_nle (by omega) (by omega)), ix, i1, gdl_nI (by omega) (by omega), gdl_nI (by omega) (by omega), gdl0, nI_clamp (by omega), nI_clamp (by omega), unI_s m nn hi, nI_1]
    · intro f
      show f_X4_undo_L29b N f (nI nn) (nI (D - nn)) (nI 9) (unI m nn 9) = _
      unfold f_X4_undo_L29b f_X4_undo_L67
      rw [if_pos (by decide), gdlT ib0, gdl0, tn0]
  · rw [if_neg h]
    cases N with
    | zero => omega
    | succ N' =>
      show f_X4_undo_L29b (N' + 1) (f_X4_undo_L29 (N' + 1) N') (nI nn) (nI (D - nn)) 0 m = _
      unfold f_X4_undo_L29b f_X4_undo_L67
      rw [if_neg (by decide), show D - nn = 0 by omega, if_pos (by decide), gdlT ib0, gdl0, tn0]
set_option maxHeartbeats 2000000 in
theorem op_undo (N : Nat) (hN : 100 ≤ N) (a : Int32) : Op (f_X3_undo N a) (f_X4_undo N a) := by
  intro n h
  obtain ⟨T, C, hc⟩ := Crt_of h
  have hst := h.2.2.2.2.2.2.2.1
  rw [cOf_c hc] at hst
  obtain ⟨h1, h2, h3, D, hD, e0, hok, hh⟩ := id hst
  have x0 : n.1 19 2 = nI D := by rw [h2, e0]
  have q0 : (0 : Int64).toInt = 0 := rfl
  by_cases ha : 0 ≤ a.toInt ∧ a.toInt ≤ D
  · obtain ⟨nn, hnn, rfl⟩ := i32_of (k := D + 1) ha.1 (by omega)
    have sD : ∀ j, snapR (n.1 40) 0 D D j = n.1 40 (1 + j) := fun j => by unfold snapR; rw [if_neg (by omega), show 0 + 1 + j = 1 + j by omega]
    have hP : Pud n D D n := ⟨fun _ _ _ => rfl, rfl, by
      rw [sD]
      funext x
      unfold upd
      split
      · rename_i z; rw [z, h1]
      · rfl, fun b hb => by rw [sD, h3 b hb, show 0 + 2 + b = 1 + (1 + b) by omega]⟩
    obtain ⟨u', ⟨p1, p2, p3, p4⟩, ex⟩ := tbX N (nn := nn) hc.2.1 hD hh (D - nn) D N (by omega) (Nat.le_refl _) (by omega) n hP
    let n1 := mI u' 19 2 (nI nn)
    have hx : f_X3_undo N (nI nn) n = some (nI (D - nn), n1) := by
      unfold f_X3_undo f_X2_takeBackTo_19
      rw [if_neg (nI_pos (by omega)), x0, if_pos (by rw [nI_leI (by omega) (by omega)]; omega), show nI D - 1 = dn D from rfl, ex, Option.bind_some, pk_sub (by omega)]
    have n1o : ∀ c, c ≠ 19 → c ≠ 20 → n1.1 c = n.1 c := fun c c1 c2 => by show (mI u' 19 2 _).1 c = _; rw [mI1, if_neg c1, p1 c c1 c2]
    have o40 : n1.1 40 = n.1 40 := n1o 40 (by decide) (by decide)
    let n2 := mI (if nn < D then unI n1 nn 9 else n1) 40 0 (nI nn)
    have hm : f_X4_undo N (nI nn) n1 = some (nI (D - nn), n2) := by
      unfold f_X4_undo
      rw [gdlT ib0, gdl0, tn0, o40, e0, e_inI, Option.bind_some, i64_of, q0, bI_t (by rw [nI_toInt (by omega), nI_toInt (by omega)]; omega), if_neg (by decide), gdlT ib0, gdl0, e_undoM N hN n1 hD (by omega)]
    refine ⟨_, n1, n2, hx, hm, ?_⟩
    have n2x : ∀ c, c ≠ 40 → n2.1 c = n1.1 c := fun c c1 => by
      show (mI (if nn < D then unI n1 nn 9 else n1) 40 0 (nI nn)).1 c = _
      rw [mI1, if_neg c1]
      split
      · rw [unI1, if_neg c1]
      · rfl
    have n2r : ∀ p, n2.1 40 p = if p = 0 then nI nn else if nn < D ∧ 1 ≤ p ∧ p < 10 then n.1 40 (p + (9 + 9 * nn)) else n.1 40 p := by
      intro p
      show (mI (if nn < D then unI n1 nn 9 else n1) 40 0 (nI nn)).1 40 p = _
      rw [mI1, if_pos rfl]
      unfold upd
      by_cases z : p = 0
      · rw [if_pos z, if_pos z]
      · rw [if_neg z, if_neg z]
        by_cases y : nn < D
        · rw [if_pos y, unI1, if_pos rfl, o40]
          by_cases w : 1 ≤ p ∧ p < 1 + 9
          · rw [if_pos w, if_pos ⟨y, by omega⟩]
          · rw [if_neg w, if_neg (by omega)]
        · rw [if_neg y, o40, if_neg (fun w => y w.1)]
    have sn : ∀ j, j < 9 → n2.1 40 (1 + j) = snapR (n.1 40) 0 D nn j := by
      intro j hj
      rw [n2r, if_neg (by omega)]
      unfold snapR
      by_cases y : nn < D
      · rw [if_pos ⟨y, by omega, by omega⟩, if_pos y, show 1 + j + (9 + 9 * nn) = 0 + 10 + 9 * nn + j by omega]
      · rw [if_neg (fun w => y w.1), if_neg y, show 0 + 1 + j = 1 + j by omega]
    have sA : ∀ d, d ≤ nn → ∀ j, j < 9 → snapR (n2.1 40) 0 nn d j = snapR (n.1 40) 0 D d j := by
      intro d hd j hj
      by_cases z : d < nn
      · unfold snapR
        rw [if_pos z, if_pos (by omega), n2r, if_neg (by omega), if_neg (by omega)]
      · have : d = nn := by omega
        subst this
        rw [← sn j hj]
        unfold snapR
        rw [if_neg (by omega), show 0 + 1 + j = 1 + j by omega]
    refine Inv_dd h (fun c hcc => by rw [n2x c (by omega), n1o c (by omega) (by omega)]) (fun c _ => by rw [n2x 39 (by decide), n1o 39 (by decide) (by decide)]) (by show (if nn < D then unI n1 nn 9 else n1).2 = n.2; split <;> exact p2) (fun p hp => by rw [n2r, if_neg (by omega), if_neg (by omega)]) ?_
    rw [cOf_c hc, n2x 19 (by decide), n2x 20 (by decide), n2x 21 (by decide), n2x 22 (by decide), n1o 21 (by decide) (by decide), n1o 22 (by decide) (by decide)]
    have s1 : n1.1 19 1 = snapR (n.1 40) 0 D nn 0 := by show (mI u' 19 2 _).1 19 1 = _; rw [mI1, if_pos rfl, upd_o (by decide), p3, upd_s]
    have s2 : n1.1 19 2 = nI nn := by show (mI u' 19 2 _).1 19 2 = _; rw [mI1, if_pos rfl, upd_s]
    have s20 : ∀ b, b < 8 → n1.1 20 b = snapR (n.1 40) 0 D nn (1 + b) := fun b hb => by show (mI u' 19 2 _).1 20 b = _; rw [mI1, if_neg (by decide), p4 b hb]
    rw [s1, s2]
    refine ⟨(sn 0 (by omega)).symm, by rw [n2r, if_pos rfl], fun b hb => ?_, nn, by omega, by rw [n2r, if_pos rfl], fun d hd => okS_c (fun j hj => sA d hd j hj) (hok d (by omega)), fun d hd => ?_⟩
    · rw [s20 b hb, ← sn (1 + b) (by omega), show 0 + 2 + b = 1 + (1 + b) by omega]
    · rcases hh d (by omega) with ⟨q, hq, a, b, c⟩ | ⟨k, hk, a, b, c, e⟩
      · exact Or.inl ⟨q, hq, a, by rw [b, sA d (by omega) _ (by omega)], fun j hj hne => by rw [sA d (by omega) j hj, sA (d + 1) (by omega) j hj, c j hj hne]⟩
      · exact Or.inr ⟨k, hk, a, b, by rw [sA d (by omega) 0 (by omega), sA (d + 1) (by omega) 0 (by omega), c], fun j hj hne => by rw [sA d (by omega) j hj, sA (d + 1) (by omega) j hj, e j hj hne]⟩
  · refine ⟨-1, n, n, ?_, ?_, h⟩
    · unfold f_X3_undo f_X3_undo_L15
      by_cases hl : a < 0
      · rw [if_pos hl]
      · rw [if_neg hl, x0, if_neg (fun z => ha ⟨by rw [i32_lt, z0] at hl; omega, by rw [i32_le, nI_toInt (by omega)] at z; exact z⟩)]
    · unfold f_X4_undo
      rw [gdlT ib0, gdl0, tn0, e0, e_inI, Option.bind_some, i64_of, q0, bI_f (by rw [nI_toInt (by omega)]; exact ha), if_pos rfl]
