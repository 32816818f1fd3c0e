/-! ===== promise 10: fault ===== -/
set_option maxHeartbeats 1000000 in
theorem tgl (N : Nat) (hN : 100 ≤ N) {n m0 : xN} {t s j : Nat} (R : RdC n m0 t s) {u v : xN} (hb : Bnd n m0 t s j u v) (hj : j < s) (h116 : ch n t j = 116) (fX : Nat) (hfX : s - j < fX) :
    (∃ p' u' v', p' ≤ s ∧ f_X0_readFrom_13_4_L24 N fX (nI t) (nI s) (nI j) u = some (nI p', u') ∧ f_X4_readsThing N v = some (0, v') ∧ FX n u' ∧ FM m0 t s v' ∧ v'.1 39 17 = nI p') ∨
    (∃ j' u' v' fX', j < j' ∧ s - j' < fX' ∧ f_X0_readFrom_13_4_L24 N fX (nI t) (nI s) (nI j) u = f_X0_readFrom_13_4_L24 N fX' (nI t) (nI s) (nI j') u' ∧ f_X4_readsThing N v = some (1, v') ∧ Bnd n m0 t s j' u' v') := by
  obtain ⟨e48, ht, hs, h41, ec⟩ := id R
  obtain ⟨b1, b2, b3, b4, th, cl, h6, h8, h0, x0, x1, x2, y0, y1, hG, hV⟩ := hb
  obtain ⟨fX, rfl⟩ : ∃ f, fX = f + 1 := ⟨fX - 1, by omega⟩
  have hX := xR_item N fX b1 ht hs h41 ec hj x2
  unfold f_X0_beginsItem_13 f_X0_beginsItem_13_L26 f_X0_beginsThing_13 f_X0_beginsThing_13_L16 at hX
  rw [if_neg (show ¬ ch n t j = 32 by rw [h116]; decide), if_pos h116, x0, x1] at hX
  have n0 : (0 : Int32) < nI cl ↔ 0 < cl := nI_ltI (a := 0) (by omega) (by omega)
  have n6 : nI th < (6 : Int32) ↔ th < 6 := nI_ltI (b := 6) (by omega) (by omega)
  have m6 : nI th = (6 : Int32) ↔ th = 6 := nI_eq (b := 6) (by omega) (by omega)
  have m0' : nI cl ≤ (0 : Int32) ↔ cl ≤ 0 := nI_leI (b := 0) (by omega) (by omega)
  have hM : f_X4_readsThing N v = if th = 6 then some (0, v) else if cl ≤ 0 then f_X4_readsThing_L30 N N 0 (pl v (j + 1)) else some (0, v) := by
    unfold f_X4_readsThing f_X4_readsThing_L16
    rw [y0, y1, b4, nI_1]
    simp only [m6, m0']
    rfl
  by_cases hok : cl = 0 ∧ th < 6
  · rw [if_neg (fun z => by have := n0.mp z; omega), if_pos (n6.mpr hok.2), Option.bind_some, gdlT isb1, gdl0, Option.bind_some, if_neg (show ¬ (1 : Int32) = 0 by decide)] at hX
    rw [if_neg (by omega), if_pos (by omega)] at hM
    have hG2 : GR n m0 t s th 0 (j + 1) (mI (mI u 13 0 (nI th + 1)) 13 2 5) (pl v (j + 1)) := by
      refine ⟨FX_s (FX_s b1 (by omega) _ _) (by omega) _ _, pl_FM b2, by omega, pl17 _ _, ?_, ?_, ?_, by rw [pl_f _ _ (by decide)]; exact y0, by rw [pl_f _ _ (by decide), y1, hok.1]; rfl, fun i hi => ?_⟩
      · rw [mI1, if_pos rfl, upd_o (by decide), mI1, if_pos rfl, upd_s, nI_1]
      · rw [mI1, if_pos rfl, upd_o (by decide), mI1, if_pos rfl, upd_o (by decide), x1, hok.1]; rfl
      · rw [mI1, if_pos rfl, upd_s]; rfl
      · rw [mI1, if_neg (by decide), mI1, if_neg (by decide), pl_o _ _ (by decide)]
        exact hG i (by omega)
    rcases gl N R hok.2 5 0 (j + 1) fX N _ _ (by omega) hG2 (by omega) (by omega) with ⟨p', u', v', a1, a2, a3, a4⟩ | ⟨u', v', fX', a1, a2, a3, a4, a5, a6, a7, a8, a9, a10, a11, a12, a13⟩
    · exact Or.inl ⟨p', u', v', a1, hX.trans a2, hM.trans a3, a4⟩
    · refine Or.inr ⟨j + 1 + 5, u', v', fX', by omega, a2, hX.trans a3, hM.trans a4, a5, a6, a1, a7, th + 1, 0, by omega, by omega, fun _ => rfl, a8, a9, a10, a11, a12, a13, fun k hk => absurd hk (by omega)⟩
  · refine Or.inl ⟨j, u, v, b3, ?_, ?_, b1, b2, b4⟩
    · by_cases z : 0 < cl
      · rw [hX, if_pos (n0.mpr z), Option.bind_some, gdlT isb0, gdl0, Option.bind_some, if_pos rfl]
      · rw [hX, if_neg (fun y => z (n0.mp y)), if_neg (fun y => hok ⟨by omega, n6.mp y⟩), Option.bind_some, gdlT isb0, gdl0, Option.bind_some, if_pos rfl]
    · rw [hM]
      by_cases z : th = 6
      · rw [if_pos z]
      · rw [if_neg z, if_neg (fun y => hok ⟨by omega, by omega⟩)]
theorem f39_0 (N f : Nat) (v : xN) : f_X4_faultOf_L39 N (f + 1) 0 v = some (v.1 39 17, v) := by
  show f_X4_faultOf_L39b N (f_X4_faultOf_L39 N f) 0 v = _
  unfold f_X4_faultOf_L39b f_X4_faultOf_L86 f_X4_faultOf_L102 f_X4_faultOf_L106
  rw [if_pos rfl, if_pos rfl]
set_option maxHeartbeats 1000000 in
theorem rd_main (N : Nat) (hN : 100 ≤ N) {n m0 : xN} {t s : Nat} (R : RdC n m0 t s) : ∀ (d i fX fM : Nat) (u v : xN), s - i ≤ d → s - i < fX → s - i + 1 < fM → Bnd n m0 t s i u v → ∃ r u' v', f_X0_readFrom_13_4_L24 N fX (nI t) (nI s) (nI i) u = some (r, u') ∧ Option.bind (f_X4_skip N v) (fun w => f_X4_faultOf_L39 N fM 1 w) = some (r, v') ∧ Fin n m0 t s r u' v' := by
  obtain ⟨e48, ht, hs, h41, ec⟩ := id R
  intro d
  induction d with
  | zero =>
    intro i fX fM u v hd hfX hfM hb
    obtain ⟨b1, b2, b3, b4, th, cl, h6, h8, h0, x0, x1, x2, y0, y1, hG, hV⟩ := id hb
    have hi : i = s := by omega
    subst hi
    obtain ⟨fX, rfl⟩ : ∃ f, fX = f + 1 := ⟨fX - 1, by omega⟩
    obtain ⟨fM, rfl⟩ : ∃ f, fM = f + 1 := ⟨fM - 1, by omega⟩
    have hsk := m_skip N hN (n := n) e48 ht hs (Nat.le_refl _) b2 b4
    have hnb : nbF n t i 81 i = i := by show (if i < i ∧ _ then _ else _) = _; rw [if_neg (fun z => absurd z.1 (by omega))]
    rw [hnb, pl_id b4] at hsk
    have hX := xR_end N fX (u := u) (t := t) hs (d := 0) x2 (by omega)
    rw [if_neg (by omega), x0] at hX
    have hM : Option.bind (f_X4_skip N v) (fun w => f_X4_faultOf_L39 N (fM + 1) 1 w) = if th = 0 then some (nI i, v) else some (-9, v) := by
      rw [hsk, Option.bind_some]
      show f_X4_faultOf_L39b N (f_X4_faultOf_L39 N fM) 1 v = _
      unfold f_X4_faultOf_L39b f_X4_faultOf_L86 f_X4_faultOf_L102 f_X4_faultOf_L106
      have m0' : nI th ≤ (0 : Int32) ↔ th ≤ 0 := nI_leI (b := 0) (by omega) (by omega)
      rw [if_neg (by decide), b2.2.2.2.2, b4, if_pos (by rw [nI_leI (by omega) (by omega)]; omega), if_neg (by decide), y0]
      by_cases z : th = 0
      · rw [if_pos (m0'.mpr (by omega)), if_pos z]
      · rw [if_neg (fun y => z (by have := m0'.mp y; omega)), if_neg z]
    by_cases z : th = 0
    · rw [if_pos (by rw [z]; rfl)] at hX
      rw [if_pos z] at hM
      exact ⟨nI i, u, v, hX, hM, b1, b2, fun y => absurd y (nI_neg9 (by omega))⟩
    · rw [if_neg (nI_ne0 (by omega) (by omega))] at hX
      rw [if_neg z] at hM
      exact ⟨-9, u, v, hX, hM, b1, b2, fun _ => ⟨th, cl, by omega, h6, h8, x0, x1, y0, y1, hG, hV⟩⟩
  | succ d ih =>
    intro i fX fM u v hd hfX hfM hb
    obtain ⟨b1, b2, b3, b4, th, cl, h6, h8, h0, x0, x1, x2, y0, y1, hG, hV⟩ := id hb
    have hsk := m_skip N hN (n := n) e48 ht hs b3 b2 b4
    obtain ⟨fX', hf', hlt, hle, hls, hnb, hX⟩ := xR_skip N b1 ht hs h41 ec x2 81 i fX (by omega) hfX b3
    generalize nbF n t s 81 i = j at *
    have hbj : Bnd n m0 t s j u (pl v j) := ⟨b1, pl_FM b2, hls, pl17 _ _, th, cl, h6, h8, h0, x0, x1, x2, by rw [pl_f _ _ (by decide)]; exact y0, by rw [pl_f _ _ (by decide)]; exact y1, fun k hk => by rw [pl_o _ _ (by decide)]; exact hG k hk, fun k hk => by rw [pl_o _ _ (by decide)]; exact hV k hk⟩
    rw [hsk, Option.bind_some]
    by_cases hjs : j < s
    · obtain ⟨fM, rfl⟩ : ∃ f, fM = f + 1 := ⟨fM - 1, by omega⟩
      have h32 := hnb hjs
      have hHere := m_here (pl_FM (p := j) b2) e48 ht (show j < 80 by omega) (pl17 v j)
      have hL : f_X4_faultOf_L39 N (fM + 1) 1 (pl v j) = if ch n t j = 116 then Option.bind (f_X4_readsThing N (pl v j)) (fun r => f_X4_faultOf_L74 N (f_X4_faultOf_L39 N fM) r.1 r.2) else Option.bind (f_X4_readsClause (pl v j)) (fun r => f_X4_faultOf_L74 N (f_X4_faultOf_L39 N fM) r.1 r.2) := by
        show f_X4_faultOf_L39b N (f_X4_faultOf_L39 N fM) 1 (pl v j) = _
        unfold f_X4_faultOf_L39b
        rw [if_neg (by decide), (pl_FM (p := j) b2).2.2.2.2, pl17, if_neg (by rw [nI_leI (by omega) (by omega)]; omega), hHere, Option.bind_some]
      obtain ⟨rd, hrd, hit⟩ : ∃ rd : Option (Int32 × xN), f_X4_faultOf_L39 N (fM + 1) 1 (pl v j) = Option.bind rd (fun r => f_X4_faultOf_L74 N (f_X4_faultOf_L39 N fM) r.1 r.2) ∧ ((∃ p' u' v', p' ≤ s ∧ f_X0_readFrom_13_4_L24 N fX' (nI t) (nI s) (nI j) u = some (nI p', u') ∧ rd = some (0, v') ∧ FX n u' ∧ FM m0 t s v' ∧ v'.1 39 17 = nI p') ∨ (∃ j' u' v' fX'', j < j' ∧ s - j' < fX'' ∧ f_X0_readFrom_13_4_L24 N fX' (nI t) (nI s) (nI j) u = f_X0_readFrom_13_4_L24 N fX'' (nI t) (nI s) (nI j') u' ∧ rd = some (1, v') ∧ Bnd n m0 t s j' u' v')) := by
        by_cases h116 : ch n t j = 116
        · exact ⟨_, by rw [hL, if_pos h116], tgl N hN R hbj hjs h116 fX' hlt⟩
        · exact ⟨_, by rw [hL, if_neg h116], cll N hN R hbj hjs h32 h116 fX' hlt⟩
      rw [hX, hrd]
      rcases hit with ⟨p', u', v', a1, a2, a3, a4, a5, a6⟩ | ⟨j', u', v', fX'', a1, a2, a3, a4, a5⟩
      · obtain ⟨fM, rfl⟩ : ∃ f, fM = f + 1 := ⟨fM - 1, by omega⟩
        refine ⟨nI p', u', v', a2, ?_, a4, a5, fun y => absurd y (nI_neg9 (by omega))⟩
        rw [a3, Option.bind_some]
        unfold f_X4_faultOf_L74
        rw [if_pos rfl]
        show f_X4_faultOf_L39 N (fM + 1) 0 v' = _
        rw [f39_0, a6]
      · obtain ⟨r, u2, v2, q1, q2, q3⟩ := ih j' fX'' fM u' v' (by omega) a2 (by omega) a5
        refine ⟨r, u2, v2, by rw [a3, q1], ?_, q3⟩
        rw [a4, Option.bind_some]
        unfold f_X4_faultOf_L74
        rw [if_neg (show ¬ (1 : Int32) = 0 by decide)]
        exact q2
    · have hje : j = s := by omega
      subst hje
      obtain ⟨fX2, rfl⟩ : ∃ f, fX' = f + 1 := ⟨fX' - 1, by omega⟩
      obtain ⟨fM, rfl⟩ : ∃ f, fM = f + 1 := ⟨fM - 1, by omega⟩
      have hX2 := xR_end N fX2 (u := u) (t := t) hs (d := 0) x2 (by omega)
      rw [if_neg (by omega), x0] at hX2
      have hM : f_X4_faultOf_L39 N (fM + 1) 1 (pl v j) = if th = 0 then some (nI j, pl v j) else some (-9, pl v j) := by
        show f_X4_faultOf_L39b N (f_X4_faultOf_L39 N fM) 1 (pl v j) = _
        unfold f_X4_faultOf_L39b f_X4_faultOf_L86 f_X4_faultOf_L102 f_X4_faultOf_L106
        have m0' : nI th ≤ (0 : Int32) ↔ th ≤ 0 := nI_leI (b := 0) (by omega) (by omega)
        rw [if_neg (by decide), (pl_FM (p := j) b2).2.2.2.2, pl17, if_pos (by rw [nI_leI (by omega) (by omega)]; omega), if_neg (by decide), pl_f _ _ (by decide), y0]
        by_cases z : th = 0
        · rw [if_pos (m0'.mpr (by omega)), if_pos z]
        · rw [if_neg (fun y => z (by have := m0'.mp y; omega)), if_neg z]
      obtain ⟨c1, c2, c3, c4, -⟩ := hbj
      rw [hX]
      by_cases z : th = 0
      · rw [if_pos (by rw [z]; rfl)] at hX2
        rw [if_pos z] at hM
        exact ⟨nI j, u, pl v j, hX2, hM, b1, c2, fun y => absurd y (nI_neg9 (by omega))⟩
      · rw [if_neg (nI_ne0 (by omega) (by omega))] at hX2
        rw [if_neg z] at hM
        exact ⟨-9, u, pl v j, hX2, hM, b1, c2, fun _ => ⟨th, cl, by omega, h6, h8, x0, x1, by rw [pl_f _ _ (by decide)]; exact y0, by rw [pl_f _ _ (by decide)]; exact y1, fun k hk => by rw [pl_o _ _ (by decide)]; exact hG k hk, fun k hk => by rw [pl_o _ _ (by decide)]; exact hV k hk⟩⟩
/-- both readings of a TEXT that is there -/
theorem rd_both (N : Nat) (hN : 200 ≤ N) {n m0 : xN} (h41 : n.1 4 1 = 80) {t s : Nat} (ht : t < 4) (hs : s ≤ 80) (e6 : n.1 6 t = nI s) (e47 : m0.1 47 t = nI s) (ec : ∀ i, i < s → n.1 5 (80 * t + i) = n.1 48 (80 * t + i)) (e48 : m0.1 48 = n.1 48) : ∃ r u' v', f_X0_readFrom_13_4 N (nI t) n = some (r, u') ∧ f_X4_faultOf N (nI t) m0 = some (r, v') ∧ Fin n m0 t s r u' v' := by
  let u0 := mI (mI (mI n 13 0 0) 13 1 0) 13 2 0
  let v0 := mI (mI (mI (mI (mI m0 39 16 (nI (80 * t))) 39 17 0) 39 18 (nI s)) 39 20 0) 39 22 0
  have hu : FX n u0 := FX_s (FX_s (FX_s ⟨fun _ _ _ _ _ _ => rfl, rfl⟩ (by omega) _ _) (by omega) _ _) (by omega) _ _
  have v39 : ∀ k, v0.1 39 k = if k = 22 then 0 else if k = 20 then 0 else if k = 18 then nI s else if k = 17 then 0 else if k = 16 then nI (80 * t) else m0.1 39 k := by
    intro k
    show (mI (mI (mI (mI (mI m0 39 16 (nI (80 * t))) 39 17 0) 39 18 (nI s)) 39 20 0) 39 22 0).1 39 k = _
    rw [mI1, if_pos rfl, mI1, if_pos rfl, mI1, if_pos rfl, mI1, if_pos rfl, mI1, if_pos rfl]
    rfl
  have vo : ∀ c, c ≠ 39 → v0.1 c = m0.1 c := fun c hc => by
    show (mI (mI (mI (mI (mI m0 39 16 (nI (80 * t))) 39 17 0) 39 18 (nI s)) 39 20 0) 39 22 0).1 c = _
    rw [mI1, if_neg hc, mI1, if_neg hc, mI1, if_neg hc, mI1, if_neg hc, mI1, if_neg hc]
  have u13 : ∀ k, u0.1 13 k = if k = 2 then 0 else if k = 1 then 0 else if k = 0 then 0 else n.1 13 k := by
    intro k
    show (mI (mI (mI n 13 0 0) 13 1 0) 13 2 0).1 13 k = _
    rw [mI1, if_pos rfl, mI1, if_pos rfl, mI1, if_pos rfl]
    rfl
  have hv : FM m0 t s v0 := ⟨fun c c1 _ _ => vo c c1, rfl, fun k a b c d e => by rw [v39, if_neg e, if_neg d, if_neg c, if_neg b, if_neg a], by rw [v39]; rfl, by rw [v39]; rfl⟩
  have hb : Bnd n m0 t s 0 u0 v0 := ⟨hu, hv, by omega, by rw [v39]; rfl, 0, 0, by omega, by omega, fun _ => rfl, by rw [u13]; rfl, by rw [u13]; rfl, by rw [u13]; rfl, by rw [v39]; rfl, by rw [v39]; rfl, fun j hj => absurd hj (by omega), fun k hk => absurd hk (by omega)⟩
  obtain ⟨r, u', v', q1, q2, q3⟩ := rd_main N (by omega) (show RdC n m0 t s from ⟨e48, ht, hs, h41, ec⟩) s 0 N N u0 v0 (by omega) (by omega) (by omega) hb
  refine ⟨r, u', v', ?_, ?_, q3⟩
  · unfold f_X0_readFrom_13_4
    rw [e_size4 _ ht, Option.bind_some]
    show f_X0_readFrom_13_4_L24 N N (nI t) (u0.1 6 t) 0 u0 = _
    rw [hu.1 6 (by decide) (by decide) (by decide) (by decide) (by decide), e6]
    exact q1
  · unfold f_X4_faultOf
    have e80 : (80 : Int32) * nI t = nI (80 * t) := by rw [show (80 : Int32) = nI 80 from rfl, pk_mul]
    rw [gdl_nI (by omega) ht, gdl0, nI_clamp (by omega), e80, mI1, if_neg (by decide), mI1, if_neg (by decide), e47]
    exact q2
theorem Text_of {n : xN} (h : Inv n) {r : Nat} (hr : r < 4) (hs : 0 ≤ (n.1 47 r).toInt) : ∃ s : Nat, s ≤ 80 ∧ n.1 47 r = nI s ∧ n.1 6 r = nI s ∧ ∀ i, i < s → n.1 5 (80 * r + i) = n.1 48 (80 * r + i) := by
  obtain ⟨s1, s2, s3, s4⟩ := h.2.2.1 r hr
  obtain ⟨s, hs1, hs2⟩ := i32_of (k := 81) hs (by omega)
  refine ⟨s, by omega, hs2, by rw [s1, hs2], fun i hi => s4 i ?_⟩
  rw [hs2, nI_toInt (by omega)]
  omega
theorem Inv_rd {n u v : xN} {t s : Nat} (h : Inv n) (hu : FX n u) (hv : FM u t s v) : Inv v :=
  Inv_same h (fun b hb => by rw [hv.1 b (by omega) (by omega) (by omega), hu.1 b (by omega) (by omega) (by omega) (by omega) (by omega)]) (fun k hk => by rw [hv.2.2.1 k (by omega) (by omega) (by omega) (by omega) (by omega), hu.1 39 (by decide) (by decide) (by decide) (by decide) (by decide)]) (hv.2.1.trans hu.2)
/-- X reads, then M reads what X left -/
theorem rd_seq (N : Nat) (hN : 200 ≤ N) {n : xN} (h : Inv n) {t s : Nat} (ht : t < 4) (hs : s ≤ 80) (e47 : n.1 47 t = nI s) (e6 : n.1 6 t = nI s) (ec : ∀ i, i < s → n.1 5 (80 * t + i) = n.1 48 (80 * t + i)) : ∃ r u' , f_X0_readFrom_13_4 N (nI t) n = some (r, u') ∧ FX n u' ∧ ∀ m0 : xN, m0.1 47 = n.1 47 → m0.1 48 = n.1 48 → ∃ v', f_X4_faultOf N (nI t) m0 = some (r, v') ∧ Fin n m0 t s r u' v' := by
  have h41 := h.1.2.2.2.2.1
  obtain ⟨r, u', v', q1, q2, q3⟩ := rd_both N hN (m0 := n) h41 ht hs e6 e47 ec rfl
  refine ⟨r, u', q1, q3.1, fun m0 e1 e2 => ?_⟩
  obtain ⟨r2, u2, v2, p1, p2, p3⟩ := rd_both N hN (m0 := m0) h41 ht hs e6 (by rw [e1]; exact e47) ec e2
  rw [q1] at p1
  cases p1
  exact ⟨v2, p2, p3⟩
set_option maxHeartbeats 1000000 in
theorem op_fault (N : Nat) (hN : 200 ≤ N) (a : Int32) : Op (f_X3_fault N a) (f_X4_fault N a) := by
  intro n h
  obtain ⟨c1, c2, c3, c4, c5, c6⟩ := h.1
  by_cases ha : 0 ≤ a.toInt ∧ a.toInt < 4
  · have ha' : 0 ≤ a.toInt ∧ a.toInt ≤ 3 := by omega
    obtain ⟨t, ht, rfl⟩ := i32_of (k := 4) ha.1 (by omega)
    have s1 := (h.2.2.1 t ht).1
    by_cases hs0 : 0 ≤ (n.1 47 t).toInt
    · obtain ⟨s, hs, e47, e6, ec⟩ := Text_of h ht hs0
      obtain ⟨r, u', q1, hF, q2⟩ := rd_seq N hN h ht hs e47 e6 ec
      have u47 : u'.1 47 = n.1 47 := hF.1 47 (by decide) (by decide) (by decide) (by decide) (by decide)
      obtain ⟨v', p2, p3⟩ := q2 u' u47 (hF.1 48 (by decide) (by decide) (by decide) (by decide) (by decide))
      refine ⟨r, u', v', ?_, ?_, Inv_rd h hF p3.2.1⟩
      · unfold f_X3_fault
        rw [e_rp4_ok n c4 ht (by rw [s1]; exact hs0), Option.bind_some, if_pos rfl, q1, Option.bind_some]
      · unfold f_X4_fault f_X4_fault_L31
        rw [e_isText, Option.bind_some, bI_t ha', if_neg (by decide), gdl_nI (by omega) ht, gdl0, nI_clamp (by omega), u47, if_pos ((le0 _).mpr hs0), p2, Option.bind_some]
    · refine ⟨-3, cF n 1, mF (cF n 1) 1, ?_, ?_, Inv_F (by decide) h⟩
      · unfold f_X3_fault
        rw [e_rp4_no n c4 ht (by rw [s1]; exact hs0), Option.bind_some, if_neg (show ¬ (-3 : Int32) = 0 by decide)]
      · unfold f_X4_fault f_X4_fault_L31
        have h0 : ¬ (0 : Int32) ≤ (cF n 1).1 47 t := by rw [cF1 (by decide) (by decide), le0]; exact hs0
        rw [e_isText, Option.bind_some, bI_t ha', if_neg (by decide), gdl_nI (by omega) ht, gdl0, nI_clamp (by omega), if_neg h0, e_find1, Option.bind_some]
  · refine ⟨-1, n, n, ?_, ?_, h⟩
    · unfold f_X3_fault
      rw [e_rp4_bad n c4 ha, Option.bind_some, if_neg (show ¬ (-1 : Int32) = 0 by decide)]
    · unfold f_X4_fault
      rw [e_isText, Option.bind_some, bI_f (by omega), if_pos rfl]
