/-! ===== promise 10: fault, the two readings side by side ===== -/
/-- what both readings start from -/
def RdC (n m0 : xN) (t s : Nat) : Prop := m0.1 48 = n.1 48 ∧ t < 4 ∧ s ≤ 80 ∧ n.1 4 1 = 80 ∧ ∀ i, i < s → n.1 5 (80 * t + i) = ch n t i
theorem nI_neg9 {q : Nat} (h : q < 2 ^ 31) : ¬ nI q = -9 := nI_n9 h
def GR (n m0 : xN) (t s th k p : Nat) (u v : xN) : Prop := FX n u ∧ FM m0 t s v ∧ p ≤ s ∧ v.1 39 17 = nI p ∧ u.1 13 0 = nI (th + 1) ∧ u.1 13 1 = 0 ∧ u.1 13 2 = nI (5 - k) ∧ v.1 39 20 = nI th ∧ v.1 39 22 = 0 ∧ ∀ j, j < 5 * th + k → u.1 14 j = v.1 50 j ∧ ∃ q : Nat, q ≤ 9 ∧ v.1 50 j = nI q
set_option maxHeartbeats 1000000 in
theorem gl (N : Nat) {n m0 : xN} {t s th : Nat} (R : RdC n m0 t s) (hth : th < 6) : ∀ (d k p fX fM : Nat) (u v : xN), k + d = 5 → GR n m0 t s th k p u v → s - p < fX → d < fM →
    (∃ p' u' v', p' ≤ s ∧ f_X0_readFrom_13_4_L24 N fX (nI t) (nI s) (nI p) u = some (nI p', u') ∧ f_X4_readsThing_L30 N fM (nI k) v = some (0, v') ∧ FX n u' ∧ FM m0 t s v' ∧ v'.1 39 17 = nI p') ∨
    (∃ u' v' fX', p + d ≤ s ∧ s - (p + d) < fX' ∧ f_X0_readFrom_13_4_L24 N fX (nI t) (nI s) (nI p) u = f_X0_readFrom_13_4_L24 N fX' (nI t) (nI s) (nI (p + d)) u' ∧ f_X4_readsThing_L30 N fM (nI k) v = some (1, v') ∧ FX n u' ∧ FM m0 t s v' ∧ v'.1 39 17 = nI (p + d) ∧ u'.1 13 0 = nI (th + 1) ∧ u'.1 13 1 = 0 ∧ u'.1 13 2 = 0 ∧ v'.1 39 20 = nI (th + 1) ∧ v'.1 39 22 = 0 ∧ GV (th + 1) u' v') := by
  obtain ⟨e48, ht, hs, h41, ec⟩ := R
  intro d
  induction d with
  | zero =>
    intro k p fX fM u v hk hg hfX hfM
    have hk5 : k = 5 := by omega
    subst hk5
    obtain ⟨g1, g2, g3, g4, g5, g6, g7, g8, g9, g10⟩ := hg
    cases fM with
    | zero => omega
    | succ fM =>
      refine Or.inr ⟨u, mI v 39 20 (nI (th + 1)), fX, g3, hfX, rfl, ?_, g1, FM_f g2 (by omega) _, by rw [mI1, if_pos rfl, upd_o (by decide)]; exact g4, g5, g6, g7, by rw [mI1, if_pos rfl, upd_s], by rw [mI1, if_pos rfl, upd_o (by decide)]; exact g9, fun j hj => ?_⟩
      · show f_X4_readsThing_L30b N (f_X4_readsThing_L30 N fM) (nI 5) v = _
        unfold f_X4_readsThing_L30b
        rw [if_pos (by decide), g8, nI_1]
      · rw [mI1, if_neg (by decide)]
        exact g10 j (by omega)
  | succ d ih =>
    intro k p fX fM u v hk hg hfX hfM
    obtain ⟨g1, g2, g3, g4, g5, g6, g7, g8, g9, g10⟩ := hg
    cases fM with
    | zero => omega
    | succ fM =>
      have hmst : ∃ m : Nat, m ≤ 9 ∧ m = (if 5 - k = 1 then 9 else 3) ∧ f_X4_readsThing_L30 N (fM + 1) (nI k) v = f_X4_readsThing_L47 N (f_X4_readsThing_L30 N fM) (nI k) (nI m) v := by
        show ∃ m : Nat, m ≤ 9 ∧ m = (if 5 - k = 1 then 9 else 3) ∧ f_X4_readsThing_L30b N (f_X4_readsThing_L30 N fM) (nI k) v = _
        unfold f_X4_readsThing_L30b
        have n5 : ¬ (5 : Int32) ≤ nI k := by rw [show (5 : Int32) = nI 5 from rfl, nI_leI (by omega) (by omega)]; omega
        have n4 : (4 : Int32) ≤ nI k ↔ 4 ≤ k := nI_leI (a := 4) (by omega) (by omega)
        by_cases h4 : 4 ≤ k
        · refine ⟨9, by omega, by rw [if_pos (show 5 - k = 1 by omega)], ?_⟩
          rw [if_neg n5, if_pos (n4.mpr h4)]; rfl
        · refine ⟨3, by omega, by rw [if_neg (show ¬ 5 - k = 1 by omega)], ?_⟩
          rw [if_neg n5, if_neg (fun z => h4 (n4.mp z))]; rfl
      obtain ⟨m, hm9, hme, hM⟩ := hmst
      have hfg := m_fig g2 e48 ht hs g3 g4 hm9 (-9)
      cases fX with
      | zero => omega
      | succ fX =>
        by_cases hps : p < s
        · have hX := xR_fig N fX g1 ht hs h41 ec hps g7 (by omega) (by omega)
          rw [e_gift u g5 g6 g7 hth (by omega) (by omega), ← hme] at hX
          by_cases hr : 48 ≤ (ch n t p).toInt ∧ (ch n t p).toInt ≤ 48 + m
          · obtain ⟨q, hq, eq⟩ := fig_of (ch n t p) hm9 hr
            have hne : ¬ ch n t p - 48 = -9 := by rw [eq]; exact nI_neg9 (by omega)
            rw [if_pos ⟨hps, hr, hne⟩] at hfg
            rw [if_pos ((fig_iff _ hm9).mpr hr), Option.bind_some, if_neg (show ¬ (1 : Int32) = 0 by decide), eq] at hX
            rw [eq] at hfg
            have hM2 : f_X4_readsThing_L30 N (fM + 1) (nI k) v = f_X4_readsThing_L30 N fM (nI (k + 1)) (mI (pl v (p + 1)) 50 (5 * th + k) (nI q)) := by
              rw [hM]
              unfold f_X4_readsThing_L47
              rw [hfg, Option.bind_some, if_neg (show ¬ nI q = -9 from nI_neg9 (by omega))]
              show gdl [inb ((5 : Int32) * (pl v (p + 1)).1 39 20 + nI k) 30] _ = _
              rw [pl_f _ _ (by decide), g8, show (5 : Int32) = nI 5 from rfl, pk_mul, nI_add, gdl_nI (by omega) (by omega), gdl0, nI_1]
              rw [nI_clamp (by omega)]
            have hi5 : 5 * th + (5 - (5 - k)) = 5 * th + k := by omega
            rw [hi5] at hX
            have hG : GR n m0 t s th (k + 1) (p + 1) (mI (mI u 14 (5 * th + k) (nI q)) 13 2 (nI (5 - k - 1))) (mI (pl v (p + 1)) 50 (5 * th + k) (nI q)) := by
              refine ⟨FX_s (FX_s g1 (by omega) _ _) (by omega) _ _, FM_a (pl_FM g2) (by omega) _ _, by omega, by rw [mI1, if_neg (by decide), pl17], ?_, ?_, ?_, by rw [mI1, if_neg (by decide), pl_f _ _ (by decide), g8], by rw [mI1, if_neg (by decide), pl_f _ _ (by decide), g9], fun j hj => ?_⟩
              · rw [mI1, if_pos rfl, upd_o (by decide), mI1, if_neg (by decide), g5]
              · rw [mI1, if_pos rfl, upd_o (by decide), mI1, if_neg (by decide), g6]
              · rw [mI1, if_pos rfl, upd_s, show 5 - k - 1 = 5 - (k + 1) by omega]
              · rw [mI1, if_neg (by decide), mI1, if_pos rfl, mI1, if_pos rfl, pl_o _ _ (by decide)]
                by_cases ej : j = 5 * th + k
                · rw [ej, upd_s, upd_s]; exact ⟨rfl, q, by omega, rfl⟩
                · rw [upd_o ej, upd_o ej]; exact g10 j (by omega)
            have hI := ih (k + 1) (p + 1) fX fM _ _ (by omega) hG (by omega) (by omega)
            rw [hX, hM2]
            rcases hI with ⟨p', u', v', a1, a2, a3, a4⟩ | ⟨u', v', fX', a1, a2, a3, a4, a5⟩
            · exact Or.inl ⟨p', u', v', a1, a2, a3, a4⟩
            · rw [show p + 1 + d = p + (d + 1) by omega] at a1 a2 a3 a5
              exact Or.inr ⟨u', v', fX', a1, a2, a3, a4, a5⟩
          · rw [if_neg (fun z => hr z.2.1)] at hfg
            rw [if_neg (fun z => hr ((fig_iff _ hm9).mp z)), Option.bind_some, if_pos rfl] at hX
            refine Or.inl ⟨p, u, v, g3, hX, ?_, g1, g2, g4⟩
            rw [hM]
            unfold f_X4_readsThing_L47
            rw [hfg, Option.bind_some, if_pos rfl]
        · have hpe : p = s := by omega
          rw [if_neg (fun z => hps z.1)] at hfg
          refine Or.inl ⟨p, u, v, g3, ?_, ?_, g1, g2, g4⟩
          · rw [hpe, xR_end N fX hs g7 (by omega), if_pos (by omega)]
          · rw [hM]
            unfold f_X4_readsThing_L47
            rw [hfg, Option.bind_some, if_pos rfl]
def clW (v : xN) (cl : Nat) (x y z : Int32) : xN := mI (mI (mI (mI v 51 (3 * cl) x) 51 (3 * cl + 1) y) 51 (3 * cl + 2) z) 39 22 (nI (cl + 1))
theorem e_L92 (v : xN) {cl : Nat} (h : v.1 39 22 = nI cl) (hc : cl < 8) (x y z : Int32) : f_X4_readsClause_L92 x y z v = some (1, clW v cl x y z) := by
  unfold f_X4_readsClause_L92 clW
  have e1 : (mI v 51 (3 * cl) x).1 39 22 = nI cl := by rw [mI1, if_neg (by decide), h]
  have e2 : (mI (mI v 51 (3 * cl) x) 51 (3 * cl + 1) y).1 39 22 = nI cl := by rw [mI1, if_neg (by decide), e1]
  have e3 : (mI (mI (mI v 51 (3 * cl) x) 51 (3 * cl + 1) y) 51 (3 * cl + 2) z).1 39 22 = nI cl := by rw [mI1, if_neg (by decide), e2]
  rw [h, e_3i, nI_clamp (by omega), e1, e_3i, nI_1, nI_clamp (by omega), e2, e_3i, e_n2, nI_clamp (by omega), e3, gdl_nI (by omega) (by omega), gdl_nI (by omega) (by omega), gdl_nI (by omega) (by omega), gdl0, nI_1]
theorem e_two {a : Nat} (ha : a ≤ 5) : f_X4_isOfTwo (nI a) = some (bI (ofK a 2 = true)) := by
  match a, ha with
  | 0, _ => rfl
  | 1, _ => rfl
  | 2, _ => rfl
  | 3, _ => rfl
  | 4, _ => rfl
  | 5, _ => rfl
theorem ofK2 {a : Nat} : ofK a 2 = true ↔ (a = 2 ∨ a = 5) := by
  unfold ofK
  simp
theorem clW_FM {m0 v : xN} {t s cl : Nat} {x y z : Int32} (h : FM m0 t s v) : FM m0 t s (clW v cl x y z) := FM_f (FM_a (FM_a (FM_a h (by omega) _ _) (by omega) _ _) (by omega) _ _) (by omega) _
theorem clW_51 {v : xN} {cl : Nat} {x y z : Int32} (p : Nat) : (clW v cl x y z).1 51 p = if p = 3 * cl + 2 then z else if p = 3 * cl + 1 then y else if p = 3 * cl then x else v.1 51 p := by
  unfold clW
  rw [mI1, if_neg (by decide), mI1, if_pos rfl, mI1, if_pos rfl, mI1, if_pos rfl]
  rfl
theorem clW_f {v : xN} {cl k : Nat} {x y z : Int32} (h : k ≠ 22) : (clW v cl x y z).1 39 k = v.1 39 k := by
  unfold clW
  rw [mI1, if_pos rfl, upd_o h, mI1, if_neg (by decide), mI1, if_neg (by decide), mI1, if_neg (by decide)]
theorem clW_22 {v : xN} {cl : Nat} {x y z : Int32} : (clW v cl x y z).1 39 22 = nI (cl + 1) := by
  unfold clW
  rw [mI1, if_pos rfl, upd_s]
theorem clW_o {v : xN} {cl c : Nat} {x y z : Int32} (h : c ≠ 39) (h2 : c ≠ 51) : (clW v cl x y z).1 c = v.1 c := by
  unfold clW
  rw [mI1, if_neg h, mI1, if_neg h2, mI1, if_neg h2, mI1, if_neg h2]
theorem bgC_FX {n u : xN} {cl a : Nat} (h : FX n u) : FX n (bgC u cl a) := FX_s (FX_s (FX_s (FX_s h (by omega) _ _) (by omega) _ _) (by omega) _ _) (by omega) _ _
theorem bgC_13 {u : xN} {cl a : Nat} : (bgC u cl a).1 13 = upd (upd (u.1 13) 1 (nI (cl + 1))) 2 (if ofK a 2 = true then 2 else 1) := by
  unfold bgC
  rw [mI1, if_pos rfl, mI1, if_pos rfl, mI1, if_neg (by decide), mI1, if_neg (by decide)]
theorem bgC_16 {u : xN} {cl a : Nat} : (bgC u cl a).1 16 = upd (u.1 16) cl (nI a) := by
  unfold bgC
  rw [mI1, if_neg (by decide), mI1, if_neg (by decide), mI1, if_neg (by decide), mI1, if_pos rfl]
theorem bgC_18 {u : xN} {cl a : Nat} : (bgC u cl a).1 18 = upd (u.1 18) cl (-9) := by
  unfold bgC
  rw [mI1, if_neg (by decide), mI1, if_neg (by decide), mI1, if_pos rfl, mI1, if_neg (by decide)]
theorem bgC_14 {u : xN} {cl a c : Nat} (h1 : c ≠ 13) (h2 : c ≠ 16) (h3 : c ≠ 18) : (bgC u cl a).1 c = u.1 c := by
  unfold bgC
  rw [mI1, if_neg h1, mI1, if_neg h1, mI1, if_neg h3, mI1, if_neg h2]
set_option maxHeartbeats 2000000 in
theorem cll (N : Nat) (hN : 100 ≤ N) {n m0 : xN} {t s j : Nat} (R : RdC n m0 t s) {u v : xN} (hb : Bnd n m0 t s j u v) (hj : j < s) (h32 : ¬ ch n t j = 32) (h116 : ¬ ch n t j = 116) (fX : Nat) (hfX : s - j < fX) :
    (∃ p' u' v', p' ≤ s ∧ f_X0_readFrom_13_4_L24 N fX (nI t) (nI s) (nI j) u = some (nI p', u') ∧ f_X4_readsClause v = some (0, v') ∧ FX n u' ∧ FM m0 t s v' ∧ v'.1 39 17 = nI p') ∨
    (∃ j' u' v' fX', j < j' ∧ s - j' < fX' ∧ f_X0_readFrom_13_4_L24 N fX (nI t) (nI s) (nI j) u = f_X0_readFrom_13_4_L24 N fX' (nI t) (nI s) (nI j') u' ∧ f_X4_readsClause v = some (1, v') ∧ Bnd n m0 t s j' u' v') := by
  obtain ⟨e48, ht, hs, h41, ec⟩ := R
  obtain ⟨b1, b2, b3, b4, th, cl, h6, h8, h0, x0, x1, x2, y0, y1, hG, hV⟩ := hb
  obtain ⟨fX, rfl⟩ : ∃ f, fX = f + 1 := ⟨fX - 1, by omega⟩
  have hX := xR_item N fX b1 ht hs h41 ec hj x2
  unfold f_X0_beginsItem_13 f_X0_beginsItem_13_L26 at hX
  rw [if_neg h32, if_neg h116] at hX
  have hHere := m_here b2 e48 ht (show j < 80 by omega) b4
  have hM0 : f_X4_readsClause v = if kL (ch n t j) = -9 then some (0, v) else if v.1 39 20 = 0 then some (0, v) else if v.1 39 22 = 8 then some (0, v) else Option.bind (f_X4_figure 3 (-9) (pl v (j + 1))) (fun r46 => if r46.1 = -9 then some (0, r46.2) else Option.bind (f_X4_isOfTwo (kL (ch n t j))) (fun r59 => if r59 = 0 then f_X4_readsClause_L76 (kL (ch n t j)) r46.1 (-9) r46.2 else Option.bind (f_X4_figure 3 r46.1 r46.2) (fun r68 => f_X4_readsClause_L76 (kL (ch n t j)) r46.1 r68.1 r68.2))) := by
    unfold f_X4_readsClause f_X4_readsClause_L30
    rw [hHere, Option.bind_some, e_kL, Option.bind_some, b4, nI_1]; rfl
  by_cases hth : th = 0
  · have hf : f_X0_beginsClause_13 N (ch n t j) u = some (0, u) := by
      unfold f_X0_beginsClause_13 f_X0_beginsClause_13_L16
      rw [x0, hth, if_pos (show nI 0 = 0 from rfl)]
    rw [hf, Option.bind_some, gdlT isb0, gdl0, Option.bind_some, if_pos rfl] at hX
    refine Or.inl ⟨j, u, v, b3, hX, ?_, b1, b2, b4⟩
    rw [hM0, y0, hth, if_pos (show nI 0 = 0 from rfl)]
    split <;> rfl
  · by_cases hcl : cl = 8
    · have hf : f_X0_beginsClause_13 N (ch n t j) u = some (0, u) := by
        unfold f_X0_beginsClause_13 f_X0_beginsClause_13_L16
        rw [x0, if_neg (nI_ne0 (by omega) (by omega)), x1, if_neg (by rw [hcl]; decide)]
      rw [hf, Option.bind_some, gdlT isb0, gdl0, Option.bind_some, if_pos rfl] at hX
      refine Or.inl ⟨j, u, v, b3, hX, ?_, b1, b2, b4⟩
      rw [hM0, y1, hcl, if_pos (show nI 8 = 8 from rfl)]
      split
      · rfl
      · split <;> rfl
    · have hy0 : ¬ v.1 39 20 = 0 := by rw [y0]; exact nI_ne0 (by omega) (by omega)
      have hy1 : ¬ v.1 39 22 = 8 := by
        rw [y1]
        intro z
        have := (nI_eq (a := cl) (b := 8) (by omega) (by omega)).mp z
        omega
      rcases bgC_e N hN (ch n t j) u x0 x1 (by omega) h6 (by omega) with ⟨a, ha, ka, hf⟩ | ⟨ka, hf⟩
      · rw [hf, Option.bind_some, gdlT isb1, gdl0, Option.bind_some, if_neg (show ¬ (1 : Int32) = 0 by decide)] at hX
        rw [ka, if_neg (nI_neg9 (by omega)), if_neg hy0, if_neg hy1, e_two ha] at hM0
        have u1F : FX n (bgC u cl a) := bgC_FX b1
        have v1F : FM m0 t s (pl v (j + 1)) := pl_FM b2
        have d1 : (bgC u cl a).1 13 1 = nI (cl + 1) := by rw [bgC_13, upd_o (by decide), upd_s]
        have d16 : (bgC u cl a).1 16 cl = nI a := by rw [bgC_16, upd_s]
        have hfg := m_fig v1F e48 ht hs (show j + 1 ≤ s by omega) (pl17 v (j + 1)) (show 3 ≤ 9 by omega) (-9)
        have hfg : f_X4_figure 3 (-9) (pl v (j + 1)) = _ := hfg
        obtain ⟨fX, rfl⟩ : ∃ f, fX = f + 1 := ⟨fX - 1, by omega⟩
        -- the first figure
        by_cases hp1 : j + 1 < s
        · by_cases hr : 48 ≤ (ch n t (j + 1)).toInt ∧ (ch n t (j + 1)).toInt ≤ 48 + (3 : Nat)
          · obtain ⟨b, hb3, eb⟩ := fig_of (ch n t (j + 1)) (show 3 ≤ 9 by omega) hr
            rw [if_pos ⟨hp1, hr, by rw [eb]; exact nI_neg9 (by omega)⟩, eb] at hfg
            have hin : 0 ≤ (ch n t (j + 1) - 48).toInt ∧ (ch n t (j + 1) - 48).toInt ≤ 3 := (fig_iff _ (show 3 ≤ 9 by omega)).mpr hr
            rw [hfg, Option.bind_some, if_neg (show ¬ nI b = -9 from nI_neg9 (by omega)), Option.bind_some, pl_pl] at hM0
            cases htw : ofK a 2
            · -- one figure alone
              have d2 : (bgC u cl a).1 13 2 = nI 1 := by rw [bgC_13, upd_s, htw]; rfl
              have hX2 := xR_fig N fX u1F ht hs h41 ec hp1 d2 (by omega) (by omega)
              rw [e_trt _ d1 d2 d16 ha (by omega) (Or.inl rfl), if_pos hin, htw, if_neg (by simp), Option.bind_some, if_neg (show ¬ (1 : Int32) = 0 by decide), eb] at hX2
              rw [htw, bI_f (by decide), if_pos rfl] at hM0
              unfold f_X4_readsClause_L76 at hM0
              rw [e_two ha, htw, Option.bind_some, bI_f (by decide), if_pos rfl, e_L92 _ (show (pl v (j + 1 + 1)).1 39 22 = nI cl by rw [pl_f _ _ (by decide)]; exact y1) (by omega)] at hM0
              refine Or.inr ⟨j + 1 + 1, _, _, fX, by omega, by omega, hX.trans hX2, hM0, ?_⟩
              refine ⟨FX_s (FX_s u1F (by omega) _ _) (by omega) _ _, clW_FM (pl_FM b2), by omega, by rw [clW_f (by decide), pl17], th, cl + 1, h6, by omega, fun z => absurd z hth, ?_, ?_, ?_, by rw [clW_f (by decide), pl_f _ _ (by decide), y0], clW_22, ?_, ?_⟩
              · rw [mI1, if_pos rfl, upd_o (by decide), mI1, if_neg (by decide), bgC_13, upd_o (by decide), upd_o (by decide), x0]
              · rw [mI1, if_pos rfl, upd_o (by decide), mI1, if_neg (by decide), d1]
              · rw [mI1, if_pos rfl, upd_s]; rfl
              · intro i hi
                rw [mI1, if_neg (by decide), mI1, if_neg (by decide), bgC_14 (by decide) (by decide) (by decide), clW_o (by decide) (by decide), pl_o _ _ (by decide)]
                exact hG i hi
              · intro k hk
                rw [clW_51, clW_51, clW_51]
                simp only [mI1, Nat.reduceEqDiff, reduceIte]
                rw [bgC_16, bgC_18, bgC_14 (by decide) (by decide) (by decide)]
                by_cases ek : k = cl
                · subst ek
                  rw [upd_s, upd_s, upd_s, if_neg (by omega), if_neg (by omega), if_pos rfl, if_neg (by omega), if_pos rfl, if_pos rfl]
                  exact ⟨rfl, rfl, rfl, a, b, ha, rfl, hb3, rfl, Or.inl ⟨rfl, fun z => by rw [z] at htw; exact absurd htw (by decide), fun z => by rw [z] at htw; exact absurd htw (by decide)⟩⟩
                · rw [upd_o ek, upd_o ek, upd_o ek, if_neg (by omega), if_neg (by omega), if_neg (by omega), if_neg (by omega), if_neg (by omega), if_neg (by omega), if_neg (by omega), if_neg (by omega), if_neg (by omega), pl_o _ _ (by decide)]
                  exact hV k (by omega)
            · -- two figures
              have d2 : (bgC u cl a).1 13 2 = nI 2 := by rw [bgC_13, upd_s, htw]; rfl
              have hX2 := xR_fig N fX u1F ht hs h41 ec hp1 d2 (by omega) (by omega)
              rw [e_trt _ d1 d2 d16 ha (by omega) (Or.inr rfl), if_pos hin, if_neg (fun z => absurd z.1 (by decide)), Option.bind_some, if_neg (show ¬ (1 : Int32) = 0 by decide), eb] at hX2
              rw [htw, bI_t rfl, if_neg (show ¬ (1 : Int32) = 0 by decide)] at hM0
              generalize hu2 : mI (mI (bgC u cl a) 17 cl (nI b)) 13 2 (nI (2 - 1)) = u2 at hX2
              have u2F : FX n u2 := by rw [← hu2]; exact FX_s (FX_s u1F (by omega) _ _) (by omega) _ _
              have w1 : u2.1 13 1 = nI (cl + 1) := by rw [← hu2, mI1, if_pos rfl, upd_o (by decide), mI1, if_neg (by decide), d1]
              have w2 : u2.1 13 2 = nI 1 := by rw [← hu2, mI1, if_pos rfl, upd_s]
              have w0 : u2.1 13 0 = nI th := by rw [← hu2, mI1, if_pos rfl, upd_o (by decide), mI1, if_neg (by decide), bgC_13, upd_o (by decide), upd_o (by decide), x0]
              have w16 : u2.1 16 = upd (u.1 16) cl (nI a) := by rw [← hu2, mI1, if_neg (by decide), mI1, if_neg (by decide), bgC_16]
              have w17 : u2.1 17 = upd (u.1 17) cl (nI b) := by rw [← hu2, mI1, if_neg (by decide), mI1, if_pos rfl, bgC_14 (by decide) (by decide) (by decide)]
              have w18 : u2.1 18 = upd (u.1 18) cl (-9) := by rw [← hu2, mI1, if_neg (by decide), mI1, if_neg (by decide), bgC_18]
              have w14 : u2.1 14 = u.1 14 := by rw [← hu2, mI1, if_neg (by decide), mI1, if_neg (by decide), bgC_14 (by decide) (by decide) (by decide)]
              have hfg2 := m_fig (pl_FM (p := j + 1 + 1) b2) e48 ht hs (show j + 1 + 1 ≤ s by omega) (pl17 v (j + 1 + 1)) (show 3 ≤ 9 by omega) (nI b)
              have hfg2 : f_X4_figure 3 (nI b) (pl v (j + 1 + 1)) = _ := hfg2
              obtain ⟨fX, rfl⟩ : ∃ f, fX = f + 1 := ⟨fX - 1, by omega⟩
              by_cases hp2 : j + 1 + 1 < s
              · have hX3 := xR_fig N fX u2F ht hs h41 ec hp2 w2 (by omega) (by omega)
                rw [e_trt _ w1 w2 (by rw [w16, upd_s]) ha (by omega) (Or.inl rfl), w17, upd_s, if_pos (show 1 = 1 ∧ ofK a 2 = true from ⟨rfl, htw⟩)] at hX3
                by_cases hr2 : 48 ≤ (ch n t (j + 1 + 1)).toInt ∧ (ch n t (j + 1 + 1)).toInt ≤ 48 + (3 : Nat)
                · obtain ⟨c, hc3, ec2⟩ := fig_of (ch n t (j + 1 + 1)) (show 3 ≤ 9 by omega) hr2
                  have hin2 : 0 ≤ (ch n t (j + 1 + 1) - 48).toInt ∧ (ch n t (j + 1 + 1) - 48).toInt ≤ 3 := (fig_iff _ (show 3 ≤ 9 by omega)).mpr hr2
                  rw [if_pos hin2, ec2] at hX3
                  rw [ec2] at hfg2
                  by_cases hbc : nI b = nI c
                  · rw [if_pos hbc, Option.bind_some, if_pos rfl] at hX3
                    rw [if_neg (fun z => z.2.2 hbc.symm)] at hfg2
                    refine Or.inl ⟨j + 1 + 1, _, pl v (j + 1 + 1), by omega, hX.trans (hX2.trans hX3), ?_, u2F, pl_FM b2, pl17 _ _⟩
                    rw [hM0, hfg2, Option.bind_some]
                    unfold f_X4_readsClause_L76
                    rw [e_two ha, htw, Option.bind_some, bI_t rfl, if_neg (show ¬ (1 : Int32) = 0 by decide), if_pos rfl]
                  · rw [if_neg hbc, Option.bind_some, if_neg (show ¬ (1 : Int32) = 0 by decide)] at hX3
                    rw [if_pos ⟨hp2, hr2, fun z => hbc z.symm⟩, pl_pl] at hfg2
                    rw [hfg2, Option.bind_some] at hM0
                    unfold f_X4_readsClause_L76 at hM0
                    rw [e_two ha, htw, Option.bind_some, bI_t rfl, if_neg (show ¬ (1 : Int32) = 0 by decide), if_neg (show ¬ nI c = -9 from nI_neg9 (by omega)), e_L92 _ (show (pl v (j + 1 + 1 + 1)).1 39 22 = nI cl by rw [pl_f _ _ (by decide)]; exact y1) (by omega)] at hM0
                    refine Or.inr ⟨j + 1 + 1 + 1, _, _, fX, by omega, by omega, hX.trans (hX2.trans hX3), hM0, ?_⟩
                    refine ⟨FX_s (FX_s u2F (by omega) _ _) (by omega) _ _, clW_FM (pl_FM b2), by omega, by rw [clW_f (by decide), pl17], th, cl + 1, h6, by omega, fun z => absurd z hth, ?_, ?_, ?_, by rw [clW_f (by decide), pl_f _ _ (by decide), y0], clW_22, ?_, ?_⟩
                    · rw [mI1, if_pos rfl, upd_o (by decide), mI1, if_neg (by decide), w0]
                    · rw [mI1, if_pos rfl, upd_o (by decide), mI1, if_neg (by decide), w1]
                    · rw [mI1, if_pos rfl, upd_s]
                    · intro i hi
                      rw [mI1, if_neg (by decide), mI1, if_neg (by decide), w14, clW_o (by decide) (by decide), pl_o _ _ (by decide)]
                      exact hG i hi
                    · intro k hk
                      rw [clW_51, clW_51, clW_51]
                      simp only [mI1, Nat.reduceEqDiff, reduceIte]
                      rw [w16, w17, w18]
                      by_cases ek : k = cl
                      · subst ek
                        rw [upd_s, upd_s, upd_s, if_neg (by omega), if_neg (by omega), if_pos rfl, if_neg (by omega), if_pos rfl, if_pos rfl]
                        exact ⟨rfl, rfl, rfl, a, b, ha, rfl, hb3, rfl, Or.inr ⟨c, hc3, rfl, ofK2.mp htw⟩⟩
                      · rw [upd_o ek, upd_o ek, upd_o ek, upd_o ek, if_neg (by omega), if_neg (by omega), if_neg (by omega), if_neg (by omega), if_neg (by omega), if_neg (by omega), if_neg (by omega), if_neg (by omega), if_neg (by omega), pl_o _ _ (by decide)]
                        exact hV k (by omega)
                · rw [if_neg (show ¬ (0 ≤ (ch n t (j + 1 + 1) - 48).toInt ∧ (ch n t (j + 1 + 1) - 48).toInt ≤ 3) from fun z => hr2 ((fig_iff _ (show 3 ≤ 9 by omega)).mp z)), Option.bind_some, if_pos rfl] at hX3
                  rw [if_neg (fun z => hr2 z.2.1)] at hfg2
                  refine Or.inl ⟨j + 1 + 1, _, pl v (j + 1 + 1), by omega, hX.trans (hX2.trans hX3), ?_, u2F, pl_FM b2, pl17 _ _⟩
                  rw [hM0, hfg2, Option.bind_some]
                  unfold f_X4_readsClause_L76
                  rw [e_two ha, htw, Option.bind_some, bI_t rfl, if_neg (show ¬ (1 : Int32) = 0 by decide), if_pos rfl]
              · have hpe : j + 1 + 1 = s := by omega
                rw [if_neg (fun z => hp2 z.1)] at hfg2
                refine Or.inl ⟨j + 1 + 1, u2, pl v (j + 1 + 1), by omega, hX.trans (hX2.trans ?_), ?_, u2F, pl_FM b2, pl17 _ _⟩
                · rw [hpe, xR_end N fX hs w2 (by omega), if_pos (by omega)]
                · rw [hM0, hfg2, Option.bind_some]
                  unfold f_X4_readsClause_L76
                  rw [e_two ha, htw, Option.bind_some, bI_t rfl, if_neg (show ¬ (1 : Int32) = 0 by decide), if_pos rfl]
          · rw [if_neg (fun z => hr z.2.1)] at hfg
            obtain ⟨d, hd, d2⟩ : ∃ d, (d = 1 ∨ d = 2) ∧ (bgC u cl a).1 13 2 = nI d := by
              rw [bgC_13, upd_s]
              cases ofK a 2
              · exact ⟨1, Or.inl rfl, rfl⟩
              · exact ⟨2, Or.inr rfl, rfl⟩
            have hX2 := xR_fig N fX u1F ht hs h41 ec hp1 d2 (by omega) (by omega)
            rw [e_trt _ d1 d2 d16 ha (by omega) hd, if_neg (show ¬ (0 ≤ (ch n t (j + 1) - 48).toInt ∧ (ch n t (j + 1) - 48).toInt ≤ 3) from fun z => hr ((fig_iff _ (show 3 ≤ 9 by omega)).mp z)), Option.bind_some, if_pos rfl] at hX2
            refine Or.inl ⟨j + 1, _, pl v (j + 1), by omega, hX.trans hX2, ?_, u1F, v1F, pl17 _ _⟩
            rw [hM0, hfg, Option.bind_some, if_pos rfl]
        · have hpe : j + 1 = s := by omega
          rw [if_neg (fun z => hp1 z.1)] at hfg
          obtain ⟨d, hd, d2⟩ : ∃ d, (d = 1 ∨ d = 2) ∧ (bgC u cl a).1 13 2 = nI d := by
            rw [bgC_13, upd_s]
            cases ofK a 2
            · exact ⟨1, Or.inl rfl, rfl⟩
            · exact ⟨2, Or.inr rfl, rfl⟩
          refine Or.inl ⟨j + 1, bgC u cl a, pl v (j + 1), by omega, hX.trans ?_, ?_, u1F, v1F, pl17 _ _⟩
          · rw [hpe, xR_end N fX hs d2 (by omega), if_pos (by omega)]
          · rw [hM0, hfg, Option.bind_some, if_pos rfl]
      · rw [hf, Option.bind_some, gdlT isb0, gdl0, Option.bind_some, if_pos rfl] at hX
        exact Or.inl ⟨j, u, v, b3, hX, by rw [hM0, if_pos ka], b1, b2, b4⟩
