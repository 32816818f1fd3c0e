/-! ===== promise 35: contradict, its loops ===== -/
theorem con_inX (N : Nat) {n : xN} (h11 : n.1 1 1 = 40) {r s : Nat} (hr : r < 6) (hs : s ≤ 40) (ec : ∀ i, i < s → n.1 2 (40 * r + i) = n.1 46 (40 * r + i)) (hok : andA (okR n r) (s / 3) = true) (rec : Int32 → Int32 → Int32 → Int32 → Int32 → xN → Option (Int32 × xN)) {l : Nat} (V : Int32) :
    ∀ (d f : Nat), l + d < s / 3 → d < f → ∀ (q : Int32 × Int32), f_X3_contradict_L45 N rec f (nI r) V q.1 q.2 (nI l) (nI (l + d)) n = rec (nI r) V ((rwL l d).foldr (stX (pC n r) g100) q).1 ((rwL l d).foldr (stX (pC n r) g100) q).2 (dn l) n := by
  intro d
  induction d with
  | zero =>
    intro f hd hf q
    cases f with
    | zero => omega
    | succ f =>
      show f_X3_contradict_L45b N rec (f_X3_contradict_L45 N rec f) (nI r) V q.1 q.2 (nI l) (nI (l + 0)) n = _
      unfold f_X3_contradict_L45b
      rw [if_pos (by rw [nI_leI (by omega) (by omega)]; omega), dn_p]
      rfl
  | succ d ih =>
    intro f hd hf q
    cases f with
    | zero => omega
    | succ f =>
      have e := ih f (by omega) (by omega) (stX (pC n r) g100 (l, l + (d + 1)) q)
      rw [rwL, List.foldr_append, List.foldr_cons, List.foldr_nil, show l + d + 1 = l + (d + 1) by omega, ← e]
      show f_X3_contradict_L45b N rec (f_X3_contradict_L45 N rec f) (nI r) V q.1 q.2 (nI l) (nI (l + (d + 1))) n = _
      unfold f_X3_contradict_L45b f_X3_contradict_L77
      rw [if_neg (by rw [nI_leI (by omega) (by omega)]; omega), e_isContr h11 hr hs ec hok (by omega) (by omega), Option.bind_some, show l + (d + 1) = l + d + 1 by omega, pk_m1]
      unfold stX
      by_cases a : pC n r (l, l + d + 1) = true
      · rw [bI_t a, if_neg (by decide), if_pos a]; rfl
      · rw [bI_f a, if_pos rfl, if_neg a]
theorem con_outX (N : Nat) (hN : 100 ≤ N) {n : xN} (h11 : n.1 1 1 = 40) {r s : Nat} (hr : r < 6) (hs : s ≤ 40) (ec : ∀ i, i < s → n.1 2 (40 * r + i) = n.1 46 (40 * r + i)) (hok : andA (okR n r) (s / 3) = true) :
    ∀ (l f : Nat), l ≤ s / 3 → l < f → ∀ (q : Int32 × Int32), f_X3_contradict_L35 N f (nI r) (nI (s / 3)) q.1 q.2 (dn l) n = some (((alL (s / 3) l).foldr (stX (pC n r) g100) q).1, mI n 0 10 ((alL (s / 3) l).foldr (stX (pC n r) g100) q).2) := by
  intro l
  induction l with
  | zero =>
    intro f hd hf q
    cases f with
    | zero => omega
    | succ f =>
      show f_X3_contradict_L35b N (f_X3_contradict_L35 N f) (nI r) (nI (s / 3)) q.1 q.2 (dn 0) n = _
      unfold f_X3_contradict_L35b
      rw [if_pos dn_0]
      rfl
  | succ l ih =>
    intro f hd hf q
    cases f with
    | zero => omega
    | succ f =>
      have e1 := con_inX N h11 hr hs ec hok (f_X3_contradict_L35 N f) (l := l) (nI (s / 3)) (s / 3 - 1 - l) N (by omega) (by omega) q
      have e2 := ih f (by omega) (by omega) ((rwL l (s / 3 - 1 - l)).foldr (stX (pC n r) g100) q)
      rw [alL, List.foldr_append, ← e2, ← e1]
      show f_X3_contradict_L35b N (f_X3_contradict_L35 N f) (nI r) (nI (s / 3)) q.1 q.2 (dn (l + 1)) n = _
      unfold f_X3_contradict_L35b
      have em : nI (s / 3) - 1 = nI (l + (s / 3 - 1 - l)) := by
        have : s / 3 = (l + (s / 3 - 1 - l)) + 1 := by omega
        conv => lhs; rw [this]
        exact nI_pred _
      rw [dn_s, if_neg (nI_pos (by omega)), em]
set_option maxHeartbeats 1000000 in
theorem con_inM (N : Nat) {n : xN} {r s : Nat} (hr : r < 6) (hs : s ≤ 40) (e3 : n.1 45 r = nI s) (rec : Int32 → Int32 → Int32 → Int32 → xN → Option (Int32 × xN)) {l : Nat} (hl : l < s / 3) (q : Int32 × Int32) :
    ∀ (e j f : Nat), l + 1 + j + e = s / 3 → e < f → f_X4_contradict_L49 N rec f (nI r) ((rwL l j).foldl (stM (pC n r) g100) q).1 ((rwL l j).foldl (stM (pC n r) g100) q).2 (nI l) (nI (l + 1 + j)) n = rec (nI r) ((rwL l (s / 3 - 1 - l)).foldl (stM (pC n r) g100) q).1 ((rwL l (s / 3 - 1 - l)).foldl (stM (pC n r) g100) q).2 (nI (l + 1)) n := by
  intro e
  induction e with
  | zero =>
    intro j f he hf
    have ej : j = s / 3 - 1 - l := by omega
    subst ej
    cases f with
    | zero => omega
    | succ f =>
      show f_X4_contradict_L49b N rec (f_X4_contradict_L49 N rec f) (nI r) _ _ (nI l) (nI (l + 1 + (s / 3 - 1 - l))) n = _
      unfold f_X4_contradict_L49b
      rw [gdl_nI (by omega) hr, gdlT nz3, gdl0, nI_clamp (by omega), e3, e_d3 hs, if_pos (by rw [nI_leI (by omega) (by omega)]; omega), nI_1]
  | succ e ih =>
    intro j f he hf
    cases f with
    | zero => omega
    | succ f =>
      have e' := ih (j + 1) f (by omega) (by omega)
      have hrw : (rwL l (j + 1)).foldl (stM (pC n r) g100) q = stM (pC n r) g100 ((rwL l j).foldl (stM (pC n r) g100) q) (l, l + 1 + j) := by
        rw [rwL, List.foldl_append, List.foldl_cons, List.foldl_nil, show l + j + 1 = l + 1 + j by omega]
      rw [hrw] at e'
      generalize (rwL l j).foldl (stM (pC n r) g100) q = Q at e' ⊢
      rw [← e']
      show f_X4_contradict_L49b N rec (f_X4_contradict_L49 N rec f) (nI r) Q.1 Q.2 (nI l) (nI (l + 1 + j)) n = _
      unfold f_X4_contradict_L49b f_X4_contradict_L86 f_X4_contradict_L91 f_X4_contradict_L113 f_X4_contradict_L115 f_X4_contradict_L128
      rw [gdl_nI (by omega) hr, gdlT nz3, gdl0, nI_clamp (by omega), e3, e_d3 hs, if_neg (by rw [nI_leI (by omega) (by omega)]; omega), e_against hr (by omega) (by omega), Option.bind_some, e_against hr (by omega) (by omega), Option.bind_some, nI_1, show l + 1 + j + 1 = l + 1 + (j + 1) by omega]
      unfold stM pC
      show _ = f_X4_contradict_L49 N rec f (nI r) (if (agF n r l (l + 1 + j) || agF n r (l + 1 + j) l) = true then (Q.1 + 1, if Q.1 = 0 then g100 (l, l + 1 + j) else Q.2) else Q).1 (if (agF n r l (l + 1 + j) || agF n r (l + 1 + j) l) = true then (Q.1 + 1, if Q.1 = 0 then g100 (l, l + 1 + j) else Q.2) else Q).2 (nI l) (nI (l + 1 + (j + 1))) n
      have eg : g100 (l, l + 1 + j) = 100 * nI l + nI (l + 1 + j) := rfl
      rw [eg]
      by_cases z : Q.1 = 0 <;> cases agF n r l (l + 1 + j) <;> cases agF n r (l + 1 + j) l <;> simp [bI, z, i_add0]
theorem con_outM (N : Nat) (hN : 100 ≤ N) {n : xN} {r s : Nat} (hr : r < 6) (hs : s ≤ 40) (e3 : n.1 45 r = nI s) :
    ∀ (e l f : Nat), l + e = s / 3 → e < f → f_X4_contradict_L30 N f (nI r) ((alL (s / 3) l).foldl (stM (pC n r) g100) (0, -9)).1 ((alL (s / 3) l).foldl (stM (pC n r) g100) (0, -9)).2 (nI l) n = some (((alL (s / 3) (s / 3)).foldl (stM (pC n r) g100) (0, -9)).1, mI n 39 11 ((alL (s / 3) (s / 3)).foldl (stM (pC n r) g100) (0, -9)).2) := by
  intro e
  induction e with
  | zero =>
    intro l f hl hf
    have el : l = s / 3 := by omega
    subst el
    cases f with
    | zero => omega
    | succ f =>
      show f_X4_contradict_L30b N (f_X4_contradict_L30 N f) (nI r) _ _ (nI (s / 3)) n = _
      unfold f_X4_contradict_L30b
      rw [gdl_nI (by omega) hr, gdlT nz3, gdl0, nI_clamp (by omega), e3, e_d3 hs, if_pos (by rw [nI_leI (by omega) (by omega)]; omega)]
  | succ e ih =>
    intro l f hl hf
    cases f with
    | zero => omega
    | succ f =>
      have e1 := con_inM N hr hs e3 (f_X4_contradict_L30 N f) (show l < s / 3 by omega) ((alL (s / 3) l).foldl (stM (pC n r) g100) (0, -9)) (s / 3 - 1 - l) 0 N (by omega) (by omega)
      have hal : (alL (s / 3) (l + 1)).foldl (stM (pC n r) g100) (0, -9) = (rwL l (s / 3 - 1 - l)).foldl (stM (pC n r) g100) ((alL (s / 3) l).foldl (stM (pC n r) g100) (0, -9)) := by
        rw [alL, List.foldl_append]
      have e2 := ih (l + 1) f (by omega) (by omega)
      rw [hal] at e2
      rw [← e2, ← e1]
      show f_X4_contradict_L30b N (f_X4_contradict_L30 N f) (nI r) _ _ (nI l) n = _
      unfold f_X4_contradict_L30b
      rw [gdl_nI (by omega) hr, gdlT nz3, gdl0, nI_clamp (by omega), e3, e_d3 hs, if_neg (by rw [nI_leI (by omega) (by omega)]; omega), nI_1]
      rfl
theorem op_contradict (N : Nat) (hN : 100 ≤ N) (a : Int32) : Op (f_X3_contradict N a) (f_X4_contradict N a) := by
  intro n h
  obtain ⟨x, n1, n2, e1, e2, e3⟩ := rul N hN a h (fun u => Option.bind (f_X1_sizeOf_1 a u) (fun r17 => gdl [nzi 3] (f_X3_contradict_L35 N N a (r17 / 3) 0 (-9) ((r17 / 3) - 1) u))) (fun u => f_X4_contradict_L30 N N a 0 (-9) 0 u) (fun r s ea hr hs h3 e45 e3 ec hj => by
    subst ea
    have ex := con_outX N hN h.1.2.1 hr hs ec hj (s / 3) N (Nat.le_refl _) (by omega) (0, -9)
    have em := fun (m : xN) (e45m : m.1 45 r = nI s) => con_outM N hN (n := m) hr hs e45m (s / 3) 0 N (by omega) (by omega)
    have hl := alL_len (s / 3) (s / 3)
    have hm : s / 3 * (s / 3) ≤ 13 * 13 := Nat.mul_le_mul (by omega) (by omega)
    refine ⟨((alL (s / 3) (s / 3)).foldr (stX (pC n r) g100) (0, -9)).1, mI n 0 10 ((alL (s / 3) (s / 3)).foldr (stX (pC n r) g100) (0, -9)).2, mI (mI n 0 10 ((alL (s / 3) (s / 3)).foldr (stX (pC n r) g100) (0, -9)).2) 39 11 ((alL (s / 3) (s / 3)).foldr (stX (pC n r) g100) (0, -9)).2, ?_, ?_, Inv_told h _, fun b hb => by rw [mI1, if_neg hb]⟩
    · show Option.bind (f_X1_sizeOf_1 (nI r) n) _ = _
      rw [e_size1 n hr, Option.bind_some, gdlT nz3, gdl0, e3, e_d3 hs]
      exact ex
    · generalize hme : mI n 0 10 ((alL (s / 3) (s / 3)).foldr (stX (pC n r) g100) (0, -9)).2 = m
      have em1 : ∀ b, b ≠ 0 → m.1 b = n.1 b := fun b hb => by rw [← hme, mI1, if_neg hb]
      have ep : pC m r = pC n r := by
        funext x
        unfold pC agF tRl vRl fRl clL
        simp only [em1 46 (by decide)]
      have ex2 := em m (by rw [em1 45 (by decide)]; exact e45)
      rw [ep, fold_XM (L := alL (s / 3) (s / 3)) _ _ (by omega)] at ex2
      exact ex2)
  refine ⟨x, n1, n2, ?_, ?_, e3⟩
  · unfold f_X3_contradict
    exact e1
  · unfold f_X4_contradict
    exact e2
