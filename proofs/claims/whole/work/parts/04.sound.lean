/-! ===== what xStep says is true of the machine ===== -/
theorem lv_mono {ls : Array Slot} {n : Nat} {l l' : List (Nat × Value)} (h : lv_has ls n l) (hm : ∀ q ∈ l', q ∈ l) : lv_has ls n l' := ⟨h.1, h.2.1, fun q hq => h.2.2 q (hm q hq)⟩
theorem xGet_mem {lv : List (Nat × Value)} {i : Nat} {v : Value} (h : xGet lv i = some v) : (i, v) ∈ lv := by
  induction lv with
  | nil => cases h
  | cons q r ih =>
    simp only [xGet] at h
    split at h
    · rename_i he
      cases h
      rw [← he]
      exact List.mem_cons_self
    · exact List.mem_cons_of_mem _ (ih h)
theorem xGet_has {G : xG} {lv : List (Nat × Value)} {i : Nat} {v : Value} {ls : Array Slot} {n : Nat} (h : xGet lv i = some v) (hl : lv_has ls n (xcl G lv)) : ls[i]? = some (.val (xc G v)) := hl.2.2 (i, xc G v) (List.mem_map.mpr ⟨(i, v), xGet_mem h, rfl⟩)
theorem xc_cat (G : xG) (v : Value) : (xc G v).category = v.category := by
  cases v <;> rfl
theorem xIns_mem {i : Nat} {v : Value} {l : List (Nat × Value)} {q : Nat × Value} (h : q ∈ xIns i v l) : q = (i, v) ∨ q ∈ l := by
  induction l with
  | nil => simpa [xIns] using h
  | cons a r ih =>
    simp only [xIns] at h
    split at h
    · rcases List.mem_cons.mp h with h | h
      · exact Or.inr (by rw [h]; exact List.mem_cons_self)
      · rcases ih h with h | h
        · exact Or.inl h
        · exact Or.inr (List.mem_cons_of_mem _ h)
    · rcases List.mem_cons.mp h with h | h
      · exact Or.inl h
      · exact Or.inr h
theorem xSet_has {G : xG} {lv : List (Nat × Value)} {i : Nat} {v : Value} {ls : Array Slot} {n : Nat} (P : Nat → Nat → Bool) (hl : lv_has ls n ((i, xc G v) :: (xcl G lv).filter (fun q => P q.1 q.2.category))) : lv_has ls n (xcl G (xIns i v (lv.filter (fun q => P q.1 q.2.category)))) := by
  refine lv_mono hl fun q hq => ?_
  obtain ⟨z, hz, rfl⟩ := List.mem_map.mp hq
  rcases xIns_mem hz with rfl | hz
  · exact List.mem_cons_self
  · obtain ⟨h1, h2⟩ := List.mem_filter.mp hz
    refine List.mem_cons_of_mem _ (List.mem_filter.mpr ⟨List.mem_map.mpr ⟨z, h1, rfl⟩, ?_⟩)
    show P z.1 (xc G z.2).category = true
    rw [xc_cat]
    exact h2
def xRn : Nat → String := fun c => ([RX0, RX1, RX2, RX3, RX4] : List String).getD c RX0
theorem xCl_at : ∀ c, c < 5 → vwCl[c]? = some (xRn c, xT c, (xKs c).length) := by
  intro c hc
  match c, hc with
  | 0, _ => rfl
  | 1, _ => rfl
  | 2, _ => rfl
  | 3, _ => rfl
  | 4, _ => rfl
  | k + 5, h => exact absurd h (by omega)
theorem xW0 : ∀ w ∈ u_ws RX0 TX0 8, w ∈ lw_tbl ∧ goodWord w = true := by decide +kernel
theorem xW1 : ∀ w ∈ u_ws RX1 TX1 5, w ∈ lw_tbl ∧ goodWord w = true := by decide +kernel
theorem xW2 : ∀ w ∈ u_ws RX2 TX2 6, w ∈ lw_tbl ∧ goodWord w = true := by decide +kernel
theorem xW3 : ∀ w ∈ u_ws RX3 TX3 13, w ∈ lw_tbl ∧ goodWord w = true := by decide +kernel
theorem xW4 : ∀ w ∈ u_ws RX4 TX4 25, w ∈ lw_tbl ∧ goodWord w = true := by decide +kernel
theorem xWs : ∀ c, c < 5 → ∀ w ∈ u_ws (xRn c) (xT c) (xKs c).length, w ∈ lw_g := by
  intro c hc
  match c, hc with
  | 0, _ => exact fun w h => lw_g_mk (xW0 w h).1 (xW0 w h).2
  | 1, _ => exact fun w h => lw_g_mk (xW1 w h).1 (xW1 w h).2
  | 2, _ => exact fun w h => lw_g_mk (xW2 w h).1 (xW2 w h).2
  | 3, _ => exact fun w h => lw_g_mk (xW3 w h).1 (xW3 w h).2
  | 4, _ => exact fun w h => lw_g_mk (xW4 w h).1 (xW4 w h).2
  | k + 5, h => exact absurd h (by omega)
theorem xTy_ok : ∀ c, c < 5 → ∀ k, k < (xKs c).length → parseFieldDescriptor (xT c k).2.2.1 = some (xTy c k) := by
  intro c hc
  match c, hc with
  | 0, _ => exact tyX0_ok
  | 1, _ => exact tyX1_ok
  | 2, _ => exact tyX2_ok
  | 3, _ => exact tyX3_ok
  | 4, _ => exact tyX4_ok
  | k + 5, h => exact absurd h (by omega)
theorem xNm_ok : ∀ c, c < 5 → ∀ a, a < (xKs c).length → ∀ b, b < (xKs c).length → a ≠ b → (xT c a).2.1 ≠ (xT c b).2.1 := by
  intro c hc
  match c, hc with
  | 0, _ => exact nmX0
  | 1, _ => exact nmX1
  | 2, _ => exact nmX2
  | 3, _ => exact nmX3
  | 4, _ => exact nmX4
  | k + 5, h => exact absurd h (by omega)
theorem xTyK : ∀ c, c < 5 → ∀ k, k < (xKs c).length → (xTy c k = .int → (xKs c).getD k 0 = 0) ∧ (xTy c k = .boolean → (xKs c).getD k 0 = 0) ∧ (xTy c k = .long → (xKs c).getD k 0 = 1) ∧ (xTy c k = .object "NeitherBare$Court" → (xKs c).getD k 0 = 2) := by decide +kernel
theorem xE_obj {G : xG} {u : xM} {a ci : Nat} (h : xSh a = (0, ci)) : xE G u a = .inr (ci, xFs G u ci a) := by
  unfold xE
  rw [h]
  rfl
theorem xE_int {G : xG} {u : xM} {a n : Nat} (h : xSh a = (1, n)) : xE G u a = .inl (G.2.2.1, n, .inl (u.1 a)) := by
  unfold xE
  rw [h]
  rfl
theorem xE_bool {G : xG} {u : xM} {a n : Nat} (h : xSh a = (2, n)) : xE G u a = .inl (G.2.2.2.1, n, .inl (u.1 a)) := by
  unfold xE
  rw [h]
  rfl
theorem xE_ref {G : xG} {u : xM} {a n : Nat} (h : xSh a = (3, n)) : xE G u a = .inl (G.2.2.2.2, n, .inr (.inr (.inr (.inr (fun j => (u.2.2 a j).map G.1))))) := by
  unfold xE
  rw [h]
  rfl
theorem xFs_at {G : xG} {u : xM} {ci a k : Nat} (h : k < (xKs ci).length) : (xFs G u ci a)[k]? = some (xV G u a k ((xKs ci).getD k 0)) := by
  simp [xFs, h]
theorem xFs_len {G : xG} {u : xM} {ci a : Nat} : (xFs G u ci a).length = (xKs ci).length := by simp [xFs]
theorem xFs_set {G : xG} {u u' : xM} {ci a k : Nat} {v : Value} (hk : xV G u' a k ((xKs ci).getD k 0) = v) (ho : ∀ j kd, j ≠ k → xV G u' a j kd = xV G u a j kd) : xFs G u' ci a = (xFs G u ci a).set k v := by
  apply List.ext_getElem?
  intro i
  simp only [List.getElem?_set, xFs_len]
  by_cases hi : i < (xKs ci).length
  · rw [xFs_at hi]
    by_cases hki : k = i
    · subst hki
      rw [if_pos rfl, if_pos hi, hk]
    · rw [if_neg hki, xFs_at hi, ho i _ (fun q => hki q.symm)]
  · have h1 : (xFs G u' ci a)[i]? = none := List.getElem?_eq_none (by rw [xFs_len]; omega)
    have h2 : (xFs G u ci a)[i]? = none := List.getElem?_eq_none (by rw [xFs_len]; omega)
    rw [h1, h2]
    by_cases hki : k = i
    · rw [if_pos hki, if_neg (by omega)]
    · rw [if_neg hki]
theorem xV_I {G : xG} {u : xM} {a k j kd : Nat} {v : Int32} (h : j ≠ k) : xV G (xI u a k v) a j kd = xV G u a j kd := by
  unfold xV
  simp [xI, va_up, upd, h]
theorem xV_J {G : xG} {u : xM} {a k j kd : Nat} {v : Int64} (h : j ≠ k) : xV G (xJ u a k v) a j kd = xV G u a j kd := by
  unfold xV
  simp [xJ, va_up, h]
theorem xV_R {G : xG} {u : xM} {a k j kd : Nat} {v : Option Nat} (h : j ≠ k) : xV G (xR u a k v) a j kd = xV G u a j kd := by
  unfold xV
  simp [xR, va_up, h]
theorem xI_E {G : xG} {u : xM} {a k : Nat} {v : Int32} : ∀ b, b ≠ a → xE G (xI u a k v) b = xE G u b := fun b h => xE_congr (xI_other h) rfl rfl
theorem xJ_E {G : xG} {u : xM} {a k : Nat} {v : Int64} : ∀ b, b ≠ a → xE G (xJ u a k v) b = xE G u b := fun b h => xE_congr rfl (xJ_other h) rfl
theorem xR_E {G : xG} {u : xM} {a k : Nat} {v : Option Nat} : ∀ b, b ≠ a → xE G (xR u a k v) b = xE G u b := fun b h => xE_congr rfl rfl (xR_other h)
theorem xLk {w : Cond} {n : Nat} (h : lw_tbl[n]? = some w) (hg : goodWord w = true) : w ∈ lw_g := lw_g_mk (List.mem_of_getElem? h) hg
theorem xb_t {b : Bool} (h : some b ≠ some false) : b = true := by
  cases b
  · exact absurd rfl h
  · rfl
section XS
variable {p : Program} {l : Launch} {e : Env} {R : Room} {s : State} {m : MethodId} {args : Array Value} {below : List Frame} {meth : Method} {c : Code} {G : xG} {cc : ByteArray} {own : String} {nL d cells slots : Nat} {Q : State → Prop}
set_option maxHeartbeats 4000000 in
theorem xStep_ok (C : xCx p R s m args meth c G cc own nL d cells slots) {i : xIn} {pc : Nat} {lv lv' : List (Nat × Value)} {st st' : List Value} {u u' : xM} {b : Option Bool} (hd : decode cc pc = .ok (i.1, xLen i.1)) (ha : xAnn own i = true) (h : xStep nL i lv st u = some (b, lv', st', u')) (hb : b ≠ some false) (kk : xGo p l e R s m args below meth c G nL cells slots Q (pc + xLen i.1) lv' st' u') : xGo p l e R s m args below meth c G nL cells slots Q pc lv st u := by
  obtain ⟨hx, hbc, hml, hown, hts, hWo, -⟩ := C
  obtain ⟨ins, ⟨a1, a2, a3⟩, vi, vl⟩ := i
  obtain ⟨hK, hI, hStat, hN⟩ := id hWo
  intro H locs ls hl hP hS
  have hD : va_D (xA G) (xws G u) := xws_D hI
  cases ins with
  | iconst n =>
    simp only [xStep] at h
    cases h
    simp only [xAnn, decide_eq_true_eq] at ha
    exact lv_iconst hx hbc hd ha (kk H locs ls hl hP hS)
  | bipush n =>
    simp only [xStep] at h
    cases h
    simp only [xAnn, decide_eq_true_eq] at ha
    exact lv_bipush hx hbc hd ha (kk H locs ls hl hP hS)
  | sipush n =>
    simp only [xStep] at h
    cases h
    simp only [xAnn, decide_eq_true_eq] at ha
    exact lv_sipush hx hbc hd ha (kk H locs ls hl hP hS)
  | lconst n =>
    simp only [xStep] at h
    cases h
    simp only [xAnn, decide_eq_true_eq] at ha
    exact lv_lconst hx hbc hd ha (kk H locs ls hl hP hS)
  | ldc x =>
    simp only [xStep] at h
    cases h
    simp only [xAnn, decide_eq_true_eq] at ha
    exact lv_ldc hx hbc hown (hts _ (xLk ha rfl)) hd (kk H locs ls hl hP hS)
  | ldc_w x =>
    simp only [xStep] at h
    cases h
    simp only [xAnn, decide_eq_true_eq] at ha
    exact lv_ldcw hx hbc hown (hts _ (xLk ha rfl)) hd (kk H locs ls hl hP hS)
  | ldc2_w x =>
    simp only [xStep] at h
    cases h
    simp only [xAnn, decide_eq_true_eq] at ha
    exact lv_ldc2 hx hbc hown (hts _ (xLk ha rfl)) hd (kk H locs ls hl hP hS)
  | iload k =>
    simp only [xStep] at h
    split at h
    · rename_i x hg
      cases h
      exact lv_iload hx hbc hd (xGet_has hg hl) (kk H locs ls hl hP hS)
    · cases h
  | lload k =>
    simp only [xStep] at h
    split at h
    · rename_i x hg
      cases h
      exact lv_lload hx hbc hd (xGet_has hg hl) (kk H locs ls hl hP hS)
    · cases h
  | aload k =>
    simp only [xStep] at h
    split at h
    · rename_i x hg
      cases h
      exact lv_aload hx hbc hd (xGet_has hg hl) (kk H locs ls hl hP hS)
    · cases h
  | iload_n k =>
    simp only [xStep] at h
    split at h
    · rename_i x hg
      cases h
      exact lv_iload_n hx hbc hd rfl (xGet_has hg hl) (kk H locs ls hl hP hS)
    · cases h
  | lload_n k =>
    simp only [xStep] at h
    split at h
    · rename_i x hg
      cases h
      exact lv_lload_n hx hbc hd rfl (xGet_has hg hl) (kk H locs ls hl hP hS)
    · cases h
  | aload_n k =>
    simp only [xStep] at h
    split at h
    · rename_i x hg
      cases h
      exact lv_aload_n hx hbc hd rfl (xGet_has hg hl) (kk H locs ls hl hP hS)
    · cases h
  | istore k =>
    simp only [xStep] at h
    split at h
    · split at h
      · rename_i hlt
        cases h
        exact lv_istore hx hbc hd hl hlt rfl (fun ls' hl' => kk H locs ls' (xSet_has (fun a b => !(a == (k : Nat)) && !(a + 1 == (k : Nat) && b == 2)) hl') hP hS)
      · cases h
    · cases h
  | istore_n k =>
    simp only [xStep] at h
    split at h
    · split at h
      · rename_i hlt
        cases h
        exact lv_istore_n hx hbc hd rfl hl hlt rfl (fun ls' hl' => kk H locs ls' (xSet_has (fun a b => !(a == (k : Nat)) && !(a + 1 == (k : Nat) && b == 2)) hl') hP hS)
      · cases h
    · cases h
  | astore_n k =>
    simp only [xStep] at h
    split at h
    · split at h
      · rename_i hlt
        cases h
        exact lv_astore_n hx hbc hd rfl hl hlt rfl (fun ls' hl' => kk H locs ls' (xSet_has (fun a b => !(a == (k : Nat)) && !(a + 1 == (k : Nat) && b == 2)) hl') hP hS)
      · cases h
    · cases h
  | lstore k =>
    simp only [xStep] at h
    split at h
    · split at h
      · rename_i hlt
        cases h
        exact lv_lstore hx hbc hd hl hlt rfl (fun ls' hl' => kk H locs ls' (xSet_has (fun a b => !(a == (k : Nat)) && (!(a == (k : Nat) + 1) && !(a + 1 == (k : Nat) && b == 2))) hl') hP hS)
      · cases h
    · cases h
  | lstore_n k =>
    simp only [xStep] at h
    split at h
    · split at h
      · rename_i hlt
        cases h
        exact lv_lstore_n hx hbc hd rfl hl hlt rfl (fun ls' hl' => kk H locs ls' (xSet_has (fun a b => !(a == (k : Nat)) && (!(a == (k : Nat) + 1) && !(a + 1 == (k : Nat) && b == 2))) hl') hP hS)
      · cases h
    · cases h
  | iinc k n =>
    simp only [xStep] at h
    split at h
    · rename_i x hg
      split at h
      · rename_i hlt
        cases h
        simp only [xAnn, decide_eq_true_eq] at ha
        obtain ⟨j, hj⟩ := List.getElem?_of_mem (List.mem_map.mpr ⟨(k, Value.int x), xGet_mem hg, rfl⟩ : (k, Value.int x) ∈ xcl G lv)
        exact lv_iinc hx hbc hd hl hj (by rw [ha]) hlt rfl (fun ls' hl' => kk H locs ls' (xSet_has (fun a b => !(a == (k : Nat)) && !(a + 1 == (k : Nat) && b == 2)) hl') hP hS)
      · cases h
    · cases h
  | iadd =>
    simp only [xStep] at h
    split at h
    · cases h
      exact lv_iadd hx hbc hd (kk H locs ls hl hP hS)
    · cases h
  | isub =>
    simp only [xStep] at h
    split at h
    · cases h
      exact lv_isub hx hbc hd (kk H locs ls hl hP hS)
    · cases h
  | imul =>
    simp only [xStep] at h
    split at h
    · cases h
      exact lv_imul hx hbc hd (kk H locs ls hl hP hS)
    · cases h
  | iand =>
    simp only [xStep] at h
    split at h
    · cases h
      exact lv_iand hx hbc hd (kk H locs ls hl hP hS)
    · cases h
  | ior =>
    simp only [xStep] at h
    split at h
    · cases h
      exact lv_ior hx hbc hd (kk H locs ls hl hP hS)
    · cases h
  | ixor =>
    simp only [xStep] at h
    split at h
    · cases h
      exact lv_ixor hx hbc hd (kk H locs ls hl hP hS)
    · cases h
  | ishl =>
    simp only [xStep] at h
    split at h
    · cases h
      exact lv_ishl hx hbc hd (kk H locs ls hl hP hS)
    · cases h
  | ishr =>
    simp only [xStep] at h
    split at h
    · cases h
      exact lv_ishr hx hbc hd (kk H locs ls hl hP hS)
    · cases h
  | ladd =>
    simp only [xStep] at h
    split at h
    · cases h
      exact lv_ladd hx hbc hd (kk H locs ls hl hP hS)
    · cases h
  | lmul =>
    simp only [xStep] at h
    split at h
    · cases h
      exact lv_lmul hx hbc hd (kk H locs ls hl hP hS)
    · cases h
  | land =>
    simp only [xStep] at h
    split at h
    · cases h
      exact lv_land hx hbc hd (kk H locs ls hl hP hS)
    · cases h
  | lor =>
    simp only [xStep] at h
    split at h
    · cases h
      exact lv_lor hx hbc hd (kk H locs ls hl hP hS)
    · cases h
  | iushr =>
    simp only [xStep] at h
    split at h
    · cases h
      exact lv_iushr hx hbc hd rfl (kk H locs ls hl hP hS)
    · cases h
  | lshl =>
    simp only [xStep] at h
    split at h
    · cases h
      exact lv_lshl hx hbc hd rfl (kk H locs ls hl hP hS)
    · cases h
  | lushr =>
    simp only [xStep] at h
    split at h
    · cases h
      exact lv_lushr hx hbc hd rfl (kk H locs ls hl hP hS)
    · cases h
  | i2l =>
    simp only [xStep] at h
    split at h
    · cases h
      exact lv_i2l hx hbc hd rfl (kk H locs ls hl hP hS)
    · cases h
  | l2i =>
    simp only [xStep] at h
    split at h
    · cases h
      exact lv_l2i hx hbc hd rfl (kk H locs ls hl hP hS)
    · cases h
  | i2b =>
    simp only [xStep] at h
    split at h
    · cases h
      exact lv_i2b hx hbc hd rfl (kk H locs ls hl hP hS)
    · cases h
  | idiv =>
    simp only [xStep] at h
    split at h
    · cases h
      exact lv_idiv hx hbc hd (nzi_ne (xb_t hb)) (kk H locs ls hl hP hS)
    · cases h
  | irem =>
    simp only [xStep] at h
    split at h
    · cases h
      exact lv_irem hx hbc hd (nzi_ne (xb_t hb)) (kk H locs ls hl hP hS)
    · cases h
  | ldiv =>
    simp only [xStep] at h
    split at h
    · cases h
      exact lv_ldiv hx hbc hd (nzl_ne (xb_t hb)) (kk H locs ls hl hP hS)
    · cases h
  | lrem =>
    simp only [xStep] at h
    split at h
    · cases h
      exact lv_lrem hx hbc hd (nzl_ne (xb_t hb)) (kk H locs ls hl hP hS)
    · cases h
  | lcmp =>
    simp only [xStep] at h
    split at h
    · cases h
      exact W.lcmp hx hbc hd (kk H locs ls hl hP hS)
    · cases h
  | dup =>
    simp only [xStep] at h
    split at h
    · cases h
      exact lv_dup hx hbc hd rfl (kk H locs ls hl hP hS)
    · cases h
      exact lv_dup hx hbc hd rfl (kk H locs ls hl hP hS)
    · cases h
  | dup2 =>
    simp only [xStep] at h
    split at h
    · cases h
      exact lv_dup2_11 hx hbc hd rfl rfl (kk H locs ls hl hP hS)
    · cases h
  | getfield x =>
    simp only [xAnn, Bool.and_eq_true, decide_eq_true_eq] at ha
    obtain ⟨h5, hk, hw⟩ := ha
    simp only [xStep] at h
    split at h
    · rename_i a r
      split at h
      · rename_i hsh
        have he : (xws G u)[a]? = some (G.1 a, .inr (a1, xFs G u a1 a)) := by rw [xws_at hsh.2, xE_obj hsh.1]
        have hv := xFs_at (G := G) (u := u) (ci := a1) (a := a) hk
        split at h
        · rename_i hkd
          cases h
          rw [hkd] at hv
          exact va_get hx hbc hts (xWs a1 h5) hown hK hP a he (xCl_at a1 h5) a2 hk (hts _ (xLk hw rfl)) (fun _ h9 => h9) hv hd (kk H locs ls hl hP hS)
        · rename_i hkd
          cases h
          rw [hkd] at hv
          exact va_get hx hbc hts (xWs a1 h5) hown hK hP a he (xCl_at a1 h5) a2 hk (hts _ (xLk hw rfl)) (fun _ h9 => h9) hv hd (kk H locs ls hl hP hS)
        · rename_i n0 n1
          cases h
          have hv2 : (xFs G u a1 a)[a2]? = some (xc G (va_rf (u.2.2 a a2))) := by
            rw [hv]
            unfold xV
            split
            · rename_i q; exact absurd q n0
            · rename_i q; exact absurd q n1
            · rfl
          exact va_get hx hbc hts (xWs a1 h5) hown hK hP a he (xCl_at a1 h5) a2 hk (hts _ (xLk hw rfl)) (fun _ h9 => h9) hv2 hd (kk H locs ls hl hP hS)
      · cases h
    · cases h
  | putfield x =>
    simp only [xAnn, Bool.and_eq_true, decide_eq_true_eq, Bool.not_eq_true'] at ha
    obtain ⟨h5, hk, hw, hfin⟩ := ha
    obtain ⟨kI, kB, kL, kO⟩ := xTyK a1 h5 a2 hk
    have hpd := xTy_ok a1 h5 a2 hk
    simp only [xStep] at h
    split at h
    · rename_i y a r
      split at h
      · rename_i hsh
        have he : (xws G u)[a]? = some (G.1 a, .inr (a1, xFs G u a1 a)) := by rw [xws_at hsh.2, xE_obj hsh.1]
        have hset : (xTy a1 a2 = .int ∨ xTy a1 a2 = .boolean) → (xws G u).set a (G.1 a, .inr (a1, (xFs G u a1 a).set a2 (.int y))) = xws G (xI u a a2 y) := by
          intro hty
          refine xws_set ?_ xI_E
          rw [xE_obj hsh.1]
          refine congrArg (fun z => Sum.inr (a1, z)) (xFs_set ?_ (fun j kd hj => xV_I hj))
          rw [hty.elim kI kB]
          show Value.int ((xI u a a2 y).1 a a2) = _
          rw [xI_same]
          simp [upd]
        split at h
        · rename_i hty
          cases h
          refine va_put hx hbc hts (xWs a1 h5) (xTy a1) (xTy_ok a1 h5) (xNm_ok a1 h5) hown hK hP hD hS a he (xCl_at a1 h5) a2 hk (hts _ (xLk hw rfl)) (fun _ h9 => h9) hfin hpd (v := .int y) (by rw [hty]; rfl) (by rw [hty]; rfl) (by rw [xFs_len]; exact hk) hd (fun H1 locs1 hP1 hD1 hS1 => ?_)
          rw [hset (Or.inl hty)] at hP1
          exact kk H1 locs1 ls hl hP1 hS1
        · split at h
          · rename_i hty
            cases h
            have hy := isb_or (xb_t hb)
            refine va_put hx hbc hts (xWs a1 h5) (xTy a1) (xTy_ok a1 h5) (xNm_ok a1 h5) hown hK hP hD hS a he (xCl_at a1 h5) a2 hk (hts _ (xLk hw rfl)) (fun _ h9 => h9) hfin hpd (v := .int y) (by rw [hty]; rcases hy with rfl | rfl <;> rfl) (by rw [hty]; rcases hy with rfl | rfl <;> rfl) (by rw [xFs_len]; exact hk) hd (fun H1 locs1 hP1 hD1 hS1 => ?_)
            rw [hset (Or.inr hty)] at hP1
            exact kk H1 locs1 ls hl hP1 hS1
          · cases h
      · cases h
    · rename_i y a r
      split at h
      · rename_i hsh
        have he : (xws G u)[a]? = some (G.1 a, .inr (a1, xFs G u a1 a)) := by rw [xws_at hsh.2, xE_obj hsh.1]
        split at h
        · rename_i hty
          cases h
          have hset : (xws G u).set a (G.1 a, .inr (a1, (xFs G u a1 a).set a2 (.long y))) = xws G (xJ u a a2 y) := by
            refine xws_set ?_ xJ_E
            rw [xE_obj hsh.1]
            refine congrArg (fun z => Sum.inr (a1, z)) (xFs_set ?_ (fun j kd hj => xV_J hj))
            rw [kL hty]
            show Value.long ((xJ u a a2 y).2.1 a a2) = _
            simp [xJ, va_up]
          refine va_put hx hbc hts (xWs a1 h5) (xTy a1) (xTy_ok a1 h5) (xNm_ok a1 h5) hown hK hP hD hS a he (xCl_at a1 h5) a2 hk (hts _ (xLk hw rfl)) (fun _ h9 => h9) hfin hpd (v := .long y) (by rw [hty]; rfl) (by rw [hty]; rfl) (by rw [xFs_len]; exact hk) hd (fun H1 locs1 hP1 hD1 hS1 => ?_)
          rw [hset] at hP1
          exact kk H1 locs1 ls hl hP1 hS1
        · cases h
      · cases h
    · rename_i y a r
      split at h
      · rename_i hsh
        have he : (xws G u)[a]? = some (G.1 a, .inr (a1, xFs G u a1 a)) := by rw [xws_at hsh.2, xE_obj hsh.1]
        split at h
        · rename_i hty
          cases h
          have hset : (xws G u).set a (G.1 a, .inr (a1, (xFs G u a1 a).set a2 (.ref (G.1 y)))) = xws G (xR u a a2 (some y)) := by
            refine xws_set ?_ xR_E
            rw [xE_obj hsh.1]
            refine congrArg (fun z => Sum.inr (a1, z)) (xFs_set ?_ (fun j kd hj => xV_R hj))
            rw [kO hty]
            show xc G (va_rf ((xR u a a2 (some y)).2.2 a a2)) = _
            simp [xR, va_up, va_rf, xc]
          refine va_put hx hbc hts (xWs a1 h5) (xTy a1) (xTy_ok a1 h5) (xNm_ok a1 h5) hown hK hP hD hS a he (xCl_at a1 h5) a2 hk (hts _ (xLk hw rfl)) (fun _ h9 => h9) hfin hpd (v := .ref (G.1 y)) (by rw [hty]; rfl) (by rw [hty]; rfl) (by rw [xFs_len]; exact hk) hd (fun H1 locs1 hP1 hD1 hS1 => ?_)
          rw [hset] at hP1
          exact kk H1 locs1 ls hl hP1 hS1
        · cases h
      · cases h
    · cases h
  | iaload =>
    simp only [xStep] at h
    split at h
    · rename_i j a r
      split at h
      · rename_i n hsh
        split at h
        · rename_i hlt
          cases h
          have he : (xws G u)[a]? = some (G.1 a, .inl (G.2.2.1, n, .inl (u.1 a))) := by rw [xws_at hlt, xE_int hsh]
          exact va_iald hx hbc hK hP a 0 he rfl (inb_in (xb_t hb)) hd (kk H locs ls hl hP hS)
        · cases h
      · rename_i n hsh
        split at h
        · rename_i hor
          cases h
          rcases hor with rfl | rfl
          · exact va_ti hx hbc hStat.1.2 hS (inb_in (xb_t hb)) rfl hd (kk H locs ls hl hP hS)
          · exact va_ti hx hbc hStat.2.1.2 hS (inb_in (xb_t hb)) rfl hd (kk H locs ls hl hP hS)
        · cases h
      · cases h
    · cases h
  | laload =>
    simp only [xStep] at h
    split at h
    · rename_i j a r
      split at h
      · rename_i ha6
        cases h
        subst ha6
        exact va_tl hx hbc hStat.2.2.2 hS (inb_in (xb_t hb)) rfl hd (kk H locs ls hl hP hS)
      · cases h
    · cases h
  | baload =>
    simp only [xStep] at h
    split at h
    · rename_i j a r
      split at h
      · rename_i n hsh
        split at h
        · rename_i hlt
          cases h
          have he : (xws G u)[a]? = some (G.1 a, .inl (G.2.2.2.1, n, .inl (u.1 a))) := by rw [xws_at hlt, xE_bool hsh]
          exact va_zald hx hbc hK hP a 1 he rfl (inb_in (xb_t hb)) hd (kk H locs ls hl hP hS)
        · cases h
      · cases h
    · cases h
  | iastore =>
    simp only [xStep] at h
    split at h
    · rename_i y j a r
      split at h
      · rename_i n hsh
        split at h
        · rename_i hlt
          cases h
          have he : (xws G u)[a]? = some (G.1 a, .inl (G.2.2.1, n, .inl (u.1 a))) := by rw [xws_at hlt, xE_int hsh]
          refine va_iast hx hbc hK hP hD hS a 0 he rfl (inb_in (xb_t hb)) hd (fun H1 locs1 hP1 hD1 hS1 => ?_)
          have hset : (xws G u).set a (G.1 a, .inl (G.2.2.1, n, .inl (upd (u.1 a) j.toNatClampNeg y))) = xws G (xI u a j.toNatClampNeg y) := by
            refine xws_set ?_ xI_E
            rw [xE_int hsh, xI_same]
          rw [hset] at hP1
          exact kk H1 locs1 ls hl hP1 hS1
        · cases h
      · cases h
    · cases h
  | bastore =>
    simp only [xStep] at h
    split at h
    · rename_i y j a r
      split at h
      · rename_i n hsh
        split at h
        · rename_i hlt
          cases h
          have he : (xws G u)[a]? = some (G.1 a, .inl (G.2.2.2.1, n, .inl (u.1 a))) := by rw [xws_at hlt, xE_bool hsh]
          refine va_zast hx hbc hK hP hD hS a 1 he rfl (inb_in (xb_t hb)) hd (fun H1 locs1 hP1 hD1 hS1 => ?_)
          have hset : (xws G u).set a (G.1 a, .inl (G.2.2.2.1, n, .inl (upd (u.1 a) j.toNatClampNeg (vp_nar .boolean y)))) = xws G (xI u a j.toNatClampNeg (vp_nar .boolean y)) := by
            refine xws_set ?_ xI_E
            rw [xE_bool hsh, xI_same]
          rw [hset] at hP1
          exact kk H1 locs1 ls hl hP1 hS1
        · cases h
      · cases h
    · cases h
  | arraylength =>
    simp only [xStep] at h
    split at h
    · rename_i a r
      split at h
      · rename_i n hsh
        split at h
        · rename_i hlt
          cases h
          have he : (xws G u)[a]? = some (G.1 a, .inl (G.2.2.1, n, .inl (u.1 a))) := by rw [xws_at hlt, xE_int hsh]
          exact va_alen hx hbc hK hP a 0 he (ty := .int) rfl rfl hd (kk H locs ls hl hP hS)
        · cases h
      · cases h
    · cases h
  | getstatic x =>
    simp only [xStep] at h
    cases h
    simp only [xAnn] at ha
    split at ha
    · rename_i h54
      simp only [decide_eq_true_eq] at ha
      subst h54
      exact va_gets hx hbc hStat.1.1 hS hown (hts _ (xLk ha rfl)) (fun _ h9 => h9) hd (kk H locs ls hl hP hS)
    · split at ha
      · rename_i h55
        simp only [Bool.and_eq_true, decide_eq_true_eq] at ha
        obtain ⟨ho, hxx⟩ := ha
        subst h55; subst hxx; subst ho
        exact va_getsN hx hbc hStat.2.1.1 hS hown (va_Nw.use rfl hN.2.2.1) (fun _ h9 => h9) hd (kk H locs ls hl hP hS)
      · simp only [Bool.and_eq_true, decide_eq_true_eq] at ha
        obtain ⟨h56, hw⟩ := ha
        subst h56
        exact va_gets hx hbc hStat.2.2.1 hS hown (hts _ (xLk hw rfl)) (fun _ h9 => h9) hd (kk H locs ls hl hP hS)
  | _ => simp only [xStep] at h; cases h
theorem xRun_ok (C : xCx p R s m args meth c G cc own nL d cells slots) : ∀ (is : List xIn) {pc pc' : Nat} {lv lv' : List (Nat × Value)} {st st' : List Value} {u u' : xM} {bs : List Bool}, xOk own cc pc is = true → xRun nL is pc lv st u = some (bs, pc', lv', st', u') → (∀ b ∈ bs, b = true) → xGo p l e R s m args below meth c G nL cells slots Q pc' lv' st' u' → xGo p l e R s m args below meth c G nL cells slots Q pc lv st u := by
  intro is
  induction is with
  | nil =>
    intro pc pc' lv lv' st st' u u' bs _ h _ kk
    simp only [xRun] at h
    cases h
    exact kk
  | cons i is ih =>
    intro pc pc' lv lv' st st' u u' bs hok h hbs kk
    simp only [xOk, Bool.and_eq_true, decide_eq_true_eq] at hok
    obtain ⟨hd, ha, hok⟩ := hok
    simp only [xRun] at h
    split at h
    · rename_i lv1 st1 u1 hs
      exact xStep_ok C hd ha hs (by simp) (ih hok h hbs kk)
    · rename_i b lv1 st1 u1 hs
      split at h
      · rename_i bs1 z hr
        cases h
        exact xStep_ok C hd ha hs (by rw [hbs b List.mem_cons_self]; simp) (ih hok hr (fun b h => hbs b (List.mem_cons_of_mem _ h)) kk)
      · cases h
    · cases h
end XS
