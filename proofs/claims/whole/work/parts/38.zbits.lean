/-! ===== how many bits ===== -/
def pcN (w : Nat) : Nat → Nat
  | 0 => 0
  | k + 1 => pcN w k + w / 2 ^ k % 2
theorem pcN_le (w k : Nat) : pcN w k ≤ k := by
  induction k with
  | zero => exact Nat.le_refl 0
  | succ k ih => rw [pcN]; omega
theorem bc_all : (List.range 8192).all (fun w => decide (f_J6_bitCount_0f7a4 (nI w) = some (nI (pcN w 13)))) = true := by decide +kernel
theorem e_bitc {w : Nat} (h : w < 8192) : f_J6_bitCount_0f7a4 (nI w) = some (nI (pcN w 13)) := by
  have := List.all_eq_true.mp bc_all w (List.mem_range.mpr h)
  simpa using this
theorem e_bits (N : Nat) (hN : 20 ≤ N) {w : Nat} (hw : w < 2 ^ 31) : f_X4_bits N (nI w) = some (nI (pcN w 13)) := by
  unfold f_X4_bits
  have key := eq_for (rc := fun k i s => f_X4_bits_L4 N k (nI w) s i) (body := fun k i s => f_X4_bits_L4b N (fun _ a b => k b a) (nI w) s i) (fun _ _ _ => rfl) 0 13 (fun i => nI (pcN w i)) (some (nI (pcN w 13))) ?_ ?_ N 0 (Nat.le_refl _) (by omega) (by omega)
  · exact key
  · intro k i _ hi
    unfold f_X4_bits_L4b
    rw [show (13 : Int32) = nI 13 from rfl, if_neg (by rw [nI_leI (by omega) (by omega)]; omega), and_sh hw (by omega), nI_add, nI_1]
    rfl
  · intro k
    unfold f_X4_bits_L4b
    exact if_pos (by decide)
