/-! ===== 50: numbers of bits ===== -/
def pc (q : Nat) : Nat := ct (fun i => q.testBit i) 31
theorem pc_le (q : Nat) : pc q ≤ 31 := ct_le _ 31
set_option maxRecDepth 100000 in
theorem pc_64 : ∀ a, a < 64 → ∀ b, b < 64 → fJ6_bitCount_0f7a4 (nI (64 * a + b)) = some (nI (pc (64 * a + b))) := by decide +kernel
theorem pc_c {q : Nat} (h : q < 4096) : fJ6_bitCount_0f7a4 (nI q) = some (nI (pc q)) := by
  have := pc_64 (q / 64) (by omega) (q % 64) (by omega)
  rw [show 64 * (q / 64) + q % 64 = q by omega] at this
  exact this
theorem m_bits {q : Nat} (h : q < 2 ^ 31) : fX9_bits (nI q) = some (nI (pc q)) := by
  unfold fX9_bits
  refine lp_b (fun j => (nI (ct (fun i => q.testBit i) j), nI j)) 31 (r := nI (pc q)) rfl ?_ ?_ rfl
  · intro j hj
    dsimp only
    rw [if_neg (show ¬ (31 : Int32) ≤ nI j from nI_ge (b := 31) hj (by decide)), show nI j + 1 = nI (j + 1) from nI_1 j, n_bit h (by omega), b2i_nI, nI_add]
    rfl
  · dsimp only
    rw [if_pos (show (31 : Int32) ≤ nI 31 by decide)]
    rfl
