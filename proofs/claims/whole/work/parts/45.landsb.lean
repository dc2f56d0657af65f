/-! ===== 45: obligation: lands ===== -/
section LN
variable {σ : St} {L : Ld} {k : Nat} {B : Nat → Nat} {S : Nat → Bool}
theorem c_l0 (h1 : LdOK L) (h8 : RK σ L) (hB : ∀ i, i < k → B i < 10) (h9 : SF σ L k B S) {n : Nat} (hn : n ≤ 30) (q1 : (1 : Int32) ≤ nI n) (q2 : nI n ≤ (30 : Int32)) (a2 : Int32) : fX8_lands 0 (nI n) a2 0 (mk σ) = some (nI (ct (fun j => fq L (wl L (vl (sg nx a2 j)))) n), mk σ) := by
  have hml := msk_lt h1
  obtain ⟨W, hW, wq, wi⟩ : ∃ W, wl L = W ∧ (∀ x, x &&& nI (msk L) = nI (W x)) ∧ (∀ x, isW L (W x) = true) := ⟨wl L, rfl, wl_eq L, wl_isW L⟩
  rw [hW]
  clear hW
  have hws : ∀ x, W x < 1024 := fun x => Nat.lt_of_le_of_lt (isW_lt (wi x)) hml
  have e1 : qv_gR (mk σ) 7 0 6 = some 33 := by simp only [c_R]
  have e2 : qv_gI (mk σ) 6 33 0 = some (nI (msk L)) := by simp only [c_I]; rw [h8.1]
  have e3 : qv_ob (mk σ) 6 33 = some () := by simp only [c_O]
  unfold fX8_lands
  simp only [q1, q2, if_true, nx_f, vl_f]
  generalize vl = V
  generalize nx = N
  refine lp_b (fun j => (sg N a2 j, nI (ct (fun j => fq L (W (V (sg N a2 j)))) j), nI j)) n (r := nI (ct (fun j => fq L (W (V (sg N a2 j)))) n)) rfl ?_ ?_ rfl
  · intro j hj
    have hw := hws (V (sg N a2 j))
    have ec : fX7_isFitting 33 (nI (W (V (sg N a2 j)))) (mk σ) = some (b2i (fq L (W (V (sg N a2 j))))) := by
      rw [c_fit h1 h8, isWx_n (show W (V (sg N a2 j)) < 2 ^ 31 by omega), nI_clamp (show W (V (sg N a2 j)) < 2 ^ 31 by omega)]
      rfl
    dsimp only
    rw [if_neg (nI_ge hj (by omega)), show nI j + 1 = nI (j + 1) from nI_1 j, e1, o_b, e2, o_b, o_b, e3, o_b, wq, ec, o_b]
    show _ = some (Sum.inl (N (sg N a2 j), nI ((ct (fun j => fq L (W (V (sg N a2 j)))) j) + (fq L (W (V (sg N a2 j)))).toNat), nI (j + 1)))
    cases fq L (W (V (sg N a2 j)))
    · rfl
    · rw [if_neg (by decide), o_b, show nI (ct (fun j => fq L (W (V (sg N a2 j)))) j) + 1 = nI ((ct (fun j => fq L (W (V (sg N a2 j)))) j) + true.toNat) from nI_1 _]
  · dsimp only
    rw [if_pos (nI_le (Nat.le_refl _) (by omega))]
end LN
