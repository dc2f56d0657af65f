/-! ===== 46: lands ===== -/
section LN2
variable {σ : St} {L : Ld} {k : Nat} {B : Nat → Nat} {S : Nat → Bool}
theorem c_l1 (h1 : LdOK L) (h8 : RK σ L) (hB : ∀ i, i < k → B i < 10) (h9 : SF σ L k B S) {n : Nat} (hn : n ≤ 30) (q1 : (1 : Int32) ≤ nI n) (q2 : nI n ≤ (30 : Int32)) (a2 : Int32) : fX8_lands 0 (nI n) a2 1 (mk σ) = some (nI (ct (fun j => gq L k B S 0 (wl L (vl (sg nx a2 j)))) n), mk σ) := by
  have hml := msk_lt h1
  obtain ⟨W, hW, wq, wi⟩ : ∃ W, wl L = W ∧ (∀ x, x &&& nI (msk L) = nI (W x)) ∧ (∀ x, isW L (W x) = true) := ⟨wl L, rfl, wl_eq L, wl_isW L⟩
  rw [hW]
  clear hW
  have hws : ∀ x, W x < 1024 := fun x => Nat.lt_of_le_of_lt (isW_lt (wi x)) hml
  have e1 : qv_gR (mk σ) 7 0 6 = some 33 := by simp only [c_R]
  have e2 : qv_gI (mk σ) 6 33 0 = some (nI (msk L)) := by simp only [c_I]; rw [h8.1]
  have e3 : qv_ob (mk σ) 6 33 = some () := by simp only [c_O]
  unfold fX8_lands
  simp only [q1, q2, hne, if_false, if_true, nx_f, vl_f]
  generalize vl = V
  generalize nx = N
  refine lp_b (fun j => (sg N a2 j, nI (ct (fun j => gq L k B S 0 (W (V (sg N a2 j)))) j), nI j)) n (r := nI (ct (fun j => gq L k B S 0 (W (V (sg N a2 j)))) n)) rfl ?_ ?_ rfl
  · intro j hj
    have hw := hws (V (sg N a2 j))
    have ec : fX7_isGood 33 (nI (W (V (sg N a2 j)))) (mk σ) = some (b2i (gq L k B S 0 (W (V (sg N a2 j))))) := by
      rw [c_good h1 h8 hB h9.2.1 h9.2.2.1, isWx_n (show W (V (sg N a2 j)) < 2 ^ 31 by omega), nI_clamp (show W (V (sg N a2 j)) < 2 ^ 31 by omega), wi]
      rfl
    dsimp only
    rw [if_neg (nI_ge hj (by omega)), show nI j + 1 = nI (j + 1) from nI_1 j, e1, o_b, e2, o_b, o_b, e3, o_b, wq, ec, o_b]
    show _ = some (Sum.inl (N (sg N a2 j), nI ((ct (fun j => gq L k B S 0 (W (V (sg N a2 j)))) j) + (gq L k B S 0 (W (V (sg N a2 j)))).toNat), nI (j + 1)))
    cases gq L k B S 0 (W (V (sg N a2 j)))
    · rfl
    · rw [if_neg (by decide), o_b, show nI (ct (fun j => gq L k B S 0 (W (V (sg N a2 j)))) j) + 1 = nI ((ct (fun j => gq L k B S 0 (W (V (sg N a2 j)))) j) + true.toNat) from nI_1 _]
  · dsimp only
    rw [if_pos (nI_le (Nat.le_refl _) (by omega))]
theorem m_l0 (hz : σ.2.2 = true) (h1 : LdOK L) (h4 : LM σ L) (h7 : FM σ k B S) {n : Nat} (hn : n ≤ 30) (q1 : (1 : Int32) ≤ nI n) (q2 : nI n ≤ (30 : Int32)) (a2 : Int32) : fX9_lands 45 (nI n) a2 0 (mk σ) = some (nI (ct (fun j => fq L (wl L (vl (sg nx a2 j)))) n), mk σ) := by
  have hml := msk_lt h1
  have hsc := h1.2.2.2.1
  obtain ⟨W, hW, wq, wi⟩ : ∃ W, wl L = W ∧ (∀ x, x &&& nI (msk L) = nI (W x)) ∧ (∀ x, isW L (W x) = true) := ⟨wl L, rfl, wl_eq L, wl_isW L⟩
  rw [hW]
  clear hW
  have hws : ∀ x, W x < 1024 := fun x => Nat.lt_of_le_of_lt (isW_lt (wi x)) hml
  have mo : qv_ob (mk σ) 8 45 = some () := m_O hz
  have mf := m_allF hz h4 h1
  have ms := m_allS hz h4 h1
  have eb : fX9_isIn 0 0 1 = some 1 := (n_in _ _ _).trans (by decide)
  unfold fX9_lands
  simp only [n_bound, q1, q2, if_true, o_b, eb, hne, if_false, nx_f, vl_f]
  generalize vl = V
  generalize nx = N
  refine lp_b (fun j => (sg N a2 j, nI (ct (fun j => fq L (W (V (sg N a2 j)))) j), nI j)) n (r := nI (ct (fun j => fq L (W (V (sg N a2 j)))) n)) rfl ?_ ?_ rfl
  · intro j hj
    have hw := hws (V (sg N a2 j))
    have ec : fX9_wrongs 45 (nI (W (V (sg N a2 j)))) (mk σ) = some (nI (wr L (W (V (sg N a2 j))))) := m_wr hz h4 h1 (by omega)
    have ef : fq L (W (V (sg N a2 j))) = decide (wr L (W (V (sg N a2 j))) = 0) := by
      unfold fq
      rw [wi]
      rfl
    have hwl := wr_le L (W (V (sg N a2 j)))
    dsimp only
    rw [if_neg (nI_ge hj (by omega)), show nI j + 1 = nI (j + 1) from nI_1 j, mo, o_b, mf, o_b, o_b, ms, o_b, o_b, msk_or L h1, wq, ec, o_b]
    show _ = some (Sum.inl (N (sg N a2 j), nI ((ct (fun j => fq L (W (V (sg N a2 j)))) j) + (fq L (W (V (sg N a2 j)))).toNat), nI (j + 1)))
    rw [show nI ((ct (fun j => fq L (W (V (sg N a2 j)))) j) + (fq L (W (V (sg N a2 j)))).toNat) = nI (ct (fun j => fq L (W (V (sg N a2 j)))) j) + nI (fq L (W (V (sg N a2 j)))).toNat from (nI_add _ _).symm]
    by_cases q : wr L (W (V (sg N a2 j))) = 0
    · rw [if_pos (show nI (wr L (W (V (sg N a2 j)))) = 0 by rw [q]; rfl), ef, decide_eq_true q]; rfl
    · rw [if_neg (show ¬ nI (wr L (W (V (sg N a2 j)))) = 0 from nI_ne0 (by omega) (by omega)), ef, decide_eq_false q]; rfl
  · dsimp only
    rw [if_pos (nI_le (Nat.le_refl _) (by omega))]
theorem m_l1 (hz : σ.2.2 = true) (h1 : LdOK L) (h4 : LM σ L) (h7 : FM σ k B S) {n : Nat} (hn : n ≤ 30) (q1 : (1 : Int32) ≤ nI n) (q2 : nI n ≤ (30 : Int32)) (a2 : Int32) : fX9_lands 45 (nI n) a2 1 (mk σ) = some (nI (ct (fun j => gq L k B S 0 (wl L (vl (sg nx a2 j)))) n), mk σ) := by
  have hml := msk_lt h1
  have hsc := h1.2.2.2.1
  obtain ⟨W, hW, wq, wi⟩ : ∃ W, wl L = W ∧ (∀ x, x &&& nI (msk L) = nI (W x)) ∧ (∀ x, isW L (W x) = true) := ⟨wl L, rfl, wl_eq L, wl_isW L⟩
  rw [hW]
  clear hW
  have hws : ∀ x, W x < 1024 := fun x => Nat.lt_of_le_of_lt (isW_lt (wi x)) hml
  have mo : qv_ob (mk σ) 8 45 = some () := m_O hz
  have mf := m_allF hz h4 h1
  have ms := m_allS hz h4 h1
  have eb : fX9_isIn 1 0 1 = some 1 := (n_in _ _ _).trans (by decide)
  unfold fX9_lands
  simp only [n_bound, q1, q2, if_true, o_b, eb, hne, if_false, nx_f, vl_f]
  generalize vl = V
  generalize nx = N
  refine lp_b (fun j => (sg N a2 j, nI (ct (fun j => gq L k B S 0 (W (V (sg N a2 j)))) j), nI j)) n (r := nI (ct (fun j => gq L k B S 0 (W (V (sg N a2 j)))) n)) rfl ?_ ?_ rfl
  · intro j hj
    have hw := hws (V (sg N a2 j))
    have ec : fX9_wrongs 45 (nI (W (V (sg N a2 j)))) (mk σ) = some (nI (wr L (W (V (sg N a2 j))))) := m_wr hz h4 h1 (by omega)
    have eg : fX9_isGood 45 (nI (W (V (sg N a2 j)))) (mk σ) = some (b2i (gq L k B S 0 (W (V (sg N a2 j))))) := m_good hz h4 h1 h7 hw
    have ef : wr L (W (V (sg N a2 j))) ≠ 0 → gq L k B S 0 (W (V (sg N a2 j))) = false := fun q => by
      rw [gq0, decide_eq_false q]
      cases isW L (W (V (sg N a2 j))) <;> rfl
    have hwl := wr_le L (W (V (sg N a2 j)))
    dsimp only
    rw [if_neg (nI_ge hj (by omega)), show nI j + 1 = nI (j + 1) from nI_1 j, mo, o_b, mf, o_b, o_b, ms, o_b, o_b, msk_or L h1, wq, ec, o_b, o_b, eg, o_b]
    show _ = some (Sum.inl (N (sg N a2 j), nI ((ct (fun j => gq L k B S 0 (W (V (sg N a2 j)))) j) + (gq L k B S 0 (W (V (sg N a2 j)))).toNat), nI (j + 1)))
    rw [show nI ((ct (fun j => gq L k B S 0 (W (V (sg N a2 j)))) j) + (gq L k B S 0 (W (V (sg N a2 j)))).toNat) = nI (ct (fun j => gq L k B S 0 (W (V (sg N a2 j)))) j) + nI (gq L k B S 0 (W (V (sg N a2 j)))).toNat from (nI_add _ _).symm]
    by_cases q : wr L (W (V (sg N a2 j))) = 0
    · rw [if_pos (show nI (wr L (W (V (sg N a2 j)))) = 0 by rw [q]; rfl)]
      cases gq L k B S 0 (W (V (sg N a2 j))) <;> rfl
    · rw [if_neg (show ¬ nI (wr L (W (V (sg N a2 j)))) = 0 from nI_ne0 (by omega) (by omega)), ef q]; rfl
  · dsimp only
    rw [if_pos (nI_le (Nat.le_refl _) (by omega))]
end LN2
