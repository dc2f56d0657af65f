/-! ===== 32: a land as numbers; what signs say; both sides' readers ===== -/
abbrev Ld : Type := (Nat → Nat) × (Nat → Nat → Nat)
def LdA (p r f s : Int32) (a0 a1 a2 a3 a4 a5 a6 : Nat → Int32) (L : Ld) : Prop := p = nI (L.1 0) ∧ r = nI (L.1 1) ∧ f = nI (L.1 2) ∧ s = nI (L.1 3) ∧ (∀ k, k < 8 → a0 k = nI (L.2 0 k)) ∧ (∀ k, k < 8 → a1 k = nI (L.2 1 k)) ∧ (∀ k, k < 6 → a2 k = nI (L.2 2 k)) ∧ (∀ k, k < 6 → a3 k = nI (L.2 3 k)) ∧ (∀ k, k < 6 → a4 k = nI (L.2 4 k)) ∧ (∀ k, k < 6 → a5 k = nI (L.2 5 k)) ∧ (∀ k, k < 6 → a6 k = nI (L.2 6 k))
def InnC (i1 i2 i3 : Int32) (L : Ld) : Prop := (L.1 4 = 0 ∧ i1 = -1 ∧ i2 = -1 ∧ i3 = -1) ∨ (L.1 4 = 1 ∧ i1 = nI (L.1 5) ∧ i2 = nI (L.1 6) ∧ i3 = nI (L.1 7))
def InnM (i1 i2 i3 : Int32) (L : Ld) : Prop := (L.1 4 = 0 ∧ i3 = -9) ∨ (L.1 4 = 1 ∧ i1 = nI (L.1 5) ∧ i2 = nI (L.1 6) ∧ i3 = nI (L.1 7))
abbrev LC (σ : St) (L : Ld) : Prop := LdA (σ.1 3 0) (σ.1 3 1) (σ.1 3 2) (σ.1 3 3) (σ.2.1 4) (σ.2.1 5) (σ.2.1 6) (σ.2.1 7) (σ.2.1 8) (σ.2.1 9) (σ.2.1 10) L
abbrev LM (σ : St) (L : Ld) : Prop := LdA (σ.1 45 8) (σ.1 45 9) (σ.1 45 10) (σ.1 45 11) (σ.2.1 47) (σ.2.1 48) (σ.2.1 49) (σ.2.1 50) (σ.2.1 51) (σ.2.1 52) (σ.2.1 53) L
def LdOK (L : Ld) : Prop := (2 ≤ L.1 0 ∧ L.1 0 ≤ 6) ∧ L.1 1 ≤ 8 ∧ L.1 2 ≤ 4 ∧ L.1 3 ≤ 6 ∧ (∀ k, k < L.1 1 → L.2 0 k < L.1 0 ∧ L.2 1 k < L.1 0 ∧ L.2 0 k ≠ L.2 1 k) ∧ (∀ k, k < L.1 3 → L.2 2 k ≤ 6 ∧ L.2 3 k < L.1 1 ∧ L.2 4 k ≤ 9 ∧ L.2 5 k ≤ 9 ∧ (L.2 2 k < 5 → L.2 4 k < L.1 2) ∧ (2 ≤ L.2 2 k → L.2 2 k < 5 → L.2 5 k < L.1 2) ∧ (L.2 2 k = 5 → L.2 4 k ≤ k)) ∧ (∀ p, p < 6 → L.2 6 p < 2 ^ L.1 2) ∧ (∀ p, p < 6 → L.1 0 ≤ p → L.2 6 p = 0) ∧ (L.1 4 = 0 ∨ (L.1 4 = 1 ∧ L.1 5 < L.1 0 ∧ L.1 6 < L.1 0 ∧ L.1 5 ≠ L.1 6 ∧ L.1 7 < L.1 2))
/-- what a sign says -/
def say (L : Ld) (s w : Nat) : Bool := if L.2 2 s = 0 then w.testBit (L.2 4 s) else if L.2 2 s = 1 then !w.testBit (L.2 4 s) else if L.2 2 s = 2 then (w.testBit (L.2 4 s) && w.testBit (L.2 5 s)) else if L.2 2 s = 3 then (w.testBit (L.2 4 s) || w.testBit (L.2 5 s)) else if L.2 2 s = 4 then (w.testBit (L.2 4 s) != w.testBit (L.2 5 s)) else if L.2 2 s = 5 then w.testBit (4 + L.2 4 s) else false
/-- a sign that does not fit -/
def mis (L : Ld) (w s : Nat) : Bool := decide (L.2 2 s ≠ 6) && (w.testBit (4 + s) != say L s w)
/-- how many do not fit -/
def wr (L : Ld) (w : Nat) : Nat := ct (mis L w) (L.1 3)
theorem wr_le (L : Ld) (w : Nat) : wr L w ≤ L.1 3 := ct_le _ _
/-- in a range, as both sides ask it -/
def inr_ (x v : Int32) : Bool := decide (¬ x < 0 ∧ ¬ v ≤ x)
theorem inr_n {j n : Nat} (hj : j < 2 ^ 31) (hn : n < 2 ^ 31) : inr_ (nI j) (nI n) = decide (j < n) := by
  unfold inr_
  congr 1
  rw [nI_leI hn hj]
  have := nI_pos hj
  simp [this]
theorem inr_neg {x v : Int32} (h : x < 0) : inr_ x v = false := by simp [inr_, h]
theorem inr_of {x : Int32} {n : Nat} (hn : n < 2 ^ 31) (h : inr_ x (nI n) = true) : ∃ j, j < n ∧ x = nI j := by
  rcases n_cases x with h1 | ⟨j, hj, rfl⟩
  · rw [inr_neg h1] at h; cases h
  · rw [inr_n hj hn] at h
    exact ⟨j, by simpa using h, rfl⟩
theorem hb {x v : Int32} : (Option.bind (α := Int32) (if x < 0 then some (0 : Int32) else if v ≤ x then some (0 : Int32) else some (1 : Int32)) fun m => (qv_b1 m).bind fun _ => some m) = some (b2i (inr_ x v)) := by
  unfold inr_
  by_cases h1 : x < 0
  · simp [h1]; rfl
  · by_cases h2 : v ≤ x
    · simp [h1, h2]; rfl
    · simp [h1, h2]; rfl
section RD
variable {σ : St}
theorem c_place (x : Int32) : fX3_hasPlace 3 x (mk σ) = some (b2i (inr_ x (σ.1 3 0))) := by
  unfold fX3_hasPlace; simp only [c_I, o_b]; exact hb
theorem c_road (x : Int32) : fX3_hasRoad 3 x (mk σ) = some (b2i (inr_ x (σ.1 3 1))) := by
  unfold fX3_hasRoad; simp only [c_I, o_b]; exact hb
theorem c_fact (x : Int32) : fX3_hasFact 3 x (mk σ) = some (b2i (inr_ x (σ.1 3 2))) := by
  unfold fX3_hasFact; simp only [c_I, o_b]; exact hb
theorem c_sign (x : Int32) : fX3_hasSign 3 x (mk σ) = some (b2i (inr_ x (σ.1 3 3))) := by
  unfold fX3_hasSign; simp only [c_I, o_b]; exact hb
theorem d_place (x : Int32) : fX3_hasPlace 11 x (mk σ) = some (b2i (inr_ x (σ.1 11 0))) := by
  unfold fX3_hasPlace; simp only [c_I, o_b]; exact hb
theorem d_road (x : Int32) : fX3_hasRoad 11 x (mk σ) = some (b2i (inr_ x (σ.1 11 1))) := by
  unfold fX3_hasRoad; simp only [c_I, o_b]; exact hb
theorem d_fact (x : Int32) : fX3_hasFact 11 x (mk σ) = some (b2i (inr_ x (σ.1 11 2))) := by
  unfold fX3_hasFact; simp only [c_I, o_b]; exact hb
theorem m_place (hz : σ.2.2 = true) (x : Int32) : fX9_isPlace 45 x (mk σ) = some (b2i (inr_ x (σ.1 45 8))) := by
  unfold fX9_isPlace; simp only [m_I hz, o_b]; exact hb
theorem m_fact (hz : σ.2.2 = true) (x : Int32) : fX9_isFact 45 x (mk σ) = some (b2i (inr_ x (σ.1 45 10))) := by
  unfold fX9_isFact; simp only [m_I hz, o_b]; exact hb
theorem m_sign (hz : σ.2.2 = true) (x : Int32) : fX9_isSign 45 x (mk σ) = some (b2i (inr_ x (σ.1 45 11))) := by
  unfold fX9_isSign; simp only [m_I hz, o_b]; exact hb
theorem kd_cases {k : Nat} (h : k ≤ 6) : k = 0 ∨ k = 1 ∨ k = 2 ∨ k = 3 ∨ k = 4 ∨ k = 5 ∨ k = 6 := by omega
theorem c_says {L : Ld} (hL : LC σ L) (ok : LdOK L) {s w : Nat} (hs : s < L.1 3) (hw : w < 2 ^ 31) : fX3_isSaidSo 3 (nI s) (nI w) (mk σ) = some (b2i (say L s w)) := by
  obtain ⟨l0, l1, l2, l3, l4, l5, l6, l7, l8, l9, l10⟩ := hL
  obtain ⟨o1, o2, o3, o4, o5, o6, o7, o8, o9⟩ := ok
  obtain ⟨k1, k2, k3, k4, k5, k6, k7⟩ := o6 s hs
  have hs6 : s < 6 := by omega
  have e1 : inr_ (nI s) (nI (L.1 3)) = true := by rw [inr_n (by omega) (by omega)]; simpa using hs
  unfold fX3_isSaidSo
  simp only [c_O, c_R, c_A, hs6, c_sign, l3, e1, o_b, l6 s hs6, l8 s hs6, l9 s hs6, n_has hw (show L.2 4 s < 32 by omega), n_has hw (show L.2 5 s < 32 by omega), b2i_t]
  rw [if_neg (by decide)]
  have e2 : (4 : Int32) + nI (L.2 4 s) = nI (4 + L.2 4 s) := nI_add 4 _
  rw [e2, n_has hw (show 4 + L.2 4 s < 32 by omega)]
  unfold say
  rcases kd_cases k1 with q | q | q | q | q | q | q <;> rw [q] <;> cases w.testBit (L.2 4 s) <;> cases w.testBit (L.2 5 s) <;> cases w.testBit (4 + L.2 4 s) <;> rfl
theorem n_15 : ∀ a, a ≤ 9 → nI a &&& (15 : Int32) = nI a := by decide +kernel
theorem m_says (hz : σ.2.2 = true) {L : Ld} (hL : LM σ L) (ok : LdOK L) {s w : Nat} (hs : s < L.1 3) (hw : w < 2 ^ 31) : fX9_saysIn 45 (nI s) (nI w) (mk σ) = some (b2i (say L s w)) := by
  obtain ⟨l0, l1, l2, l3, l4, l5, l6, l7, l8, l9, l10⟩ := hL
  obtain ⟨o1, o2, o3, o4, o5, o6, o7, o8, o9⟩ := ok
  obtain ⟨k1, k2, k3, k4, k5, k6, k7⟩ := o6 s hs
  have hs6 : s < 6 := by omega
  have e2 : (4 : Int32) + nI (L.2 4 s) = nI (4 + L.2 4 s) := nI_add 4 _
  unfold fX9_saysIn
  simp only [m_R hz, m_A hz, hs6, o_b, l6 s hs6, l8 s hs6, l9 s hs6, n_15 _ k3, n_15 _ k4, n_bit hw (show L.2 4 s < 32 by omega), n_bit hw (show L.2 5 s < 32 by omega), e2, n_bit hw (show 4 + L.2 4 s < 32 by omega)]
  unfold say
  rcases kd_cases k1 with q | q | q | q | q | q | q <;> rw [q] <;> cases w.testBit (L.2 4 s) <;> cases w.testBit (L.2 5 s) <;> cases w.testBit (4 + L.2 4 s) <;> rfl
theorem c_mis {L : Ld} (hL : LC σ L) (ok : LdOK L) {s w : Nat} (hs : s < L.1 3) (hw : w < 2 ^ 31) : fX3_isMisfit 3 (nI s) (nI w) (mk σ) = some (b2i (mis L w s)) := by
  have hsay := c_says hL ok hs hw
  obtain ⟨l0, l1, l2, l3, l4, l5, l6, l7, l8, l9, l10⟩ := hL
  obtain ⟨o1, o2, o3, o4, o5, o6, o7, o8, o9⟩ := ok
  obtain ⟨k1, k2, k3, k4, k5, k6, k7⟩ := o6 s hs
  have hs6 : s < 6 := by omega
  have e2 : (4 : Int32) + nI s = nI (4 + s) := nI_add 4 _
  unfold fX3_isMisfit
  simp only [c_O, c_R, c_A, hs6, o_b, l6 s hs6, hsay, e2, n_has hw (show 4 + s < 32 by omega)]
  unfold mis
  by_cases q : L.2 2 s = 6
  · rw [q, if_pos (by decide)]
    simp
    rfl
  · have hq : ¬ nI (L.2 2 s) = (6 : Int32) := fun z => q ((nI_eq (by omega) (by decide)).mp z)
    rw [if_neg hq]
    simp only [q, ne_eq, not_false_eq_true, decide_true, Bool.true_and]
    cases w.testBit (4 + s) <;> cases say L s w <;> rfl
theorem m_right (hz : σ.2.2 = true) {L : Ld} (hL : LM σ L) (ok : LdOK L) {s w : Nat} (hs : s < L.1 3) (hw : w < 2 ^ 31) : fX9_isRight 45 (nI s) (nI w) (mk σ) = some (b2i (!mis L w s)) := by
  have hsay := m_says hz hL ok hs hw
  obtain ⟨l0, l1, l2, l3, l4, l5, l6, l7, l8, l9, l10⟩ := hL
  obtain ⟨o1, o2, o3, o4, o5, o6, o7, o8, o9⟩ := ok
  obtain ⟨k1, k2, k3, k4, k5, k6, k7⟩ := o6 s hs
  have hs6 : s < 6 := by omega
  have e2 : (4 : Int32) + nI s = nI (4 + s) := nI_add 4 _
  unfold fX9_isRight
  simp only [m_O hz, m_R hz, m_A hz, hs6, o_b, l6 s hs6, hsay, e2, n_bit hw (show 4 + s < 32 by omega)]
  unfold mis
  by_cases q : L.2 2 s = 6
  · rw [q, if_pos (by decide)]
    simp
    rfl
  · have hq : ¬ nI (L.2 2 s) = (6 : Int32) := fun z => q ((nI_eq (by omega) (by decide)).mp z)
    rw [if_neg hq]
    simp only [q, ne_eq, not_false_eq_true, decide_true, Bool.true_and]
    cases w.testBit (4 + s) <;> cases say L s w <;> rfl
theorem c_wr {L : Ld} (hL : LC σ L) (ok : LdOK L) {w : Nat} (hw : w < 2 ^ 31) : fX3_misfitsIn 3 (nI w) (mk σ) = some (nI (wr L w)) := by
  have h3 : σ.1 3 3 = nI (L.1 3) := hL.2.2.2.1
  have hsc : L.1 3 ≤ 6 := ok.2.2.2.1
  unfold fX3_misfitsIn
  refine lp_b (fun j => (nI (ct (mis L w) j), nI j)) (L.1 3) (r := nI (wr L w)) rfl ?_ ?_ rfl
  · intro j hj
    dsimp only
    simp only [c_I, h3, o_b, c_O, c_mis hL ok hj hw]
    rw [if_neg (nI_ge hj (by omega)), o_ite]
    show some (Sum.inl (_, nI j + 1)) = some (Sum.inl (nI (ct (mis L w) j + (mis L w j).toNat), nI (j + 1)))
    rw [show nI j + 1 = nI (j + 1) from nI_1 j]
    cases mis L w j
    · rfl
    · show some (Sum.inl (nI (ct (mis L w) j) + 1, _)) = _
      rw [nI_1]
      rfl
  · dsimp only
    simp only [c_I, h3, o_b]
    rw [if_pos (nI_le (Nat.le_refl _) (by omega))]
    rfl
theorem m_wr (hz : σ.2.2 = true) {L : Ld} (hL : LM σ L) (ok : LdOK L) {w : Nat} (hw : w < 2 ^ 31) : fX9_wrongs 45 (nI w) (mk σ) = some (nI (wr L w)) := by
  have h3 : σ.1 45 11 = nI (L.1 3) := hL.2.2.2.1
  have hsc : L.1 3 ≤ 6 := ok.2.2.2.1
  unfold fX9_wrongs
  refine lp_b (fun j => (nI (ct (mis L w) j), nI j)) (L.1 3) (r := nI (wr L w)) rfl ?_ ?_ rfl
  · intro j hj
    dsimp only
    simp only [m_I hz, h3, o_b, m_O hz, m_right hz hL ok hj hw]
    rw [if_neg (nI_ge hj (by omega)), o_ite]
    show some (Sum.inl (_, nI j + 1)) = some (Sum.inl (nI (ct (mis L w) j + (mis L w j).toNat), nI (j + 1)))
    rw [show nI j + 1 = nI (j + 1) from nI_1 j]
    cases mis L w j
    · show some (Sum.inl (nI (ct (mis L w) j) + nI 0, _)) = _
      rw [nI_add]
      rfl
    · show some (Sum.inl (nI (ct (mis L w) j) + nI 1, _)) = _
      rw [nI_add]
      rfl
  · dsimp only
    simp only [m_I hz, h3, o_b]
    rw [if_pos (nI_le (Nat.le_refl _) (by omega))]
    rfl
end RD
