/-! ===== 60: land: the reference reads the text ===== -/
def pst (σ : St) (a s : Int32) (A : Nat → Nat → Int32) : St := (fun o k => if o = 45 then (if k = 26 then a else if k = 27 then s else σ.1 o k) else σ.1 o k, fun o => if 57 ≤ o ∧ o ≤ 62 then A o else σ.2.1 o, σ.2.2)
def uB (A : Nat → Nat → Int32) (o k : Nat) (v : Int32) : Nat → Nat → Int32 := fun p => if p = o then upd (A p) k v else A p
theorem uB_s (A : Nat → Nat → Int32) (o k : Nat) (v : Int32) : uB A o k v o k = v := by
  unfold uB
  rw [if_pos rfl]
  exact pk_us
theorem uB_i {A : Nat → Nat → Int32} {o k p i : Nat} {v : Int32} (h : i ≠ k) : uB A o k v p i = A p i := by
  unfold uB
  by_cases hp : p = o
  · rw [if_pos hp]
    exact pk_un h
  · rw [if_neg hp]
theorem uB_o {A : Nat → Nat → Int32} {o k p : Nat} {v : Int32} (h : p ≠ o) : uB A o k v p = A p := by
  unfold uB
  rw [if_neg h]
section PS
variable {σ : St} {a s : Int32} {A : Nat → Nat → Int32}
theorem pst_26 (a' : Int32) : fS (pst σ a s A) 45 26 a' = pst σ a' s A := by
  have e1 : (fS (pst σ a s A) 45 26 a').1 = (pst σ a' s A).1 := by
    funext o k
    rw [fS_f]
    unfold pst
    by_cases h1 : o = 45
    · simp only [h1, if_true]
      by_cases h2 : k = 26
      · simp only [h2, if_true]
      · simp only [h2, if_false]
    · simp only [h1, if_false]
  exact Prod.ext e1 rfl
theorem pst_27 (s' : Int32) : fS (pst σ a s A) 45 27 s' = pst σ a s' A := by
  have e1 : (fS (pst σ a s A) 45 27 s').1 = (pst σ a s' A).1 := by
    funext o k
    rw [fS_f]
    unfold pst
    by_cases h1 : o = 45
    · simp only [h1, if_true]
      by_cases h2 : k = 27
      · simp only [h2, if_true]; rfl
      · simp only [h2, if_false]
    · simp only [h1, if_false]
  exact Prod.ext e1 rfl
theorem pst_A {o k : Nat} (h1 : 57 ≤ o) (h2 : o ≤ 62) (v : Int32) : aS (pst σ a s A) o k v = pst σ a s (uB A o k v) := by
  have e2 : (aS (pst σ a s A) o k v).2.1 = (pst σ a s (uB A o k v)).2.1 := by
    funext p i
    rw [aS_a]
    unfold pst uB upd
    dsimp only
    by_cases h3 : p = o
    · subst h3
      rw [if_pos rfl, if_pos (show 57 ≤ p ∧ p ≤ 62 from ⟨h1, h2⟩), if_pos (show 57 ≤ p ∧ p ≤ 62 from ⟨h1, h2⟩), if_pos rfl]
    · rw [if_neg h3, if_neg h3]
  exact Prod.ext rfl (Prod.ext e2 rfl)
variable (hz : σ.2.2 = true)
theorem pz_z (hz : σ.2.2 = true) (a s : Int32) (A : Nat → Nat → Int32) : (pst σ a s A).2.2 = true := hz
theorem pz_O (hz : σ.2.2 = true) : qv_ob (mk (pst σ a s A)) 8 45 = some () := m_O (pz_z hz a s A)
theorem pz_R (hz : σ.2.2 = true) : qv_gR (mk (pst σ a s A)) 8 45 18 = some 56 ∧ qv_gR (mk (pst σ a s A)) 8 45 19 = some 57 ∧ qv_gR (mk (pst σ a s A)) 8 45 20 = some 58 ∧ qv_gR (mk (pst σ a s A)) 8 45 21 = some 59 ∧ qv_gR (mk (pst σ a s A)) 8 45 22 = some 60 ∧ qv_gR (mk (pst σ a s A)) 8 45 23 = some 61 ∧ qv_gR (mk (pst σ a s A)) 8 45 24 = some 62 := by simp only [m_R (pz_z hz a s A), and_self]
theorem pz_I (hz : σ.2.2 = true) : qv_gI (mk (pst σ a s A)) 8 45 26 = some a ∧ qv_gI (mk (pst σ a s A)) 8 45 27 = some s ∧ qv_gI (mk (pst σ a s A)) 8 45 25 = some (σ.1 45 25) := by
  simp only [m_I (pz_z hz a s A)]
  exact ⟨rfl, rfl, rfl⟩
theorem pz_P (hz : σ.2.2 = true) (v : Int32) : qv_pI (mk (pst σ a s A)) 8 45 26 v = some (mk (pst σ v s A)) ∧ qv_pI (mk (pst σ a s A)) 8 45 27 v = some (mk (pst σ a v A)) := by
  simp only [m_P (pz_z hz a s A), pst_26, pst_27, and_self]
theorem pz_S (hz : σ.2.2 = true) {k : Nat} (hk : k < 41) (v : Int32) : qv_sI (mk (pst σ a s A)) false 57 (nI k) v = some (mk (pst σ a s (uB A 57 k v))) ∧ qv_sI (mk (pst σ a s A)) false 58 (nI k) v = some (mk (pst σ a s (uB A 58 k v))) ∧ qv_sI (mk (pst σ a s A)) false 59 (nI k) v = some (mk (pst σ a s (uB A 59 k v))) ∧ qv_sI (mk (pst σ a s A)) false 60 (nI k) v = some (mk (pst σ a s (uB A 60 k v))) ∧ qv_sI (mk (pst σ a s A)) false 61 (nI k) v = some (mk (pst σ a s (uB A 61 k v))) ∧ qv_sI (mk (pst σ a s A)) false 62 (nI k) v = some (mk (pst σ a s (uB A 62 k v))) := by
  simp only [m_S (pz_z hz a s A), hk, pst_A (σ := σ) (a := a) (s := s) (A := A) (k := k) (show 57 ≤ 57 by decide) (show 57 ≤ 62 by decide), pst_A (σ := σ) (a := a) (s := s) (A := A) (k := k) (show 57 ≤ 58 by decide) (show 58 ≤ 62 by decide), pst_A (σ := σ) (a := a) (s := s) (A := A) (k := k) (show 57 ≤ 59 by decide) (show 59 ≤ 62 by decide), pst_A (σ := σ) (a := a) (s := s) (A := A) (k := k) (show 57 ≤ 60 by decide) (show 60 ≤ 62 by decide), pst_A (σ := σ) (a := a) (s := s) (A := A) (k := k) (show 57 ≤ 61 by decide) (show 61 ≤ 62 by decide), pst_A (σ := σ) (a := a) (s := s) (A := A) (k := k) (show 57 ≤ 62 by decide) (show 62 ≤ 62 by decide), and_self]
theorem pz_A (hz : σ.2.2 = true) {k : Nat} (hk : k < 41) (v : Int32) : qv_aI (mk (pst σ a s (uB A 59 k v))) false 59 (nI k) = some v ∧ qv_aI (mk (pst σ a s (uB A 60 k v))) false 60 (nI k) = some v ∧ qv_aI (mk (pst σ a s (uB A 61 k v))) false 61 (nI k) = some v ∧ qv_aI (mk (pst σ a s (uB A 62 k v))) false 62 (nI k) = some v := by
  simp only [m_A (pz_z hz a s (uB A 59 k v)), m_A (pz_z hz a s (uB A 60 k v)), m_A (pz_z hz a s (uB A 61 k v)), m_A (pz_z hz a s (uB A 62 k v)), hk]
  exact ⟨congrArg some (uB_s A 59 k v), congrArg some (uB_s A 60 k v), congrArg some (uB_s A 61 k v), congrArg some (uB_s A 62 k v)⟩
end PS
section PS
variable {σ : St} {s : Int32} {A : Nat → Nat → Int32} {c : Nat → Nat} {t : Nat}
theorem p_next (hz : σ.2.2 = true) (hT : TxB (σ.1 45 25) (σ.2.1 56) c t) {a : Nat} (ha : a ≤ 1000) : fX9_nextLetter 45 (mk (pst σ (nI a) s A)) = some (if a < t then nI (c a) else -1) := by
  obtain ⟨h1, h2, h3, h4, h5⟩ := hT
  unfold fX9_nextLetter
  simp only [pz_I hz, pz_R hz, o_b, h1]
  by_cases h : a < t
  · have ha80 : a < 80 := by omega
    have e : (pst σ (nI a) s A).2.1 56 a = nI (c a) := h3 a h
    rw [if_neg (nI_ge h (by omega)), if_pos h]
    simp only [m_A (pz_z hz (nI a) s A), ha80, o_b, e]
  · rw [if_pos (nI_le (by omega) (by omega)), if_neg h]
    rfl
theorem sut_in : ∀ x, x < 256 → decide (¬ nI x < 48 ∧ ¬ 57 < nI x) = sut 100 x := by decide +kernel
theorem sut_59 : ∀ x, x < 256 → ((nI x = 59) ↔ sut 59 x = true) := by decide +kernel
theorem p_digit (hz : σ.2.2 = true) (hT : TxB (σ.1 45 25) (σ.2.1 56) c t) {a : Nat} (ha : a ≤ 1000) : fX9_digit 45 (mk (pst σ (nI a) s A)) = if sut 100 (c a) = true then some (nI (c a - 48), mk (pst σ (nI (a + 1)) s A)) else some (-1, mk (pst σ (nI a) s A)) := by
  have hn := p_next (s := s) (A := A) hz hT ha
  obtain ⟨h1, h2, h3, h4, h5⟩ := hT
  unfold fX9_digit
  simp only [pz_O hz, o_b, hn, n_in]
  by_cases h : a < t
  · have ha80 : a < 80 := by omega
    rw [if_pos h, sut_in _ (h4 a)]
    cases hs : sut 100 (c a) with
    | false => rw [if_pos b2i_f, if_neg (by decide)]
    | true =>
      have h48 : 48 ≤ c a := by
        unfold sut at hs
        simp at hs
        exact hs.1
      have e : (pst σ (nI (a + 1)) s A).2.1 56 a = nI (c a) := h3 a h
      rw [if_neg (show ¬ b2i true = 0 from hne), if_pos rfl]
      simp only [pz_I hz, o_b, nI_1, pz_P hz, pz_R hz, nI_pred, m_A (pz_z hz (nI (a + 1)) s A), ha80, e]
      rw [show nI (c a) - 48 = nI (c a - 48) from pk_sub (b := 48) h48]
  · rw [if_neg h, h5 a (by omega), if_pos (show b2i (decide (¬ (-1 : Int32) < 48 ∧ ¬ 57 < (-1 : Int32))) = 0 by decide), if_neg (by decide)]
theorem p_semi (hz : σ.2.2 = true) (hT : TxB (σ.1 45 25) (σ.2.1 56) c t) {a : Nat} (ha : a ≤ 1000) : ∃ v, fX9_nextLetter 45 (mk (pst σ (nI a) s A)) = some v ∧ (v = 59 ↔ sut 59 (c a) = true) := by
  refine ⟨_, p_next hz hT ha, ?_⟩
  by_cases h : a < t
  · rw [if_pos h]
    exact sut_59 _ (hT.2.2.2.1 a)
  · rw [if_neg h, hT.2.2.2.2 a (by omega)]
    decide
theorem p_kind (hz : σ.2.2 = true) (hT : TxB (σ.1 45 25) (σ.2.1 56) c t) {a : Nat} (ha : a ≤ 1000) : (fX9_nextLetter 45 (mk (pst σ (nI a) s A))).bind fX9_kindOf = some (if sut 107 (c a) = true then nI (kdx (c a)) else -1) := by
  have e : ∀ x, sut 107 x = decide (kdx x < 7) := fun x => rfl
  rw [p_next hz hT ha]
  show fX9_kindOf _ = _
  by_cases h : a < t
  · rw [if_pos h, (k_kind _ (hT.2.2.2.1 a)).2.1, e]
    by_cases q : kdx (c a) < 7
    · rw [if_pos q, if_pos (decide_eq_true q)]
    · rw [if_neg q, if_neg (fun z => q (of_decide_eq_true z))]
  · rw [if_neg h, hT.2.2.2.2 a (by omega)]
    decide
theorem le_m1 : ¬ (0 : Int32) ≤ -1 := by decide
theorem lt_m1 : (-1 : Int32) < 0 := by decide
variable {k : Nat}
theorem p_le (hT : TxB (σ.1 45 25) (σ.2.1 56) c t) (a : Nat) : (0 : Int32) ≤ nI (c a - 48) ∧ ¬ nI (c a - 48) < 0 := by
  have := hT.2.2.2.1 a
  exact ⟨nI_pos' (by omega), nI_pos (by omega)⟩
theorem p_rd0 (hz : σ.2.2 = true) (hk : k < 41) (a : Int32) : fX9_readsDigits 45 (nI k) 0 (mk (pst σ a s A)) = some (1, mk (pst σ a s (uB (uB (uB A 59 k 0) 60 k 0) 61 k 0))) := by
  unfold fX9_readsDigits
  simp only [pz_R hz, o_b, show (0 : Int32) ≤ 0 by decide, if_true, pz_S hz hk, pz_A hz hk, show (0 : Int32) ≤ 1 by decide, show (0 : Int32) ≤ 2 by decide, show ¬ (0 : Int32) < 0 by decide, if_false]
  rfl
theorem p_rd1t (hz : σ.2.2 = true) (hT : TxB (σ.1 45 25) (σ.2.1 56) c t) (hk : k < 41) {a : Nat} (ha : a + 1 ≤ 1000) (d0 : sut 100 (c (a)) = true) : fX9_readsDigits 45 (nI k) 1 (mk (pst σ (nI a) s A)) = some (1, mk (pst σ (nI (a + 1)) s (uB (uB (uB A 59 k (nI (c (a) - 48))) 60 k 0) 61 k 0))) := by
  unfold fX9_readsDigits
  simp only [pz_R hz, pz_O hz, o_b, pz_S hz hk, pz_A hz hk, le_m1, lt_m1, if_true, if_false, show (0 : Int32) ≤ 0 by decide, show ¬ (0 : Int32) < 0 by decide, show ¬ (1 : Int32) ≤ 0 by decide, show (1 : Int32) ≤ 1 by decide, show (1 : Int32) ≤ 2 by decide, p_digit hz hT (show a ≤ 1000 by omega), d0, p_le hT (a), Bool.false_eq_true]
  rfl
theorem p_rd1f (hz : σ.2.2 = true) (hT : TxB (σ.1 45 25) (σ.2.1 56) c t) (hk : k < 41) {a : Nat} (ha : a + 1 ≤ 1000) (d0 : sut 100 (c (a)) = false) : fX9_readsDigits 45 (nI k) 1 (mk (pst σ (nI a) s A)) = some (0, mk (pst σ (nI (a)) s (uB A 59 k (-1)))) := by
  unfold fX9_readsDigits
  simp only [pz_R hz, pz_O hz, o_b, pz_S hz hk, pz_A hz hk, le_m1, lt_m1, if_true, if_false, show (0 : Int32) ≤ 0 by decide, show ¬ (0 : Int32) < 0 by decide, show ¬ (1 : Int32) ≤ 0 by decide, show (1 : Int32) ≤ 1 by decide, show (1 : Int32) ≤ 2 by decide, p_digit hz hT (show a ≤ 1000 by omega), d0, Bool.false_eq_true]
  try rfl
theorem p_rd2t (hz : σ.2.2 = true) (hT : TxB (σ.1 45 25) (σ.2.1 56) c t) (hk : k < 41) {a : Nat} (ha : a + 2 ≤ 1000) (d0 : sut 100 (c (a)) = true) (d1 : sut 100 (c (a + 1)) = true) : fX9_readsDigits 45 (nI k) 2 (mk (pst σ (nI a) s A)) = some (1, mk (pst σ (nI (a + 1 + 1)) s (uB (uB (uB A 59 k (nI (c (a) - 48))) 60 k (nI (c (a + 1) - 48))) 61 k 0))) := by
  unfold fX9_readsDigits
  simp only [pz_R hz, pz_O hz, o_b, pz_S hz hk, pz_A hz hk, le_m1, lt_m1, if_true, if_false, show (0 : Int32) ≤ 0 by decide, show ¬ (0 : Int32) < 0 by decide, show ¬ (2 : Int32) ≤ 0 by decide, show ¬ (2 : Int32) ≤ 1 by decide, show (2 : Int32) ≤ 2 by decide, p_digit hz hT (show a ≤ 1000 by omega), d0, p_le hT (a), p_digit hz hT (show a + 1 ≤ 1000 by omega), d1, p_le hT (a + 1), Bool.false_eq_true]
  rfl
theorem p_rd2tf (hz : σ.2.2 = true) (hT : TxB (σ.1 45 25) (σ.2.1 56) c t) (hk : k < 41) {a : Nat} (ha : a + 2 ≤ 1000) (d0 : sut 100 (c (a)) = true) (d1 : sut 100 (c (a + 1)) = false) : fX9_readsDigits 45 (nI k) 2 (mk (pst σ (nI a) s A)) = some (0, mk (pst σ (nI (a + 1)) s (uB (uB A 59 k (nI (c (a) - 48))) 60 k (-1)))) := by
  unfold fX9_readsDigits
  simp only [pz_R hz, pz_O hz, o_b, pz_S hz hk, pz_A hz hk, le_m1, lt_m1, if_true, if_false, show (0 : Int32) ≤ 0 by decide, show ¬ (0 : Int32) < 0 by decide, show ¬ (2 : Int32) ≤ 0 by decide, show ¬ (2 : Int32) ≤ 1 by decide, show (2 : Int32) ≤ 2 by decide, p_digit hz hT (show a ≤ 1000 by omega), d0, p_le hT (a), p_digit hz hT (show a + 1 ≤ 1000 by omega), d1, Bool.false_eq_true]
  try rfl
theorem p_rd2f (hz : σ.2.2 = true) (hT : TxB (σ.1 45 25) (σ.2.1 56) c t) (hk : k < 41) {a : Nat} (ha : a + 2 ≤ 1000) (d0 : sut 100 (c (a)) = false) : fX9_readsDigits 45 (nI k) 2 (mk (pst σ (nI a) s A)) = some (0, mk (pst σ (nI (a)) s (uB A 59 k (-1)))) := by
  unfold fX9_readsDigits
  simp only [pz_R hz, pz_O hz, o_b, pz_S hz hk, pz_A hz hk, le_m1, lt_m1, if_true, if_false, show (0 : Int32) ≤ 0 by decide, show ¬ (0 : Int32) < 0 by decide, show ¬ (2 : Int32) ≤ 0 by decide, show ¬ (2 : Int32) ≤ 1 by decide, show (2 : Int32) ≤ 2 by decide, p_digit hz hT (show a ≤ 1000 by omega), d0, Bool.false_eq_true]
  try rfl
theorem p_rd3t (hz : σ.2.2 = true) (hT : TxB (σ.1 45 25) (σ.2.1 56) c t) (hk : k < 41) {a : Nat} (ha : a + 3 ≤ 1000) (d0 : sut 100 (c (a)) = true) (d1 : sut 100 (c (a + 1)) = true) (d2 : sut 100 (c (a + 1 + 1)) = true) : fX9_readsDigits 45 (nI k) 3 (mk (pst σ (nI a) s A)) = some (1, mk (pst σ (nI (a + 1 + 1 + 1)) s (uB (uB (uB A 59 k (nI (c (a) - 48))) 60 k (nI (c (a + 1) - 48))) 61 k (nI (c (a + 1 + 1) - 48))))) := by
  unfold fX9_readsDigits
  simp only [pz_R hz, pz_O hz, o_b, pz_S hz hk, pz_A hz hk, le_m1, lt_m1, if_true, if_false, show (0 : Int32) ≤ 0 by decide, show ¬ (0 : Int32) < 0 by decide, show ¬ (3 : Int32) ≤ 0 by decide, show ¬ (3 : Int32) ≤ 1 by decide, show ¬ (3 : Int32) ≤ 2 by decide, p_digit hz hT (show a ≤ 1000 by omega), d0, p_le hT (a), p_digit hz hT (show a + 1 ≤ 1000 by omega), d1, p_le hT (a + 1), p_digit hz hT (show a + 1 + 1 ≤ 1000 by omega), d2, p_le hT (a + 1 + 1), Bool.false_eq_true]
  rfl
theorem p_rd3ttf (hz : σ.2.2 = true) (hT : TxB (σ.1 45 25) (σ.2.1 56) c t) (hk : k < 41) {a : Nat} (ha : a + 3 ≤ 1000) (d0 : sut 100 (c (a)) = true) (d1 : sut 100 (c (a + 1)) = true) (d2 : sut 100 (c (a + 1 + 1)) = false) : fX9_readsDigits 45 (nI k) 3 (mk (pst σ (nI a) s A)) = some (0, mk (pst σ (nI (a + 1 + 1)) s (uB (uB (uB A 59 k (nI (c (a) - 48))) 60 k (nI (c (a + 1) - 48))) 61 k (-1)))) := by
  unfold fX9_readsDigits
  simp only [pz_R hz, pz_O hz, o_b, pz_S hz hk, pz_A hz hk, le_m1, lt_m1, if_true, if_false, show (0 : Int32) ≤ 0 by decide, show ¬ (0 : Int32) < 0 by decide, show ¬ (3 : Int32) ≤ 0 by decide, show ¬ (3 : Int32) ≤ 1 by decide, show ¬ (3 : Int32) ≤ 2 by decide, p_digit hz hT (show a ≤ 1000 by omega), d0, p_le hT (a), p_digit hz hT (show a + 1 ≤ 1000 by omega), d1, p_le hT (a + 1), p_digit hz hT (show a + 1 + 1 ≤ 1000 by omega), d2, Bool.false_eq_true]
  try rfl
theorem p_rd3tf (hz : σ.2.2 = true) (hT : TxB (σ.1 45 25) (σ.2.1 56) c t) (hk : k < 41) {a : Nat} (ha : a + 3 ≤ 1000) (d0 : sut 100 (c (a)) = true) (d1 : sut 100 (c (a + 1)) = false) : fX9_readsDigits 45 (nI k) 3 (mk (pst σ (nI a) s A)) = some (0, mk (pst σ (nI (a + 1)) s (uB (uB A 59 k (nI (c (a) - 48))) 60 k (-1)))) := by
  unfold fX9_readsDigits
  simp only [pz_R hz, pz_O hz, o_b, pz_S hz hk, pz_A hz hk, le_m1, lt_m1, if_true, if_false, show (0 : Int32) ≤ 0 by decide, show ¬ (0 : Int32) < 0 by decide, show ¬ (3 : Int32) ≤ 0 by decide, show ¬ (3 : Int32) ≤ 1 by decide, show ¬ (3 : Int32) ≤ 2 by decide, p_digit hz hT (show a ≤ 1000 by omega), d0, p_le hT (a), p_digit hz hT (show a + 1 ≤ 1000 by omega), d1, Bool.false_eq_true]
  try rfl
theorem p_rd3f (hz : σ.2.2 = true) (hT : TxB (σ.1 45 25) (σ.2.1 56) c t) (hk : k < 41) {a : Nat} (ha : a + 3 ≤ 1000) (d0 : sut 100 (c (a)) = false) : fX9_readsDigits 45 (nI k) 3 (mk (pst σ (nI a) s A)) = some (0, mk (pst σ (nI (a)) s (uB A 59 k (-1)))) := by
  unfold fX9_readsDigits
  simp only [pz_R hz, pz_O hz, o_b, pz_S hz hk, pz_A hz hk, le_m1, lt_m1, if_true, if_false, show (0 : Int32) ≤ 0 by decide, show ¬ (0 : Int32) < 0 by decide, show ¬ (3 : Int32) ≤ 0 by decide, show ¬ (3 : Int32) ≤ 1 by decide, show ¬ (3 : Int32) ≤ 2 by decide, p_digit hz hT (show a ≤ 1000 by omega), d0, Bool.false_eq_true]
  try rfl
theorem p_rst (hz : σ.2.2 = true) (hT : TxB (σ.1 45 25) (σ.2.1 56) c t) (hk : k < 41) {a : Nat} (ha : a + 4 ≤ 1000) (d0 : sut 100 (c (a)) = true) (d1 : sut 107 (c (a + 1)) = true) (d2 : sut 100 (c (a + 1 + 1)) = true) (d3 : sut 100 (c (a + 1 + 1 + 1)) = true) : fX9_readsSign 45 (nI k) (mk (pst σ (nI a) s A)) = some (1, mk (pst σ (nI (a + 1 + 1 + 1 + 1)) s (uB (uB (uB (uB A 59 k (nI (c (a) - 48))) 60 k (nI (kdx (c (a + 1))))) 61 k (nI (c (a + 1 + 1) - 48))) 62 k (nI (c (a + 1 + 1 + 1) - 48))))) := by
  have hk7 : ∀ (A : Nat → Nat → Int32) (Kt : Int32 → Option (Int32 × qv_H)), ((fX9_nextLetter 45 (mk (pst σ (nI (a + 1)) s A))).bind fun v10 => (fX9_kindOf v10).bind Kt) = Kt (if sut 107 (c (a + 1)) = true then nI (kdx (c (a + 1))) else -1) := by
    intro A Kt
    have := p_kind (s := s) (A := A) hz hT (show a + 1 ≤ 1000 by omega)
    rw [← Option.bind_assoc, this]
    rfl
  have hkl : (0 : Int32) ≤ nI (kdx (c (a + 1))) := nI_pos' (by unfold kdx; split <;> (try split) <;> (try split) <;> (try split) <;> (try split) <;> (try split) <;> (try split) <;> omega)
  unfold fX9_readsSign
  simp only [pz_R hz, pz_O hz, o_b, pz_S hz hk, pz_A hz hk, le_m1, lt_m1, if_true, if_false, show (0 : Int32) ≤ 0 by decide, show ¬ (0 : Int32) < 0 by decide, p_digit hz hT (show a ≤ 1000 by omega), d0, p_le hT (a), hk7, d1, hkl, pz_I hz, pz_P hz, nI_1, p_digit hz hT (show a + 1 + 1 ≤ 1000 by omega), d2, p_le hT (a + 1 + 1), p_digit hz hT (show a + 1 + 1 + 1 ≤ 1000 by omega), d3, p_le hT (a + 1 + 1 + 1), Bool.false_eq_true]
  rfl
theorem p_rstttf (hz : σ.2.2 = true) (hT : TxB (σ.1 45 25) (σ.2.1 56) c t) (hk : k < 41) {a : Nat} (ha : a + 4 ≤ 1000) (d0 : sut 100 (c (a)) = true) (d1 : sut 107 (c (a + 1)) = true) (d2 : sut 100 (c (a + 1 + 1)) = true) (d3 : sut 100 (c (a + 1 + 1 + 1)) = false) : fX9_readsSign 45 (nI k) (mk (pst σ (nI a) s A)) = some (0, mk (pst σ (nI (a + 1 + 1 + 1)) s (uB (uB (uB (uB A 59 k (nI (c (a) - 48))) 60 k (nI (kdx (c (a + 1))))) 61 k (nI (c (a + 1 + 1) - 48))) 62 k (-1)))) := by
  have hk7 : ∀ (A : Nat → Nat → Int32) (Kt : Int32 → Option (Int32 × qv_H)), ((fX9_nextLetter 45 (mk (pst σ (nI (a + 1)) s A))).bind fun v10 => (fX9_kindOf v10).bind Kt) = Kt (if sut 107 (c (a + 1)) = true then nI (kdx (c (a + 1))) else -1) := by
    intro A Kt
    have := p_kind (s := s) (A := A) hz hT (show a + 1 ≤ 1000 by omega)
    rw [← Option.bind_assoc, this]
    rfl
  have hkl : (0 : Int32) ≤ nI (kdx (c (a + 1))) := nI_pos' (by unfold kdx; split <;> (try split) <;> (try split) <;> (try split) <;> (try split) <;> (try split) <;> (try split) <;> omega)
  unfold fX9_readsSign
  simp only [pz_R hz, pz_O hz, o_b, pz_S hz hk, pz_A hz hk, le_m1, lt_m1, if_true, if_false, show (0 : Int32) ≤ 0 by decide, show ¬ (0 : Int32) < 0 by decide, p_digit hz hT (show a ≤ 1000 by omega), d0, p_le hT (a), hk7, d1, hkl, pz_I hz, pz_P hz, nI_1, p_digit hz hT (show a + 1 + 1 ≤ 1000 by omega), d2, p_le hT (a + 1 + 1), p_digit hz hT (show a + 1 + 1 + 1 ≤ 1000 by omega), d3, Bool.false_eq_true]
  try rfl
theorem p_rsttf (hz : σ.2.2 = true) (hT : TxB (σ.1 45 25) (σ.2.1 56) c t) (hk : k < 41) {a : Nat} (ha : a + 4 ≤ 1000) (d0 : sut 100 (c (a)) = true) (d1 : sut 107 (c (a + 1)) = true) (d2 : sut 100 (c (a + 1 + 1)) = false) : fX9_readsSign 45 (nI k) (mk (pst σ (nI a) s A)) = some (0, mk (pst σ (nI (a + 1 + 1)) s (uB (uB (uB A 59 k (nI (c (a) - 48))) 60 k (nI (kdx (c (a + 1))))) 61 k (-1)))) := by
  have hk7 : ∀ (A : Nat → Nat → Int32) (Kt : Int32 → Option (Int32 × qv_H)), ((fX9_nextLetter 45 (mk (pst σ (nI (a + 1)) s A))).bind fun v10 => (fX9_kindOf v10).bind Kt) = Kt (if sut 107 (c (a + 1)) = true then nI (kdx (c (a + 1))) else -1) := by
    intro A Kt
    have := p_kind (s := s) (A := A) hz hT (show a + 1 ≤ 1000 by omega)
    rw [← Option.bind_assoc, this]
    rfl
  have hkl : (0 : Int32) ≤ nI (kdx (c (a + 1))) := nI_pos' (by unfold kdx; split <;> (try split) <;> (try split) <;> (try split) <;> (try split) <;> (try split) <;> (try split) <;> omega)
  unfold fX9_readsSign
  simp only [pz_R hz, pz_O hz, o_b, pz_S hz hk, pz_A hz hk, le_m1, lt_m1, if_true, if_false, show (0 : Int32) ≤ 0 by decide, show ¬ (0 : Int32) < 0 by decide, p_digit hz hT (show a ≤ 1000 by omega), d0, p_le hT (a), hk7, d1, hkl, pz_I hz, pz_P hz, nI_1, p_digit hz hT (show a + 1 + 1 ≤ 1000 by omega), d2, Bool.false_eq_true]
  try rfl
theorem p_rstf (hz : σ.2.2 = true) (hT : TxB (σ.1 45 25) (σ.2.1 56) c t) (hk : k < 41) {a : Nat} (ha : a + 4 ≤ 1000) (d0 : sut 100 (c (a)) = true) (d1 : sut 107 (c (a + 1)) = false) : fX9_readsSign 45 (nI k) (mk (pst σ (nI a) s A)) = some (0, mk (pst σ (nI (a + 1)) s (uB (uB A 59 k (nI (c (a) - 48))) 60 k (-1)))) := by
  have hk7 : ∀ (A : Nat → Nat → Int32) (Kt : Int32 → Option (Int32 × qv_H)), ((fX9_nextLetter 45 (mk (pst σ (nI (a + 1)) s A))).bind fun v10 => (fX9_kindOf v10).bind Kt) = Kt (if sut 107 (c (a + 1)) = true then nI (kdx (c (a + 1))) else -1) := by
    intro A Kt
    have := p_kind (s := s) (A := A) hz hT (show a + 1 ≤ 1000 by omega)
    rw [← Option.bind_assoc, this]
    rfl
  have hkl : (0 : Int32) ≤ nI (kdx (c (a + 1))) := nI_pos' (by unfold kdx; split <;> (try split) <;> (try split) <;> (try split) <;> (try split) <;> (try split) <;> (try split) <;> omega)
  unfold fX9_readsSign
  simp only [pz_R hz, pz_O hz, o_b, pz_S hz hk, pz_A hz hk, le_m1, lt_m1, if_true, if_false, show (0 : Int32) ≤ 0 by decide, show ¬ (0 : Int32) < 0 by decide, p_digit hz hT (show a ≤ 1000 by omega), d0, p_le hT (a), hk7, d1, Bool.false_eq_true]
  try rfl
theorem p_rsf (hz : σ.2.2 = true) (hT : TxB (σ.1 45 25) (σ.2.1 56) c t) (hk : k < 41) {a : Nat} (ha : a + 4 ≤ 1000) (d0 : sut 100 (c (a)) = false) : fX9_readsSign 45 (nI k) (mk (pst σ (nI a) s A)) = some (0, mk (pst σ (nI (a)) s (uB A 59 k (-1)))) := by
  unfold fX9_readsSign
  simp only [pz_R hz, pz_O hz, o_b, pz_S hz hk, pz_A hz hk, le_m1, lt_m1, if_true, if_false, show (0 : Int32) ≤ 0 by decide, show ¬ (0 : Int32) < 0 by decide, p_digit hz hT (show a ≤ 1000 by omega), d0, Bool.false_eq_true]
  try rfl
end PS
