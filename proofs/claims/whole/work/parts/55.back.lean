/-! ===== 55: what is put back ===== -/
def of_ (o : Nat) : Nat := if o = 47 then 0 else if o = 48 then 8 else if o = 49 then 16 else if o = 50 then 22 else if o = 51 then 28 else if o = 52 then 34 else if o = 53 then 40 else if o = 54 then 46 else 58
def ln_ (o : Nat) : Nat := if o = 47 then 8 else if o = 48 then 8 else if o = 54 then 12 else if o = 55 then 12 else 6
def fx (k : Nat) : Nat := if 8 ≤ k ∧ k ≤ 14 then 62 + k else if k = 17 then 77 else 1000
def bst (σ : St) (c m : Nat) : St := (fun o k => if o = 45 then (if k = 30 then 0 else if k = 31 then nI (c + m) else if fx k < m then σ.2.1 63 (c + fx k) else σ.1 45 k) else σ.1 o k, fun o i => if 47 ≤ o ∧ o ≤ 55 ∧ i < ln_ o ∧ of_ o + i < m then σ.2.1 63 (c + (of_ o + i)) else σ.2.1 o i, σ.2.2)
theorem o9 {o : Nat} (h1 : 47 ≤ o) (h2 : o ≤ 55) : (o = 47 ∧ of_ o = 0 ∧ ln_ o = 8) ∨ (o = 48 ∧ of_ o = 8 ∧ ln_ o = 8) ∨ (o = 49 ∧ of_ o = 16 ∧ ln_ o = 6) ∨ (o = 50 ∧ of_ o = 22 ∧ ln_ o = 6) ∨ (o = 51 ∧ of_ o = 28 ∧ ln_ o = 6) ∨ (o = 52 ∧ of_ o = 34 ∧ ln_ o = 6) ∨ (o = 53 ∧ of_ o = 40 ∧ ln_ o = 6) ∨ (o = 54 ∧ of_ o = 46 ∧ ln_ o = 12) ∨ (o = 55 ∧ of_ o = 58 ∧ ln_ o = 12) := by
  rcases (show o = 47 ∨ o = 48 ∨ o = 49 ∨ o = 50 ∨ o = 51 ∨ o = 52 ∨ o = 53 ∨ o = 54 ∨ o = 55 by omega) with rfl | rfl | rfl | rfl | rfl | rfl | rfl | rfl | rfl <;> decide
theorem o_un {a b i j : Nat} (a1 : 47 ≤ a) (a2 : a ≤ 55) (b1 : 47 ≤ b) (b2 : b ≤ 55) (hi : i < ln_ a) (hj : j < ln_ b) (h : of_ a + i = of_ b + j) : a = b ∧ i = j := by
  rcases o9 a1 a2 with h1 | h1 | h1 | h1 | h1 | h1 | h1 | h1 | h1 <;> rcases o9 b1 b2 with h2 | h2 | h2 | h2 | h2 | h2 | h2 | h2 | h2 <;> omega
theorem fx_70 (k : Nat) : 70 ≤ fx k := by
  unfold fx
  split
  · omega
  · split <;> omega
theorem of_70 {o i : Nat} (h1 : 47 ≤ o) (h2 : o ≤ 55) (hi : i < ln_ o) : of_ o + i < 70 := by
  rcases o9 h1 h2 with h | h | h | h | h | h | h | h | h <;> omega
theorem bst_s {σ : St} {c a i : Nat} (a1 : 47 ≤ a) (a2 : a ≤ 55) (hi : i < ln_ a) : fS (aS (bst σ c (of_ a + i)) a i (σ.2.1 63 (c + (of_ a + i)))) 45 31 (nI (c + (of_ a + i) + 1)) = bst σ c (of_ a + i + 1) := by
  have h70 := of_70 a1 a2 hi
  have e1 : (fS (aS (bst σ c (of_ a + i)) a i (σ.2.1 63 (c + (of_ a + i)))) 45 31 (nI (c + (of_ a + i) + 1))).1 = (bst σ c (of_ a + i + 1)).1 := by
    funext o k
    rw [fS_f, aS_f]
    unfold bst
    have hk := fx_70 k
    by_cases h1 : o = 45
    · simp only [h1, if_true]
      by_cases h2 : k = 31
      · simp only [h2, if_true]; rfl
      · simp only [h2, if_false]
        rw [if_neg (show ¬ fx k < of_ a + i by omega), if_neg (show ¬ fx k < of_ a + i + 1 by omega)]
    · simp only [h1, if_false]
  have e2 : (fS (aS (bst σ c (of_ a + i)) a i (σ.2.1 63 (c + (of_ a + i)))) 45 31 (nI (c + (of_ a + i) + 1))).2.1 = (bst σ c (of_ a + i + 1)).2.1 := by
    funext o k
    rw [fS_a, aS_a]
    unfold bst
    dsimp only
    by_cases h1 : o = a
    · subst h1
      by_cases h2 : k = i
      · subst h2
        rw [if_pos rfl, if_pos rfl, if_pos ⟨a1, a2, hi, by omega⟩]
      · rw [if_pos rfl, if_neg h2]
        by_cases h3 : 47 ≤ o ∧ o ≤ 55 ∧ k < ln_ o ∧ of_ o + k < of_ o + i
        · rw [if_pos h3, if_pos ⟨h3.1, h3.2.1, h3.2.2.1, by omega⟩]
        · rw [if_neg h3, if_neg (fun z => h3 ⟨z.1, z.2.1, z.2.2.1, by omega⟩)]
    · rw [if_neg h1]
      by_cases h3 : 47 ≤ o ∧ o ≤ 55 ∧ k < ln_ o ∧ of_ o + k < of_ a + i
      · rw [if_pos h3, if_pos ⟨h3.1, h3.2.1, h3.2.2.1, by omega⟩]
      · rw [if_neg h3, if_neg (fun z => h3 ⟨z.1, z.2.1, z.2.2.1, by
          have h4 : of_ o + k ≠ of_ a + i := fun y => h1 (o_un z.1 z.2.1 a1 a2 z.2.2.1 hi y).1
          omega⟩)]
  exact Prod.ext e1 (Prod.ext e2 rfl)
theorem bst_f {σ : St} {c k m : Nat} (hm : 70 ≤ m) (hk : fx k = m) (hk30 : k ≠ 30) (hk31 : k ≠ 31) (hu : ∀ j, fx j = m → j = k) : fS (fS (bst σ c m) 45 31 (nI (c + m + 1))) 45 k (σ.2.1 63 (c + m)) = bst σ c (m + 1) := by
  have e1 : (fS (fS (bst σ c m) 45 31 (nI (c + m + 1))) 45 k (σ.2.1 63 (c + m))).1 = (bst σ c (m + 1)).1 := by
    funext o j
    rw [fS_f, fS_f]
    unfold bst
    by_cases h1 : o = 45
    · simp only [h1, if_true]
      by_cases h2 : j = k
      · simp only [h2, if_true, if_neg hk30, if_neg hk31, hk]
        rw [if_pos (by omega)]
      · simp only [h2, if_false]
        by_cases h3 : j = 31
        · simp only [h3, if_true]; rfl
        · simp only [h3, if_false]
          have h4 : fx j ≠ m := fun z => h2 (hu j z)
          by_cases h5 : fx j < m
          · rw [if_pos h5, if_pos (show fx j < m + 1 by omega)]
          · rw [if_neg h5, if_neg (show ¬ fx j < m + 1 by omega)]
    · simp only [h1, if_false]
  have e2 : (fS (fS (bst σ c m) 45 31 (nI (c + m + 1))) 45 k (σ.2.1 63 (c + m))).2.1 = (bst σ c (m + 1)).2.1 := by
    funext o j
    rw [fS_a, fS_a]
    unfold bst
    dsimp only
    by_cases h3 : 47 ≤ o ∧ o ≤ 55 ∧ j < ln_ o ∧ of_ o + j < m
    · rw [if_pos h3, if_pos ⟨h3.1, h3.2.1, h3.2.2.1, by omega⟩]
    · rw [if_neg h3, if_neg (fun z => h3 ⟨z.1, z.2.1, z.2.2.1, by have := of_70 z.1 z.2.1 z.2.2.1; omega⟩)]
  exact Prod.ext e1 (Prod.ext e2 rfl)
theorem m_back {σ : St} (hz : σ.2.2 = true) {a n c m : Nat} (a1 : 47 ≤ a) (a2 : a ≤ 55) (ha : tb[a]? = some (.inl (false, n))) (hn : n = ln_ a) (hm : m = of_ a) (hc : c ≤ 100) : fX9_passes 45 a (mk (bst σ c m)) = some (mk (bst σ c (m + n))) := by
  subst hm
  have hn12 : of_ a + n ≤ 70 ∧ n ≤ 12 := by rw [hn]; rcases o9 a1 a2 with h | h | h | h | h | h | h | h | h <;> omega
  unfold fX9_passes
  refine lp_b (fun j => (nI j, mk (bst σ c (of_ a + j)))) n (r := mk (bst σ c (of_ a + n))) rfl ?_ ?_ rfl
  · intro j hj
    dsimp only
    have hk := bst_s (σ := σ) (c := c) (i := j) a1 a2 (by omega)
    have t63 : (bst σ c (of_ a + j)).2.1 63 (c + (of_ a + j)) = σ.2.1 63 (c + (of_ a + j)) := rfl
    generalize hT : bst σ c (of_ a + j) = τ at hk t63
    have tz : τ.2.2 = true := by rw [← hT]; exact hz
    have t30 : τ.1 45 30 = 0 := by rw [← hT]; rfl
    have t31 : τ.1 45 31 = nI (c + (of_ a + j)) := by rw [← hT]; rfl
    have hcj : c + (of_ a + j) < 200 := by omega
    rw [a_L (Or.inr tz) ha, o_b, if_neg (nI_ge hj (by omega)), show nI j + 1 = nI (j + 1) from nI_1 j]
    simp only [m_I tz, m_R tz, o_b, t30, if_true, t31, m_A tz, hcj, t63]
    rw [a_S (Or.inr tz) ha (by omega) rfl hj, o_b]
    have z2 : (aS τ a j (σ.2.1 63 (c + (of_ a + j)))).2.2 = true := tz
    have t32 : (aS τ a j (σ.2.1 63 (c + (of_ a + j)))).1 45 31 = nI (c + (of_ a + j)) := t31
    simp only [cond_false, o_b, m_I z2, t32, m_P z2, nI_1]
    rw [hk]
    rfl
  · dsimp only
    have tz : (bst σ c (of_ a + n)).2.2 = true := hz
    rw [a_L (Or.inr tz) ha, o_b, if_pos (nI_le (Nat.le_refl _) (by omega))]
theorem m_back1 {σ : St} (hz : σ.2.2 = true) {c m : Nat} {v : Int32} (hc : c + m < 200) : fX9_passOne 45 v (mk (bst σ c m)) = some (σ.2.1 63 (c + m), mk (fS (bst σ c m) 45 31 (nI (c + m + 1)))) := by
  have t63 : (bst σ c m).2.1 63 (c + m) = σ.2.1 63 (c + m) := rfl
  generalize hT : bst σ c m = τ at t63
  have tz : τ.2.2 = true := by rw [← hT]; exact hz
  have t30 : τ.1 45 30 = 0 := by rw [← hT]; rfl
  have t31 : τ.1 45 31 = nI (c + m) := by rw [← hT]; rfl
  unfold fX9_passOne
  simp only [m_I tz, m_R tz, o_b, t30, if_true, t31, m_A tz, hc, t63, m_P tz, nI_1]
theorem fx_u {m : Nat} (h1 : 70 ≤ m) (h2 : m ≤ 77) {j k : Nat} (hj : fx j = m) (hk : fx k = m) : j = k := by
  unfold fx at hj hk
  split at hj <;> split at hk <;> (try split at hj) <;> (try split at hk) <;> omega
theorem m_backAll {σ : St} (hz : σ.2.2 = true) {w : Nat} (hw : w < 2) : fX9_passesAll 45 (nI w) 0 (mk σ) = some (mk (bst σ (100 * w) 78)) := by
  have e0 : (100 : Int32) * nI w = nI (100 * w) := pk_mul 100 w
  have hk : ∀ m, (bst σ (100 * w) m).2.2 = true := fun _ => hz
  have hk2 : ∀ m x, (fS (bst σ (100 * w) m) 45 31 x).2.2 = true := fun _ _ => hz
  have k0 : fS (fS σ 45 31 (nI (100 * w))) 45 30 0 = bst σ (100 * w) 0 := by
    have e1 : (fS (fS σ 45 31 (nI (100 * w))) 45 30 0).1 = (bst σ (100 * w) 0).1 := by
      funext o k
      rw [fS_f, fS_f]
      unfold bst
      by_cases h1 : o = 45
      · simp only [h1, if_true]
        by_cases h2 : k = 30
        · simp only [h2, if_true]
        · simp only [h2, if_false]
          by_cases h3 : k = 31
          · simp only [h3, if_true]; rfl
          · simp only [h3, if_false]
            rw [if_neg (Nat.not_lt_zero _)]
      · simp only [h1, if_false]
    have e2 : (fS (fS σ 45 31 (nI (100 * w))) 45 30 0).2.1 = (bst σ (100 * w) 0).2.1 := by
      funext o i
      rw [fS_a, fS_a]
      unfold bst
      dsimp only
      rw [if_neg (fun z => Nat.not_lt_zero _ z.2.2.2)]
    exact Prod.ext e1 (Prod.ext e2 rfl)
  have z1 : (fS σ 45 31 (nI (100 * w))).2.2 = true := hz
  unfold fX9_passesAll
  simp only [e0, m_P hz, o_b, m_Z z1, k0]
  have p47 : fX9_passes 45 47 (mk (bst σ (100 * w) 0)) = some (mk (bst σ (100 * w) 8)) := m_back hz (n := 8) (m := 0) (by decide) (by decide) rfl (by decide) (by decide) (by omega)
  have p48 : fX9_passes 45 48 (mk (bst σ (100 * w) 8)) = some (mk (bst σ (100 * w) 16)) := m_back hz (n := 8) (m := 8) (by decide) (by decide) rfl (by decide) (by decide) (by omega)
  have p49 : fX9_passes 45 49 (mk (bst σ (100 * w) 16)) = some (mk (bst σ (100 * w) 22)) := m_back hz (n := 6) (m := 16) (by decide) (by decide) rfl (by decide) (by decide) (by omega)
  have p50 : fX9_passes 45 50 (mk (bst σ (100 * w) 22)) = some (mk (bst σ (100 * w) 28)) := m_back hz (n := 6) (m := 22) (by decide) (by decide) rfl (by decide) (by decide) (by omega)
  have p51 : fX9_passes 45 51 (mk (bst σ (100 * w) 28)) = some (mk (bst σ (100 * w) 34)) := m_back hz (n := 6) (m := 28) (by decide) (by decide) rfl (by decide) (by decide) (by omega)
  have p52 : fX9_passes 45 52 (mk (bst σ (100 * w) 34)) = some (mk (bst σ (100 * w) 40)) := m_back hz (n := 6) (m := 34) (by decide) (by decide) rfl (by decide) (by decide) (by omega)
  have p53 : fX9_passes 45 53 (mk (bst σ (100 * w) 40)) = some (mk (bst σ (100 * w) 46)) := m_back hz (n := 6) (m := 40) (by decide) (by decide) rfl (by decide) (by decide) (by omega)
  have p54 : fX9_passes 45 54 (mk (bst σ (100 * w) 46)) = some (mk (bst σ (100 * w) 58)) := m_back hz (n := 12) (m := 46) (by decide) (by decide) rfl (by decide) (by decide) (by omega)
  have p55 : fX9_passes 45 55 (mk (bst σ (100 * w) 58)) = some (mk (bst σ (100 * w) 70)) := m_back hz (n := 12) (m := 58) (by decide) (by decide) rfl (by decide) (by decide) (by omega)
  have r8 : ∀ v, fX9_passOne 45 v (mk (bst σ (100 * w) 70)) = some (σ.2.1 63 (100 * w + 70), mk (fS (bst σ (100 * w) 70) 45 31 (nI (100 * w + 70 + 1)))) := fun v => m_back1 hz (by omega)
  have s8 : fS (fS (bst σ (100 * w) 70) 45 31 (nI (100 * w + 70 + 1))) 45 8 (σ.2.1 63 (100 * w + 70)) = bst σ (100 * w) 71 := bst_f (by decide) (by decide) (by decide) (by decide) (fun j hj => fx_u (m := 70) (by decide) (by decide) hj (by decide))
  have r9 : ∀ v, fX9_passOne 45 v (mk (bst σ (100 * w) 71)) = some (σ.2.1 63 (100 * w + 71), mk (fS (bst σ (100 * w) 71) 45 31 (nI (100 * w + 71 + 1)))) := fun v => m_back1 hz (by omega)
  have s9 : fS (fS (bst σ (100 * w) 71) 45 31 (nI (100 * w + 71 + 1))) 45 9 (σ.2.1 63 (100 * w + 71)) = bst σ (100 * w) 72 := bst_f (by decide) (by decide) (by decide) (by decide) (fun j hj => fx_u (m := 71) (by decide) (by decide) hj (by decide))
  have r10 : ∀ v, fX9_passOne 45 v (mk (bst σ (100 * w) 72)) = some (σ.2.1 63 (100 * w + 72), mk (fS (bst σ (100 * w) 72) 45 31 (nI (100 * w + 72 + 1)))) := fun v => m_back1 hz (by omega)
  have s10 : fS (fS (bst σ (100 * w) 72) 45 31 (nI (100 * w + 72 + 1))) 45 10 (σ.2.1 63 (100 * w + 72)) = bst σ (100 * w) 73 := bst_f (by decide) (by decide) (by decide) (by decide) (fun j hj => fx_u (m := 72) (by decide) (by decide) hj (by decide))
  have r11 : ∀ v, fX9_passOne 45 v (mk (bst σ (100 * w) 73)) = some (σ.2.1 63 (100 * w + 73), mk (fS (bst σ (100 * w) 73) 45 31 (nI (100 * w + 73 + 1)))) := fun v => m_back1 hz (by omega)
  have s11 : fS (fS (bst σ (100 * w) 73) 45 31 (nI (100 * w + 73 + 1))) 45 11 (σ.2.1 63 (100 * w + 73)) = bst σ (100 * w) 74 := bst_f (by decide) (by decide) (by decide) (by decide) (fun j hj => fx_u (m := 73) (by decide) (by decide) hj (by decide))
  have r12 : ∀ v, fX9_passOne 45 v (mk (bst σ (100 * w) 74)) = some (σ.2.1 63 (100 * w + 74), mk (fS (bst σ (100 * w) 74) 45 31 (nI (100 * w + 74 + 1)))) := fun v => m_back1 hz (by omega)
  have s12 : fS (fS (bst σ (100 * w) 74) 45 31 (nI (100 * w + 74 + 1))) 45 12 (σ.2.1 63 (100 * w + 74)) = bst σ (100 * w) 75 := bst_f (by decide) (by decide) (by decide) (by decide) (fun j hj => fx_u (m := 74) (by decide) (by decide) hj (by decide))
  have r13 : ∀ v, fX9_passOne 45 v (mk (bst σ (100 * w) 75)) = some (σ.2.1 63 (100 * w + 75), mk (fS (bst σ (100 * w) 75) 45 31 (nI (100 * w + 75 + 1)))) := fun v => m_back1 hz (by omega)
  have s13 : fS (fS (bst σ (100 * w) 75) 45 31 (nI (100 * w + 75 + 1))) 45 13 (σ.2.1 63 (100 * w + 75)) = bst σ (100 * w) 76 := bst_f (by decide) (by decide) (by decide) (by decide) (fun j hj => fx_u (m := 75) (by decide) (by decide) hj (by decide))
  have r14 : ∀ v, fX9_passOne 45 v (mk (bst σ (100 * w) 76)) = some (σ.2.1 63 (100 * w + 76), mk (fS (bst σ (100 * w) 76) 45 31 (nI (100 * w + 76 + 1)))) := fun v => m_back1 hz (by omega)
  have s14 : fS (fS (bst σ (100 * w) 76) 45 31 (nI (100 * w + 76 + 1))) 45 14 (σ.2.1 63 (100 * w + 76)) = bst σ (100 * w) 77 := bst_f (by decide) (by decide) (by decide) (by decide) (fun j hj => fx_u (m := 76) (by decide) (by decide) hj (by decide))
  have r17 : ∀ v, fX9_passOne 45 v (mk (bst σ (100 * w) 77)) = some (σ.2.1 63 (100 * w + 77), mk (fS (bst σ (100 * w) 77) 45 31 (nI (100 * w + 77 + 1)))) := fun v => m_back1 hz (by omega)
  have s17 : fS (fS (bst σ (100 * w) 77) 45 31 (nI (100 * w + 77 + 1))) 45 17 (σ.2.1 63 (100 * w + 77)) = bst σ (100 * w) 78 := bst_f (by decide) (by decide) (by decide) (by decide) (fun j hj => fx_u (m := 77) (by decide) (by decide) hj (by decide))
  simp only [m_R (hk _), m_O (hk _), m_I (hk _), m_P (hk2 _ _), o_b, p47, p48, p49, p50, p51, p52, p53, p54, p55, r8, s8, r9, s9, r10, s10, r11, s11, r12, s12, r13, s13, r14, s14, r17, s17]
