/-! ===== 54: copies: become, passes ===== -/
theorem a_C {σ : St} {a b n : Nat} (ha : zt σ a) (hb : zt σ b) (h1 : tb[a]? = some (.inl (false, n))) (h2 : tb[b]? = some (.inl (false, n))) (hn : n < 2 ^ 31) : qv_cp (mk σ) a 0 b 0 (nI n) = some (mk (wS σ b (va_cpy (σ.2.1 a) (σ.2.1 b) 0 0 n))) := by
  unfold qv_cp
  rw [mk_at ha h1, mk_at hb h2]
  show (if false = false ∧ false = false ∧ ¬ (0 : Int32) < 0 ∧ ¬ (0 : Int32) < 0 ∧ ¬ nI n < 0 ∧ (0 : Int32).toNatClampNeg + (nI n).toNatClampNeg ≤ n ∧ (0 : Int32).toNatClampNeg + (nI n).toNatClampNeg ≤ n then some (qv_set (mk σ) b (.inl (false, n, va_cpy (σ.2.1 a) (σ.2.1 b) (0 : Int32).toNatClampNeg (0 : Int32).toNatClampNeg (nI n).toNatClampNeg))) else none) = _
  have e0 : (0 : Int32).toNatClampNeg = 0 := by decide
  rw [nI_clamp hn, e0, if_pos ⟨rfl, rfl, by decide, by decide, nI_pos hn, by omega, by omega⟩, mk_a _ hb h2]
def bec_19_3 (σ : St) : St := fS (fS (fS (wS (wS (wS (wS (wS (wS (wS (fS (fS (fS (fS σ 19 0 (σ.1 3 0)) 19 1 (σ.1 3 1)) 19 2 (σ.1 3 2)) 19 3 (σ.1 3 3)) 20 (va_cpy (σ.2.1 4) (σ.2.1 20) 0 0 8)) 21 (va_cpy (σ.2.1 5) (σ.2.1 21) 0 0 8)) 22 (va_cpy (σ.2.1 6) (σ.2.1 22) 0 0 6)) 23 (va_cpy (σ.2.1 7) (σ.2.1 23) 0 0 6)) 24 (va_cpy (σ.2.1 8) (σ.2.1 24) 0 0 6)) 25 (va_cpy (σ.2.1 9) (σ.2.1 25) 0 0 6)) 26 (va_cpy (σ.2.1 10) (σ.2.1 26) 0 0 6)) 19 11 (σ.1 3 11)) 19 12 (σ.1 3 12)) 19 13 (σ.1 3 13)
theorem cp_19_3_0 {σ : St} : qv_cp (mk σ) 4 0 20 0 (8 : Int32) = some (mk (wS σ 20 (va_cpy (σ.2.1 4) (σ.2.1 20) 0 0 8))) := a_C (n := 8) (Or.inl (by decide)) (Or.inl (by decide)) rfl rfl (by decide)
theorem cp_19_3_1 {σ : St} : qv_cp (mk σ) 5 0 21 0 (8 : Int32) = some (mk (wS σ 21 (va_cpy (σ.2.1 5) (σ.2.1 21) 0 0 8))) := a_C (n := 8) (Or.inl (by decide)) (Or.inl (by decide)) rfl rfl (by decide)
theorem cp_19_3_2 {σ : St} : qv_cp (mk σ) 6 0 22 0 (6 : Int32) = some (mk (wS σ 22 (va_cpy (σ.2.1 6) (σ.2.1 22) 0 0 6))) := a_C (n := 6) (Or.inl (by decide)) (Or.inl (by decide)) rfl rfl (by decide)
theorem cp_19_3_3 {σ : St} : qv_cp (mk σ) 7 0 23 0 (6 : Int32) = some (mk (wS σ 23 (va_cpy (σ.2.1 7) (σ.2.1 23) 0 0 6))) := a_C (n := 6) (Or.inl (by decide)) (Or.inl (by decide)) rfl rfl (by decide)
theorem cp_19_3_4 {σ : St} : qv_cp (mk σ) 8 0 24 0 (6 : Int32) = some (mk (wS σ 24 (va_cpy (σ.2.1 8) (σ.2.1 24) 0 0 6))) := a_C (n := 6) (Or.inl (by decide)) (Or.inl (by decide)) rfl rfl (by decide)
theorem cp_19_3_5 {σ : St} : qv_cp (mk σ) 9 0 25 0 (6 : Int32) = some (mk (wS σ 25 (va_cpy (σ.2.1 9) (σ.2.1 25) 0 0 6))) := a_C (n := 6) (Or.inl (by decide)) (Or.inl (by decide)) rfl rfl (by decide)
theorem cp_19_3_6 {σ : St} : qv_cp (mk σ) 10 0 26 0 (6 : Int32) = some (mk (wS σ 26 (va_cpy (σ.2.1 10) (σ.2.1 26) 0 0 6))) := a_C (n := 6) (Or.inl (by decide)) (Or.inl (by decide)) rfl rfl (by decide)
theorem c_bec_19_3 {σ : St} : fX3_become 19 3 (mk σ) = some (mk (bec_19_3 σ)) := by
  unfold fX3_become
  simp only [c_I, c_P, c_R, o_b, cp_19_3_0, cp_19_3_1, cp_19_3_2, cp_19_3_3, cp_19_3_4, cp_19_3_5, cp_19_3_6]
  rfl
def bec_3_19 (σ : St) : St := fS (fS (fS (wS (wS (wS (wS (wS (wS (wS (fS (fS (fS (fS σ 3 0 (σ.1 19 0)) 3 1 (σ.1 19 1)) 3 2 (σ.1 19 2)) 3 3 (σ.1 19 3)) 4 (va_cpy (σ.2.1 20) (σ.2.1 4) 0 0 8)) 5 (va_cpy (σ.2.1 21) (σ.2.1 5) 0 0 8)) 6 (va_cpy (σ.2.1 22) (σ.2.1 6) 0 0 6)) 7 (va_cpy (σ.2.1 23) (σ.2.1 7) 0 0 6)) 8 (va_cpy (σ.2.1 24) (σ.2.1 8) 0 0 6)) 9 (va_cpy (σ.2.1 25) (σ.2.1 9) 0 0 6)) 10 (va_cpy (σ.2.1 26) (σ.2.1 10) 0 0 6)) 3 11 (σ.1 19 11)) 3 12 (σ.1 19 12)) 3 13 (σ.1 19 13)
theorem cp_3_19_0 {σ : St} : qv_cp (mk σ) 20 0 4 0 (8 : Int32) = some (mk (wS σ 4 (va_cpy (σ.2.1 20) (σ.2.1 4) 0 0 8))) := a_C (n := 8) (Or.inl (by decide)) (Or.inl (by decide)) rfl rfl (by decide)
theorem cp_3_19_1 {σ : St} : qv_cp (mk σ) 21 0 5 0 (8 : Int32) = some (mk (wS σ 5 (va_cpy (σ.2.1 21) (σ.2.1 5) 0 0 8))) := a_C (n := 8) (Or.inl (by decide)) (Or.inl (by decide)) rfl rfl (by decide)
theorem cp_3_19_2 {σ : St} : qv_cp (mk σ) 22 0 6 0 (6 : Int32) = some (mk (wS σ 6 (va_cpy (σ.2.1 22) (σ.2.1 6) 0 0 6))) := a_C (n := 6) (Or.inl (by decide)) (Or.inl (by decide)) rfl rfl (by decide)
theorem cp_3_19_3 {σ : St} : qv_cp (mk σ) 23 0 7 0 (6 : Int32) = some (mk (wS σ 7 (va_cpy (σ.2.1 23) (σ.2.1 7) 0 0 6))) := a_C (n := 6) (Or.inl (by decide)) (Or.inl (by decide)) rfl rfl (by decide)
theorem cp_3_19_4 {σ : St} : qv_cp (mk σ) 24 0 8 0 (6 : Int32) = some (mk (wS σ 8 (va_cpy (σ.2.1 24) (σ.2.1 8) 0 0 6))) := a_C (n := 6) (Or.inl (by decide)) (Or.inl (by decide)) rfl rfl (by decide)
theorem cp_3_19_5 {σ : St} : qv_cp (mk σ) 25 0 9 0 (6 : Int32) = some (mk (wS σ 9 (va_cpy (σ.2.1 25) (σ.2.1 9) 0 0 6))) := a_C (n := 6) (Or.inl (by decide)) (Or.inl (by decide)) rfl rfl (by decide)
theorem cp_3_19_6 {σ : St} : qv_cp (mk σ) 26 0 10 0 (6 : Int32) = some (mk (wS σ 10 (va_cpy (σ.2.1 26) (σ.2.1 10) 0 0 6))) := a_C (n := 6) (Or.inl (by decide)) (Or.inl (by decide)) rfl rfl (by decide)
theorem c_bec_3_19 {σ : St} : fX3_become 3 19 (mk σ) = some (mk (bec_3_19 σ)) := by
  unfold fX3_become
  simp only [c_I, c_P, c_R, o_b, cp_3_19_0, cp_3_19_1, cp_3_19_2, cp_3_19_3, cp_3_19_4, cp_3_19_5, cp_3_19_6]
  rfl
def bec_11_3 (σ : St) : St := fS (fS (fS (wS (wS (wS (wS (wS (wS (wS (fS (fS (fS (fS σ 11 0 (σ.1 3 0)) 11 1 (σ.1 3 1)) 11 2 (σ.1 3 2)) 11 3 (σ.1 3 3)) 12 (va_cpy (σ.2.1 4) (σ.2.1 12) 0 0 8)) 13 (va_cpy (σ.2.1 5) (σ.2.1 13) 0 0 8)) 14 (va_cpy (σ.2.1 6) (σ.2.1 14) 0 0 6)) 15 (va_cpy (σ.2.1 7) (σ.2.1 15) 0 0 6)) 16 (va_cpy (σ.2.1 8) (σ.2.1 16) 0 0 6)) 17 (va_cpy (σ.2.1 9) (σ.2.1 17) 0 0 6)) 18 (va_cpy (σ.2.1 10) (σ.2.1 18) 0 0 6)) 11 11 (σ.1 3 11)) 11 12 (σ.1 3 12)) 11 13 (σ.1 3 13)
theorem cp_11_3_0 {σ : St} : qv_cp (mk σ) 4 0 12 0 (8 : Int32) = some (mk (wS σ 12 (va_cpy (σ.2.1 4) (σ.2.1 12) 0 0 8))) := a_C (n := 8) (Or.inl (by decide)) (Or.inl (by decide)) rfl rfl (by decide)
theorem cp_11_3_1 {σ : St} : qv_cp (mk σ) 5 0 13 0 (8 : Int32) = some (mk (wS σ 13 (va_cpy (σ.2.1 5) (σ.2.1 13) 0 0 8))) := a_C (n := 8) (Or.inl (by decide)) (Or.inl (by decide)) rfl rfl (by decide)
theorem cp_11_3_2 {σ : St} : qv_cp (mk σ) 6 0 14 0 (6 : Int32) = some (mk (wS σ 14 (va_cpy (σ.2.1 6) (σ.2.1 14) 0 0 6))) := a_C (n := 6) (Or.inl (by decide)) (Or.inl (by decide)) rfl rfl (by decide)
theorem cp_11_3_3 {σ : St} : qv_cp (mk σ) 7 0 15 0 (6 : Int32) = some (mk (wS σ 15 (va_cpy (σ.2.1 7) (σ.2.1 15) 0 0 6))) := a_C (n := 6) (Or.inl (by decide)) (Or.inl (by decide)) rfl rfl (by decide)
theorem cp_11_3_4 {σ : St} : qv_cp (mk σ) 8 0 16 0 (6 : Int32) = some (mk (wS σ 16 (va_cpy (σ.2.1 8) (σ.2.1 16) 0 0 6))) := a_C (n := 6) (Or.inl (by decide)) (Or.inl (by decide)) rfl rfl (by decide)
theorem cp_11_3_5 {σ : St} : qv_cp (mk σ) 9 0 17 0 (6 : Int32) = some (mk (wS σ 17 (va_cpy (σ.2.1 9) (σ.2.1 17) 0 0 6))) := a_C (n := 6) (Or.inl (by decide)) (Or.inl (by decide)) rfl rfl (by decide)
theorem cp_11_3_6 {σ : St} : qv_cp (mk σ) 10 0 18 0 (6 : Int32) = some (mk (wS σ 18 (va_cpy (σ.2.1 10) (σ.2.1 18) 0 0 6))) := a_C (n := 6) (Or.inl (by decide)) (Or.inl (by decide)) rfl rfl (by decide)
theorem c_bec_11_3 {σ : St} : fX3_become 11 3 (mk σ) = some (mk (bec_11_3 σ)) := by
  unfold fX3_become
  simp only [c_I, c_P, c_R, o_b, cp_11_3_0, cp_11_3_1, cp_11_3_2, cp_11_3_3, cp_11_3_4, cp_11_3_5, cp_11_3_6]
  rfl
def bec_3_11 (σ : St) : St := fS (fS (fS (wS (wS (wS (wS (wS (wS (wS (fS (fS (fS (fS σ 3 0 (σ.1 11 0)) 3 1 (σ.1 11 1)) 3 2 (σ.1 11 2)) 3 3 (σ.1 11 3)) 4 (va_cpy (σ.2.1 12) (σ.2.1 4) 0 0 8)) 5 (va_cpy (σ.2.1 13) (σ.2.1 5) 0 0 8)) 6 (va_cpy (σ.2.1 14) (σ.2.1 6) 0 0 6)) 7 (va_cpy (σ.2.1 15) (σ.2.1 7) 0 0 6)) 8 (va_cpy (σ.2.1 16) (σ.2.1 8) 0 0 6)) 9 (va_cpy (σ.2.1 17) (σ.2.1 9) 0 0 6)) 10 (va_cpy (σ.2.1 18) (σ.2.1 10) 0 0 6)) 3 11 (σ.1 11 11)) 3 12 (σ.1 11 12)) 3 13 (σ.1 11 13)
theorem cp_3_11_0 {σ : St} : qv_cp (mk σ) 12 0 4 0 (8 : Int32) = some (mk (wS σ 4 (va_cpy (σ.2.1 12) (σ.2.1 4) 0 0 8))) := a_C (n := 8) (Or.inl (by decide)) (Or.inl (by decide)) rfl rfl (by decide)
theorem cp_3_11_1 {σ : St} : qv_cp (mk σ) 13 0 5 0 (8 : Int32) = some (mk (wS σ 5 (va_cpy (σ.2.1 13) (σ.2.1 5) 0 0 8))) := a_C (n := 8) (Or.inl (by decide)) (Or.inl (by decide)) rfl rfl (by decide)
theorem cp_3_11_2 {σ : St} : qv_cp (mk σ) 14 0 6 0 (6 : Int32) = some (mk (wS σ 6 (va_cpy (σ.2.1 14) (σ.2.1 6) 0 0 6))) := a_C (n := 6) (Or.inl (by decide)) (Or.inl (by decide)) rfl rfl (by decide)
theorem cp_3_11_3 {σ : St} : qv_cp (mk σ) 15 0 7 0 (6 : Int32) = some (mk (wS σ 7 (va_cpy (σ.2.1 15) (σ.2.1 7) 0 0 6))) := a_C (n := 6) (Or.inl (by decide)) (Or.inl (by decide)) rfl rfl (by decide)
theorem cp_3_11_4 {σ : St} : qv_cp (mk σ) 16 0 8 0 (6 : Int32) = some (mk (wS σ 8 (va_cpy (σ.2.1 16) (σ.2.1 8) 0 0 6))) := a_C (n := 6) (Or.inl (by decide)) (Or.inl (by decide)) rfl rfl (by decide)
theorem cp_3_11_5 {σ : St} : qv_cp (mk σ) 17 0 9 0 (6 : Int32) = some (mk (wS σ 9 (va_cpy (σ.2.1 17) (σ.2.1 9) 0 0 6))) := a_C (n := 6) (Or.inl (by decide)) (Or.inl (by decide)) rfl rfl (by decide)
theorem cp_3_11_6 {σ : St} : qv_cp (mk σ) 18 0 10 0 (6 : Int32) = some (mk (wS σ 10 (va_cpy (σ.2.1 18) (σ.2.1 10) 0 0 6))) := a_C (n := 6) (Or.inl (by decide)) (Or.inl (by decide)) rfl rfl (by decide)
theorem c_bec_3_11 {σ : St} : fX3_become 3 11 (mk σ) = some (mk (bec_3_11 σ)) := by
  unfold fX3_become
  simp only [c_I, c_P, c_R, o_b, cp_3_11_0, cp_3_11_1, cp_3_11_2, cp_3_11_3, cp_3_11_4, cp_3_11_5, cp_3_11_6]
  rfl
def cpj (f g : Nat → Int32) (j : Nat) : Nat → Int32 := fun i => if i < j then f i else g i
theorem cpj_0 (f g : Nat → Int32) : cpj f g 0 = g := by funext i; unfold cpj; rw [if_neg (Nat.not_lt_zero i)]
theorem cpj_s (f g : Nat → Int32) (j : Nat) : upd (cpj f g j) j (f j) = cpj f g (j + 1) := by
  funext i
  unfold upd cpj
  by_cases h : i = j
  · subst h; rw [if_pos rfl, if_pos (by omega)]
  · rw [if_neg h]
    by_cases h2 : i < j
    · rw [if_pos h2, if_pos (by omega)]
    · rw [if_neg h2, if_neg (by omega)]
def bef_30_27 (σ : St) (j : Nat) : St := wS (wS (fS σ 30 0 (σ.1 27 0)) 31 (cpj (σ.2.1 28) (σ.2.1 31) j)) 32 (cpj (σ.2.1 29) (σ.2.1 32) j)
theorem c_bef_30_27 {σ : St} {k : Nat} {B : Nat → Nat} {S : Nat → Bool} (hF : FdA (σ.1 27 0) (σ.2.1 28) (σ.2.1 29) k B S) : fX2_become 30 27 (mk σ) = some (mk (bef_30_27 σ k)) := by
  have q1 := hF.1
  have q2 := hF.2.1
  unfold fX2_become
  simp only [c_I, c_P, o_b]
  refine lp_b (fun j => (nI j, mk (bef_30_27 σ j))) k (r := mk (bef_30_27 σ k)) ?_ ?_ ?_ rfl
  · unfold bef_30_27
    rw [cpj_0, cpj_0, show σ.2.1 31 = (fS σ 30 0 (σ.1 27 0)).2.1 31 from rfl, wS_self, show σ.2.1 32 = (fS σ 30 0 (σ.1 27 0)).2.1 32 from rfl, wS_self]
    rfl
  · intro j hj
    obtain ⟨a1, a2, a3⟩ := hF.2.2 j hj
    have hj12 : j < 12 := by omega
    dsimp only
    generalize hT : bef_30_27 σ j = τ
    have t0 : τ.1 30 0 = nI k := by rw [← hT]; exact q1
    have t1 : τ.2.1 28 j = σ.2.1 28 j := by rw [← hT]; rfl
    have t2 : (aS τ 31 j (σ.2.1 28 j)).2.1 29 j = b2i (S j) := by rw [← hT]; exact a2
    simp only [c_I, c_R, c_A, c_S, hj12, o_b, t0, t1, t2, b2i_and]
    rw [if_neg (nI_ge hj (by omega)), show nI j + 1 = nI (j + 1) from nI_1 j]
    have e : aS (aS τ 31 j (σ.2.1 28 j)) 32 j (b2i (S j)) = bef_30_27 σ (j + 1) := by
      rw [← hT, ← a2]
      unfold bef_30_27
      rw [← cpj_s (σ.2.1 28) (σ.2.1 31) j, ← cpj_s (σ.2.1 29) (σ.2.1 32) j]
      have e1 : ∀ (τ : St) (a b : Nat → Int32) (v : Int32), aS (wS (wS τ 31 a) 32 b) 31 j v = wS (wS τ 31 (upd a j v)) 32 b := by
        intro τ a b v
        unfold aS wS va_up
        refine congrArg (fun z => (τ.1, z, τ.2.2)) ?_
        funext o
        by_cases h1 : o = 31
        · subst h1; simp
        · simp [h1]
      rw [e1, aS_wS]
    rw [e]
  · have t0 : (bef_30_27 σ k).1 30 0 = nI k := q1
    dsimp only
    simp only [c_I, o_b, t0]
    rw [if_pos (nI_le (Nat.le_refl _) (by omega))]
def bef_27_30 (σ : St) (j : Nat) : St := wS (wS (fS σ 27 0 (σ.1 30 0)) 28 (cpj (σ.2.1 31) (σ.2.1 28) j)) 29 (cpj (σ.2.1 32) (σ.2.1 29) j)
theorem c_bef_27_30 {σ : St} {k : Nat} {B : Nat → Nat} {S : Nat → Bool} (hF : FdA (σ.1 30 0) (σ.2.1 31) (σ.2.1 32) k B S) : fX2_become 27 30 (mk σ) = some (mk (bef_27_30 σ k)) := by
  have q1 := hF.1
  have q2 := hF.2.1
  unfold fX2_become
  simp only [c_I, c_P, o_b]
  refine lp_b (fun j => (nI j, mk (bef_27_30 σ j))) k (r := mk (bef_27_30 σ k)) ?_ ?_ ?_ rfl
  · unfold bef_27_30
    rw [cpj_0, cpj_0, show σ.2.1 28 = (fS σ 27 0 (σ.1 30 0)).2.1 28 from rfl, wS_self, show σ.2.1 29 = (fS σ 27 0 (σ.1 30 0)).2.1 29 from rfl, wS_self]
    rfl
  · intro j hj
    obtain ⟨a1, a2, a3⟩ := hF.2.2 j hj
    have hj12 : j < 12 := by omega
    dsimp only
    generalize hT : bef_27_30 σ j = τ
    have t0 : τ.1 27 0 = nI k := by rw [← hT]; exact q1
    have t1 : τ.2.1 31 j = σ.2.1 31 j := by rw [← hT]; rfl
    have t2 : (aS τ 28 j (σ.2.1 31 j)).2.1 32 j = b2i (S j) := by rw [← hT]; exact a2
    simp only [c_I, c_R, c_A, c_S, hj12, o_b, t0, t1, t2, b2i_and]
    rw [if_neg (nI_ge hj (by omega)), show nI j + 1 = nI (j + 1) from nI_1 j]
    have e : aS (aS τ 28 j (σ.2.1 31 j)) 29 j (b2i (S j)) = bef_27_30 σ (j + 1) := by
      rw [← hT, ← a2]
      unfold bef_27_30
      rw [← cpj_s (σ.2.1 31) (σ.2.1 28) j, ← cpj_s (σ.2.1 32) (σ.2.1 29) j]
      have e1 : ∀ (τ : St) (a b : Nat → Int32) (v : Int32), aS (wS (wS τ 28 a) 29 b) 28 j v = wS (wS τ 28 (upd a j v)) 29 b := by
        intro τ a b v
        unfold aS wS va_up
        refine congrArg (fun z => (τ.1, z, τ.2.2)) ?_
        funext o
        by_cases h1 : o = 28
        · subst h1; simp
        · simp [h1]
      rw [e1, aS_wS]
    rw [e]
  · have t0 : (bef_27_30 σ k).1 27 0 = nI k := q1
    dsimp only
    simp only [c_I, o_b, t0]
    rw [if_pos (nI_le (Nat.le_refl _) (by omega))]
theorem m_Z {σ : St} (hz : σ.2.2 = true) : qv_pZ (mk σ) 8 45 30 0 = some (mk (fS σ 45 30 0)) ∧ qv_pZ (mk σ) 8 45 30 1 = some (mk (fS σ 45 30 1)) ∧ qv_pZ (mk σ) 8 45 29 1 = some (mk (fS σ 45 29 1)) := by
  unfold qv_pZ
  simp only [m_P hz]
  exact ⟨if_pos (by decide), if_pos (by decide), if_pos (by decide)⟩
theorem c_Z {σ : St} : qv_pZ (mk σ) 7 0 11 1 = some (mk (fS σ 0 11 1)) := by
  unfold qv_pZ
  simp only [c_P]
  exact if_pos (by decide)
/-- what is kept, in its order -/
def KK (σ : St) (i : Nat) : Int32 := if i < 8 then σ.2.1 47 i else if i < 16 then σ.2.1 48 (i - 8) else if i < 22 then σ.2.1 49 (i - 16) else if i < 28 then σ.2.1 50 (i - 22) else if i < 34 then σ.2.1 51 (i - 28) else if i < 40 then σ.2.1 52 (i - 34) else if i < 46 then σ.2.1 53 (i - 40) else if i < 58 then σ.2.1 54 (i - 46) else if i < 70 then σ.2.1 55 (i - 58) else if i = 70 then σ.1 45 8 else if i = 71 then σ.1 45 9 else if i = 72 then σ.1 45 10 else if i = 73 then σ.1 45 11 else if i = 74 then σ.1 45 12 else if i = 75 then σ.1 45 13 else if i = 76 then σ.1 45 14 else σ.1 45 17
def mx_ (σ : St) (c m : Nat) : Nat → Int32 := fun i => if c ≤ i ∧ i < c + m then KK σ (i - c) else σ.2.1 63 i
theorem mx_s (σ : St) (c m : Nat) : upd (mx_ σ c m) (c + m) (KK σ m) = mx_ σ c (m + 1) := by
  funext i
  unfold upd mx_
  by_cases h : i = c + m
  · rw [if_pos h, if_pos (by omega), h, show c + m - c = m by omega]
  · rw [if_neg h]
    by_cases h2 : c ≤ i ∧ i < c + m
    · rw [if_pos h2, if_pos (by omega)]
    · rw [if_neg h2, if_neg (by omega)]
theorem mx_0 (σ : St) (c : Nat) : mx_ σ c 0 = σ.2.1 63 := by
  funext i
  unfold mx_
  rw [if_neg (by omega)]
def kst (σ : St) (c m : Nat) : St := fS (fS (wS σ 63 (mx_ σ c m)) 45 30 1) 45 31 (nI (c + m))
theorem kst_s (σ : St) (c m : Nat) : fS (aS (kst σ c m) 63 (c + m) (KK σ m)) 45 31 (nI (c + m + 1)) = kst σ c (m + 1) := by
  unfold kst
  rw [aS_fS, aS_fS, fS_fS, aS_wS, mx_s]
  rfl
theorem m_keep {σ : St} (hz : σ.2.2 = true) {a n c m : Nat} (ha : tb[a]? = some (.inl (false, n))) (ha63 : a ≠ 63) (hc : c + m + n ≤ 200) (hv : ∀ i, i < n → KK σ (m + i) = σ.2.1 a i) : fX9_passes 45 a (mk (kst σ c m)) = some (mk (kst σ c (m + n))) := by
  unfold fX9_passes
  refine lp_b (fun j => (nI j, mk (kst σ c (m + j)))) n (r := mk (kst σ c (m + n))) rfl ?_ ?_ rfl
  · intro j hj
    dsimp only
    have hk := kst_s σ c (m + j)
    generalize hT : kst σ c (m + j) = τ at hk
    have tz : τ.2.2 = true := by rw [← hT]; exact hz
    have t30 : τ.1 45 30 = 1 := by rw [← hT]; rfl
    have t31 : τ.1 45 31 = nI (c + (m + j)) := by rw [← hT]; rfl
    have tA : τ.2.1 a j = KK σ (m + j) := by
      rw [hv j hj, ← hT]
      show (if a = 63 then _ else σ.2.1 a) j = _
      rw [if_neg ha63]
    have hcj : c + (m + j) < 200 := by omega
    rw [a_L (Or.inr tz) ha, o_b, if_neg (nI_ge hj (by omega)), show nI j + 1 = nI (j + 1) from nI_1 j]
    simp only [m_I tz, m_R tz, o_b, t30, hne, if_false, t31]
    rw [a_I (Or.inr tz) ha (by omega) rfl hj, o_b, tA]
    have z2 : (aS τ 63 (c + (m + j)) (KK σ (m + j))).2.2 = true := tz
    have t32 : (aS τ 63 (c + (m + j)) (KK σ (m + j))).1 45 31 = nI (c + (m + j)) := t31
    simp only [m_S tz, hcj, o_b, m_I z2, t32, m_P z2, nI_1]
    rw [hk]
    rfl
  · dsimp only
    have tz : (kst σ c (m + n)).2.2 = true := hz
    rw [a_L (Or.inr tz) ha, o_b, if_pos (nI_le (Nat.le_refl _) (by omega))]
theorem m_keep1 {σ : St} (hz : σ.2.2 = true) {c m : Nat} {v : Int32} (hc : c + m < 200) (hv : KK σ m = v) : fX9_passOne 45 v (mk (kst σ c m)) = some (v, mk (kst σ c (m + 1))) := by
  have hk := kst_s σ c m
  rw [hv] at hk
  generalize hT : kst σ c m = τ at hk
  have tz : τ.2.2 = true := by rw [← hT]; exact hz
  have t30 : τ.1 45 30 = 1 := by rw [← hT]; rfl
  have t31 : τ.1 45 31 = nI (c + m) := by rw [← hT]; rfl
  have z2 : (aS τ 63 (c + m) v).2.2 = true := tz
  have t32 : (aS τ 63 (c + m) v).1 45 31 = nI (c + m) := t31
  unfold fX9_passOne
  simp only [m_I tz, m_R tz, o_b, t30, hne, if_false, t31, m_S tz, hc, m_I z2, t32, m_P z2, nI_1]
  rw [hk]
theorem m_keepAll {σ : St} (hz : σ.2.2 = true) {w : Nat} (hw : w < 2) : fX9_passesAll 45 (nI w) 1 (mk σ) = some (mk (kst σ (100 * w) 78)) := by
  have e0 : (100 : Int32) * nI w = nI (100 * w) := pk_mul 100 w
  have hk : ∀ m, (kst σ (100 * w) m).2.2 = true := fun _ => hz
  have k0 : fS (fS σ 45 31 (nI (100 * w))) 45 30 1 = kst σ (100 * w) 0 := by
    unfold kst
    rw [mx_0, wS_self]
    unfold fS
    refine congrArg (fun z => (z, σ.2.1, σ.2.2)) ?_
    funext o k
    unfold va_up upd
    by_cases h1 : o = 45
    · subst h1
      simp only [if_true]
      by_cases h2 : k = 30
      · subst h2; simp
      · by_cases h3 : k = 31
        · subst h3; simp
        · simp [h2, h3]
    · simp [h1]
  have z1 : (fS σ 45 31 (nI (100 * w))).2.2 = true := hz
  unfold fX9_passesAll
  simp only [e0, m_P hz, o_b, m_Z z1, k0]
  have p47 : fX9_passes 45 47 (mk (kst σ (100 * w) 0)) = some (mk (kst σ (100 * w) 8)) := m_keep hz (n := 8) rfl (by decide) (by omega) (fun i hi => by
    unfold KK
    rw [if_pos (show 0 + i < 8 by omega)]
    rw [Nat.zero_add])
  have p48 : fX9_passes 45 48 (mk (kst σ (100 * w) 8)) = some (mk (kst σ (100 * w) 16)) := m_keep hz (n := 8) rfl (by decide) (by omega) (fun i hi => by
    unfold KK
    rw [if_neg (show ¬ 8 + i < 8 by omega), if_pos (show 8 + i < 16 by omega)]
    rw [Nat.add_sub_cancel_left])
  have p49 : fX9_passes 45 49 (mk (kst σ (100 * w) 16)) = some (mk (kst σ (100 * w) 22)) := m_keep hz (n := 6) rfl (by decide) (by omega) (fun i hi => by
    unfold KK
    rw [if_neg (show ¬ 16 + i < 8 by omega), if_neg (show ¬ 16 + i < 16 by omega), if_pos (show 16 + i < 22 by omega)]
    rw [Nat.add_sub_cancel_left])
  have p50 : fX9_passes 45 50 (mk (kst σ (100 * w) 22)) = some (mk (kst σ (100 * w) 28)) := m_keep hz (n := 6) rfl (by decide) (by omega) (fun i hi => by
    unfold KK
    rw [if_neg (show ¬ 22 + i < 8 by omega), if_neg (show ¬ 22 + i < 16 by omega), if_neg (show ¬ 22 + i < 22 by omega), if_pos (show 22 + i < 28 by omega)]
    rw [Nat.add_sub_cancel_left])
  have p51 : fX9_passes 45 51 (mk (kst σ (100 * w) 28)) = some (mk (kst σ (100 * w) 34)) := m_keep hz (n := 6) rfl (by decide) (by omega) (fun i hi => by
    unfold KK
    rw [if_neg (show ¬ 28 + i < 8 by omega), if_neg (show ¬ 28 + i < 16 by omega), if_neg (show ¬ 28 + i < 22 by omega), if_neg (show ¬ 28 + i < 28 by omega), if_pos (show 28 + i < 34 by omega)]
    rw [Nat.add_sub_cancel_left])
  have p52 : fX9_passes 45 52 (mk (kst σ (100 * w) 34)) = some (mk (kst σ (100 * w) 40)) := m_keep hz (n := 6) rfl (by decide) (by omega) (fun i hi => by
    unfold KK
    rw [if_neg (show ¬ 34 + i < 8 by omega), if_neg (show ¬ 34 + i < 16 by omega), if_neg (show ¬ 34 + i < 22 by omega), if_neg (show ¬ 34 + i < 28 by omega), if_neg (show ¬ 34 + i < 34 by omega), if_pos (show 34 + i < 40 by omega)]
    rw [Nat.add_sub_cancel_left])
  have p53 : fX9_passes 45 53 (mk (kst σ (100 * w) 40)) = some (mk (kst σ (100 * w) 46)) := m_keep hz (n := 6) rfl (by decide) (by omega) (fun i hi => by
    unfold KK
    rw [if_neg (show ¬ 40 + i < 8 by omega), if_neg (show ¬ 40 + i < 16 by omega), if_neg (show ¬ 40 + i < 22 by omega), if_neg (show ¬ 40 + i < 28 by omega), if_neg (show ¬ 40 + i < 34 by omega), if_neg (show ¬ 40 + i < 40 by omega), if_pos (show 40 + i < 46 by omega)]
    rw [Nat.add_sub_cancel_left])
  have p54 : fX9_passes 45 54 (mk (kst σ (100 * w) 46)) = some (mk (kst σ (100 * w) 58)) := m_keep hz (n := 12) rfl (by decide) (by omega) (fun i hi => by
    unfold KK
    rw [if_neg (show ¬ 46 + i < 8 by omega), if_neg (show ¬ 46 + i < 16 by omega), if_neg (show ¬ 46 + i < 22 by omega), if_neg (show ¬ 46 + i < 28 by omega), if_neg (show ¬ 46 + i < 34 by omega), if_neg (show ¬ 46 + i < 40 by omega), if_neg (show ¬ 46 + i < 46 by omega), if_pos (show 46 + i < 58 by omega)]
    rw [Nat.add_sub_cancel_left])
  have p55 : fX9_passes 45 55 (mk (kst σ (100 * w) 58)) = some (mk (kst σ (100 * w) 70)) := m_keep hz (n := 12) rfl (by decide) (by omega) (fun i hi => by
    unfold KK
    rw [if_neg (show ¬ 58 + i < 8 by omega), if_neg (show ¬ 58 + i < 16 by omega), if_neg (show ¬ 58 + i < 22 by omega), if_neg (show ¬ 58 + i < 28 by omega), if_neg (show ¬ 58 + i < 34 by omega), if_neg (show ¬ 58 + i < 40 by omega), if_neg (show ¬ 58 + i < 46 by omega), if_neg (show ¬ 58 + i < 58 by omega), if_pos (show 58 + i < 70 by omega)]
    rw [Nat.add_sub_cancel_left])
  have r8 : fX9_passOne 45 (σ.1 45 8) (mk (kst σ (100 * w) 70)) = some (σ.1 45 8, mk (kst σ (100 * w) 71)) := m_keep1 hz (by omega) rfl
  have f8 : (kst σ (100 * w) 70).1 45 8 = σ.1 45 8 := rfl
  have s8 : fS (kst σ (100 * w) 71) 45 8 (σ.1 45 8) = kst σ (100 * w) 71 := fS_self (kst σ (100 * w) 71) 45 8
  have r9 : fX9_passOne 45 (σ.1 45 9) (mk (kst σ (100 * w) 71)) = some (σ.1 45 9, mk (kst σ (100 * w) 72)) := m_keep1 hz (by omega) rfl
  have f9 : (kst σ (100 * w) 71).1 45 9 = σ.1 45 9 := rfl
  have s9 : fS (kst σ (100 * w) 72) 45 9 (σ.1 45 9) = kst σ (100 * w) 72 := fS_self (kst σ (100 * w) 72) 45 9
  have r10 : fX9_passOne 45 (σ.1 45 10) (mk (kst σ (100 * w) 72)) = some (σ.1 45 10, mk (kst σ (100 * w) 73)) := m_keep1 hz (by omega) rfl
  have f10 : (kst σ (100 * w) 72).1 45 10 = σ.1 45 10 := rfl
  have s10 : fS (kst σ (100 * w) 73) 45 10 (σ.1 45 10) = kst σ (100 * w) 73 := fS_self (kst σ (100 * w) 73) 45 10
  have r11 : fX9_passOne 45 (σ.1 45 11) (mk (kst σ (100 * w) 73)) = some (σ.1 45 11, mk (kst σ (100 * w) 74)) := m_keep1 hz (by omega) rfl
  have f11 : (kst σ (100 * w) 73).1 45 11 = σ.1 45 11 := rfl
  have s11 : fS (kst σ (100 * w) 74) 45 11 (σ.1 45 11) = kst σ (100 * w) 74 := fS_self (kst σ (100 * w) 74) 45 11
  have r12 : fX9_passOne 45 (σ.1 45 12) (mk (kst σ (100 * w) 74)) = some (σ.1 45 12, mk (kst σ (100 * w) 75)) := m_keep1 hz (by omega) rfl
  have f12 : (kst σ (100 * w) 74).1 45 12 = σ.1 45 12 := rfl
  have s12 : fS (kst σ (100 * w) 75) 45 12 (σ.1 45 12) = kst σ (100 * w) 75 := fS_self (kst σ (100 * w) 75) 45 12
  have r13 : fX9_passOne 45 (σ.1 45 13) (mk (kst σ (100 * w) 75)) = some (σ.1 45 13, mk (kst σ (100 * w) 76)) := m_keep1 hz (by omega) rfl
  have f13 : (kst σ (100 * w) 75).1 45 13 = σ.1 45 13 := rfl
  have s13 : fS (kst σ (100 * w) 76) 45 13 (σ.1 45 13) = kst σ (100 * w) 76 := fS_self (kst σ (100 * w) 76) 45 13
  have r14 : fX9_passOne 45 (σ.1 45 14) (mk (kst σ (100 * w) 76)) = some (σ.1 45 14, mk (kst σ (100 * w) 77)) := m_keep1 hz (by omega) rfl
  have f14 : (kst σ (100 * w) 76).1 45 14 = σ.1 45 14 := rfl
  have s14 : fS (kst σ (100 * w) 77) 45 14 (σ.1 45 14) = kst σ (100 * w) 77 := fS_self (kst σ (100 * w) 77) 45 14
  have r17 : fX9_passOne 45 (σ.1 45 17) (mk (kst σ (100 * w) 77)) = some (σ.1 45 17, mk (kst σ (100 * w) 78)) := m_keep1 hz (by omega) rfl
  have f17 : (kst σ (100 * w) 77).1 45 17 = σ.1 45 17 := rfl
  have s17 : fS (kst σ (100 * w) 78) 45 17 (σ.1 45 17) = kst σ (100 * w) 78 := fS_self (kst σ (100 * w) 78) 45 17
  simp only [m_R (hk _), m_O (hk _), m_I (hk _), m_P (hk _), o_b, p47, p48, p49, p50, p51, p52, p53, p54, p55, r8, f8, s8, r9, f9, s9, r10, f10, s10, r11, f11, s11, r12, f12, s12, r13, f13, s13, r14, f14, s14, r17, f17, s17]
