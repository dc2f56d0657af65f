/-! ===== 61: land: the reference's statements ===== -/
theorem fi_c (p : Nat → Bool) : ∀ n, fi p (n + 1) = if p 0 = true then 0 else fi (fun j => p (j + 1)) n + 1
  | 0 => by
    show (if (0 : Nat) < 0 then 0 else if p 0 then 0 else 0 + 1) = if p 0 = true then 0 else 0 + 1
    rw [if_neg (by decide)]
  | n + 1 => by
    have ih := fi_c p n
    show (if fi p (n + 1) < n + 1 then fi p (n + 1) else if p (n + 1) then n + 1 else n + 1 + 1) = if p 0 = true then 0 else (if fi (fun j => p (j + 1)) n < n then fi (fun j => p (j + 1)) n else if p (n + 1) then n else n + 1) + 1
    rw [ih]
    by_cases h : p 0 = true
    · rw [if_pos h, if_pos h, if_pos (by omega)]
    · rw [if_neg h, if_neg h]
      by_cases h2 : fi (fun j => p (j + 1)) n < n
      · rw [if_pos h2, if_pos (by omega)]
      · rw [if_neg h2, if_neg (by omega)]
        split <;> rfl
def ent (c : Nat → Nat) (A : Nat → Nat → Int32) (k a : Nat) : Prop := A 57 k = nI (c a) ∧ A 58 k = nI a ∧ (c a ≠ 102 → A 59 k = nI (c (a + 1) - 48)) ∧ (c a = 114 ∨ c a = 108 ∨ c a = 105 → A 60 k = nI (c (a + 2) - 48)) ∧ (c a = 115 → A 60 k = nI (kdx (c (a + 2)))) ∧ (c a = 105 ∨ c a = 115 → A 61 k = nI (c (a + 3) - 48)) ∧ (c a = 115 → A 62 k = nI (c (a + 4) - 48))
theorem dg_no : ∀ x, x < 256 → lnn x = 0 → fX9_digitsOf (nI x) = some (-1) := by decide +kernel
section ST
variable {σ : St} {A : Nat → Nat → Int32} {c : Nat → Nat} {t k a : Nat}
theorem tok_d (hT : TxB (σ.1 45 25) (σ.2.1 56) c t) {j d : Nat} (h : (frm (c a)).getD j 0 = d) (hd : sut d 0 = false) : tok c t a j = sut d (c (a + j)) := by
  unfold tok
  rw [h]
  by_cases hj : a + j < t
  · rw [decide_eq_true hj, Bool.true_and]
  · rw [decide_eq_false hj, hT.2.2.2.2 _ (by omega), hd]
    rfl
theorem stmt_no (hz : σ.2.2 = true) (hT : TxB (σ.1 45 25) (σ.2.1 56) c t) (ha : a ≤ t) (hl : lnn (c a) = 0) : fX9_statement 45 (mk (pst σ (nI a) (nI k) A)) = some (b2i (gd c t a), mk (pst σ (nI (a + mt c t a)) (nI k) A)) := by
  have ht := hT.2.1
  have hm : mt c t a = 0 := by
    have : mt c t a ≤ lnn (c a) := fi_le _ _
    omega
  have hg : gd c t a = false := decide_eq_false (fun z => by omega)
  have hd : fX9_digitsOf (if a < t then nI (c a) else -1) = some (-1) := by
    by_cases h : a < t
    · rw [if_pos h]
      exact dg_no _ (hT.2.2.2.1 a) hl
    · rw [if_neg h]
      decide
  rw [hm, hg]
  unfold fX9_statement
  simp only [pz_I hz, pz_O hz, o_b, p_next hz hT (show a ≤ 1000 by omega), hd, le_m1, if_false]
  rfl
theorem mt_102 (hT : TxB (σ.1 45 25) (σ.2.1 56) c t) (hx : c a = 102) (hat : a < t) : lnn (c a) = 2 ∧ mt c t a = (if sut 59 (c (a + 1)) = true then 2 else 1) := by
  have hl : lnn (c a) = 2 := by rw [hx]; rfl
  refine ⟨hl, ?_⟩
  have t0 : tok c t a 0 = true := by unfold tok; rw [Nat.add_zero, hx, decide_eq_true hat]; rfl
  have t1 : tok c t a 1 = sut 59 (c (a + 1)) := tok_d hT (by rw [hx]; rfl) (by decide)
  unfold mt
  rw [hl, fi_c, fi_c]
  simp only [Nat.reduceAdd, Nat.zero_add, t0, t1, fi]
  cases sut 59 (c (a + 1)) <;> rfl
theorem mt_110 (hT : TxB (σ.1 45 25) (σ.2.1 56) c t) (hx : c a = 110) (hat : a < t) : lnn (c a) = 3 ∧ mt c t a = (if sut 100 (c (a + 1)) = true then (if sut 59 (c (a + 1 + 1)) = true then 3 else 2) else 1) := by
  have hl : lnn (c a) = 3 := by rw [hx]; rfl
  refine ⟨hl, ?_⟩
  have t0 : tok c t a 0 = true := by unfold tok; rw [Nat.add_zero, hx, decide_eq_true hat]; rfl
  have t1 : tok c t a 1 = sut 100 (c (a + 1)) := tok_d hT (by rw [hx]; rfl) (by decide)
  have t2 : tok c t a 2 = sut 59 (c (a + 1 + 1)) := tok_d hT (by rw [hx]; rfl) (by decide)
  unfold mt
  rw [hl, fi_c, fi_c, fi_c]
  simp only [Nat.reduceAdd, Nat.zero_add, t0, t1, t2, fi]
  cases sut 100 (c (a + 1)) <;> cases sut 59 (c (a + 1 + 1)) <;> rfl
theorem mt_114 (hT : TxB (σ.1 45 25) (σ.2.1 56) c t) (hx : c a = 114) (hat : a < t) : lnn (c a) = 4 ∧ mt c t a = (if sut 100 (c (a + 1)) = true then (if sut 100 (c (a + 1 + 1)) = true then (if sut 59 (c (a + 1 + 1 + 1)) = true then 4 else 3) else 2) else 1) := by
  have hl : lnn (c a) = 4 := by rw [hx]; rfl
  refine ⟨hl, ?_⟩
  have t0 : tok c t a 0 = true := by unfold tok; rw [Nat.add_zero, hx, decide_eq_true hat]; rfl
  have t1 : tok c t a 1 = sut 100 (c (a + 1)) := tok_d hT (by rw [hx]; rfl) (by decide)
  have t2 : tok c t a 2 = sut 100 (c (a + 1 + 1)) := tok_d hT (by rw [hx]; rfl) (by decide)
  have t3 : tok c t a 3 = sut 59 (c (a + 1 + 1 + 1)) := tok_d hT (by rw [hx]; rfl) (by decide)
  unfold mt
  rw [hl, fi_c, fi_c, fi_c, fi_c]
  simp only [Nat.reduceAdd, Nat.zero_add, t0, t1, t2, t3, fi]
  cases sut 100 (c (a + 1)) <;> cases sut 100 (c (a + 1 + 1)) <;> cases sut 59 (c (a + 1 + 1 + 1)) <;> rfl
theorem mt_108 (hT : TxB (σ.1 45 25) (σ.2.1 56) c t) (hx : c a = 108) (hat : a < t) : lnn (c a) = 4 ∧ mt c t a = (if sut 100 (c (a + 1)) = true then (if sut 100 (c (a + 1 + 1)) = true then (if sut 59 (c (a + 1 + 1 + 1)) = true then 4 else 3) else 2) else 1) := by
  have hl : lnn (c a) = 4 := by rw [hx]; rfl
  refine ⟨hl, ?_⟩
  have t0 : tok c t a 0 = true := by unfold tok; rw [Nat.add_zero, hx, decide_eq_true hat]; rfl
  have t1 : tok c t a 1 = sut 100 (c (a + 1)) := tok_d hT (by rw [hx]; rfl) (by decide)
  have t2 : tok c t a 2 = sut 100 (c (a + 1 + 1)) := tok_d hT (by rw [hx]; rfl) (by decide)
  have t3 : tok c t a 3 = sut 59 (c (a + 1 + 1 + 1)) := tok_d hT (by rw [hx]; rfl) (by decide)
  unfold mt
  rw [hl, fi_c, fi_c, fi_c, fi_c]
  simp only [Nat.reduceAdd, Nat.zero_add, t0, t1, t2, t3, fi]
  cases sut 100 (c (a + 1)) <;> cases sut 100 (c (a + 1 + 1)) <;> cases sut 59 (c (a + 1 + 1 + 1)) <;> rfl
theorem mt_105 (hT : TxB (σ.1 45 25) (σ.2.1 56) c t) (hx : c a = 105) (hat : a < t) : lnn (c a) = 5 ∧ mt c t a = (if sut 100 (c (a + 1)) = true then (if sut 100 (c (a + 1 + 1)) = true then (if sut 100 (c (a + 1 + 1 + 1)) = true then (if sut 59 (c (a + 1 + 1 + 1 + 1)) = true then 5 else 4) else 3) else 2) else 1) := by
  have hl : lnn (c a) = 5 := by rw [hx]; rfl
  refine ⟨hl, ?_⟩
  have t0 : tok c t a 0 = true := by unfold tok; rw [Nat.add_zero, hx, decide_eq_true hat]; rfl
  have t1 : tok c t a 1 = sut 100 (c (a + 1)) := tok_d hT (by rw [hx]; rfl) (by decide)
  have t2 : tok c t a 2 = sut 100 (c (a + 1 + 1)) := tok_d hT (by rw [hx]; rfl) (by decide)
  have t3 : tok c t a 3 = sut 100 (c (a + 1 + 1 + 1)) := tok_d hT (by rw [hx]; rfl) (by decide)
  have t4 : tok c t a 4 = sut 59 (c (a + 1 + 1 + 1 + 1)) := tok_d hT (by rw [hx]; rfl) (by decide)
  unfold mt
  rw [hl, fi_c, fi_c, fi_c, fi_c, fi_c]
  simp only [Nat.reduceAdd, Nat.zero_add, t0, t1, t2, t3, t4, fi]
  cases sut 100 (c (a + 1)) <;> cases sut 100 (c (a + 1 + 1)) <;> cases sut 100 (c (a + 1 + 1 + 1)) <;> cases sut 59 (c (a + 1 + 1 + 1 + 1)) <;> rfl
theorem mt_115 (hT : TxB (σ.1 45 25) (σ.2.1 56) c t) (hx : c a = 115) (hat : a < t) : lnn (c a) = 6 ∧ mt c t a = (if sut 100 (c (a + 1)) = true then (if sut 107 (c (a + 1 + 1)) = true then (if sut 100 (c (a + 1 + 1 + 1)) = true then (if sut 100 (c (a + 1 + 1 + 1 + 1)) = true then (if sut 59 (c (a + 1 + 1 + 1 + 1 + 1)) = true then 6 else 5) else 4) else 3) else 2) else 1) := by
  have hl : lnn (c a) = 6 := by rw [hx]; rfl
  refine ⟨hl, ?_⟩
  have t0 : tok c t a 0 = true := by unfold tok; rw [Nat.add_zero, hx, decide_eq_true hat]; rfl
  have t1 : tok c t a 1 = sut 100 (c (a + 1)) := tok_d hT (by rw [hx]; rfl) (by decide)
  have t2 : tok c t a 2 = sut 107 (c (a + 1 + 1)) := tok_d hT (by rw [hx]; rfl) (by decide)
  have t3 : tok c t a 3 = sut 100 (c (a + 1 + 1 + 1)) := tok_d hT (by rw [hx]; rfl) (by decide)
  have t4 : tok c t a 4 = sut 100 (c (a + 1 + 1 + 1 + 1)) := tok_d hT (by rw [hx]; rfl) (by decide)
  have t5 : tok c t a 5 = sut 59 (c (a + 1 + 1 + 1 + 1 + 1)) := tok_d hT (by rw [hx]; rfl) (by decide)
  unfold mt
  rw [hl, fi_c, fi_c, fi_c, fi_c, fi_c, fi_c]
  simp only [Nat.reduceAdd, Nat.zero_add, t0, t1, t2, t3, t4, t5, fi]
  cases sut 100 (c (a + 1)) <;> cases sut 107 (c (a + 1 + 1)) <;> cases sut 100 (c (a + 1 + 1 + 1)) <;> cases sut 100 (c (a + 1 + 1 + 1 + 1)) <;> cases sut 59 (c (a + 1 + 1 + 1 + 1 + 1)) <;> rfl
theorem stmt_102 (hz : σ.2.2 = true) (hT : TxB (σ.1 45 25) (σ.2.1 56) c t) (hk : k < 41) (hx : c a = 102) (hat : a < t) : ∃ A', fX9_statement 45 (mk (pst σ (nI a) (nI k) A)) = some (b2i (gd c t a), mk (pst σ (nI (a + mt c t a)) (nI k) A')) ∧ (∀ p i, i ≠ k → A' p i = A p i) ∧ (gd c t a = true → ent c A' k a) := by
  have ht := hT.2.1
  obtain ⟨hl, hm⟩ := mt_102 hT hx hat
  have hd : fX9_digitsOf (nI (c a)) = some 0 := by rw [hx]; rfl
  unfold fX9_statement
  simp only [pz_I hz, pz_O hz, o_b, p_next hz hT (show a ≤ 1000 by omega), hat, if_true, hd, show (0 : Int32) ≤ 0 by decide, pz_R hz, pz_S hz hk, nI_1, pz_P hz, show ¬ ((0 : Int32) = 4) by decide, if_false]
  generalize hA2 : uB (uB A 57 k (nI (c a))) 58 k (nI a) = A2
  have fr2 : ∀ p i, i ≠ k → A2 p i = A p i := fun p i hi => by rw [← hA2]; simp only [uB_i hi]
  obtain ⟨v, hv, hv2⟩ := p_semi (s := nI k) (A := _) hz hT (show a + 1 ≤ 1000 by omega)
  simp only [p_rd0 hz hk, o_b, hne, if_false, pz_O hz]
  rw [hv, o_b]
  cases d1 : sut 59 (c (a + 1)) with
  | false =>
    have hm2 : mt c t a = 1 := by rw [hm]; simp only [d1, if_true, if_false, Bool.false_eq_true]
    have hg : gd c t a = false := decide_eq_false (fun z => by omega)
    rw [hm2, hg, if_neg (fun z => by rw [hv2.mp z] at d1; cases d1)]
    exact ⟨_, rfl, fun p i hi => by simp only [uB_i hi, fr2 p i hi], fun z => by cases z⟩
  | true =>
    have hm2 : mt c t a = 2 := by rw [hm]; simp only [d1, if_true]
    have hg : gd c t a = true := decide_eq_true ⟨by omega, by omega⟩
    rw [hm2, hg, if_pos (hv2.mpr d1)]
    simp only [pz_I hz, pz_P hz, o_b, nI_1]
    refine ⟨_, rfl, fun p i hi => by simp only [uB_i hi, fr2 p i hi], fun _ => ?_⟩
    rw [← hA2]
    refine ⟨?_, ?_, ?_, ?_, ?_, ?_, ?_⟩
    · simp [uB_s, uB_o]
    · simp [uB_s, uB_o]
    · intro h; first | omega | simp [uB_s, uB_o]
    · intro h; first | omega | simp [uB_s, uB_o]
    · intro h; first | omega | simp [uB_s, uB_o]
    · intro h; first | omega | simp [uB_s, uB_o]
    · intro h; first | omega | simp [uB_s, uB_o]
theorem stmt_110 (hz : σ.2.2 = true) (hT : TxB (σ.1 45 25) (σ.2.1 56) c t) (hk : k < 41) (hx : c a = 110) (hat : a < t) : ∃ A', fX9_statement 45 (mk (pst σ (nI a) (nI k) A)) = some (b2i (gd c t a), mk (pst σ (nI (a + mt c t a)) (nI k) A')) ∧ (∀ p i, i ≠ k → A' p i = A p i) ∧ (gd c t a = true → ent c A' k a) := by
  have ht := hT.2.1
  obtain ⟨hl, hm⟩ := mt_110 hT hx hat
  have hd : fX9_digitsOf (nI (c a)) = some 1 := by rw [hx]; rfl
  unfold fX9_statement
  simp only [pz_I hz, pz_O hz, o_b, p_next hz hT (show a ≤ 1000 by omega), hat, if_true, hd, show (0 : Int32) ≤ 1 by decide, pz_R hz, pz_S hz hk, nI_1, pz_P hz, show ¬ ((1 : Int32) = 4) by decide, if_false]
  generalize hA2 : uB (uB A 57 k (nI (c a))) 58 k (nI a) = A2
  have fr2 : ∀ p i, i ≠ k → A2 p i = A p i := fun p i hi => by rw [← hA2]; simp only [uB_i hi]
  cases d1 : sut 100 (c (a + 1)) with
  | false =>
    have hm2 : mt c t a = 1 := by rw [hm]; simp only [d1, if_true, if_false, Bool.false_eq_true]
    have hg : gd c t a = false := decide_eq_false (fun z => by omega)
    rw [hm2, hg]
    simp only [p_rd1f hz hT hk (show a + 1 + 1 ≤ 1000 by omega) d1, o_b, if_true]
    exact ⟨_, rfl, fun p i hi => by simp only [uB_i hi, fr2 p i hi], fun z => by cases z⟩
  | true =>
    obtain ⟨v, hv, hv2⟩ := p_semi (s := nI k) (A := _) hz hT (show a + 1 + 1 ≤ 1000 by omega)
    simp only [p_rd1t hz hT hk (show a + 1 + 1 ≤ 1000 by omega) d1, o_b, hne, if_false, pz_O hz]
    rw [hv, o_b]
    cases d2 : sut 59 (c (a + 1 + 1)) with
    | false =>
      have hm2 : mt c t a = 2 := by rw [hm]; simp only [d1, d2, if_true, if_false, Bool.false_eq_true]
      have hg : gd c t a = false := decide_eq_false (fun z => by omega)
      rw [hm2, hg, if_neg (fun z => by rw [hv2.mp z] at d2; cases d2)]
      exact ⟨_, rfl, fun p i hi => by simp only [uB_i hi, fr2 p i hi], fun z => by cases z⟩
    | true =>
      have hm2 : mt c t a = 3 := by rw [hm]; simp only [d1, d2, if_true]
      have hg : gd c t a = true := decide_eq_true ⟨by omega, by omega⟩
      rw [hm2, hg, if_pos (hv2.mpr d2)]
      simp only [pz_I hz, pz_P hz, o_b, nI_1]
      refine ⟨_, rfl, fun p i hi => by simp only [uB_i hi, fr2 p i hi], fun _ => ?_⟩
      rw [← hA2]
      refine ⟨?_, ?_, ?_, ?_, ?_, ?_, ?_⟩
      · simp [uB_s, uB_o]
      · simp [uB_s, uB_o]
      · intro h; first | omega | simp [uB_s, uB_o]
      · intro h; first | omega | simp [uB_s, uB_o]
      · intro h; first | omega | simp [uB_s, uB_o]
      · intro h; first | omega | simp [uB_s, uB_o]
      · intro h; first | omega | simp [uB_s, uB_o]
theorem stmt_114 (hz : σ.2.2 = true) (hT : TxB (σ.1 45 25) (σ.2.1 56) c t) (hk : k < 41) (hx : c a = 114) (hat : a < t) : ∃ A', fX9_statement 45 (mk (pst σ (nI a) (nI k) A)) = some (b2i (gd c t a), mk (pst σ (nI (a + mt c t a)) (nI k) A')) ∧ (∀ p i, i ≠ k → A' p i = A p i) ∧ (gd c t a = true → ent c A' k a) := by
  have ht := hT.2.1
  obtain ⟨hl, hm⟩ := mt_114 hT hx hat
  have hd : fX9_digitsOf (nI (c a)) = some 2 := by rw [hx]; rfl
  unfold fX9_statement
  simp only [pz_I hz, pz_O hz, o_b, p_next hz hT (show a ≤ 1000 by omega), hat, if_true, hd, show (0 : Int32) ≤ 2 by decide, pz_R hz, pz_S hz hk, nI_1, pz_P hz, show ¬ ((2 : Int32) = 4) by decide, if_false]
  generalize hA2 : uB (uB A 57 k (nI (c a))) 58 k (nI a) = A2
  have fr2 : ∀ p i, i ≠ k → A2 p i = A p i := fun p i hi => by rw [← hA2]; simp only [uB_i hi]
  cases d1 : sut 100 (c (a + 1)) with
  | false =>
    have hm2 : mt c t a = 1 := by rw [hm]; simp only [d1, if_true, if_false, Bool.false_eq_true]
    have hg : gd c t a = false := decide_eq_false (fun z => by omega)
    rw [hm2, hg]
    simp only [p_rd2f hz hT hk (show a + 1 + 2 ≤ 1000 by omega) d1, o_b, if_true]
    exact ⟨_, rfl, fun p i hi => by simp only [uB_i hi, fr2 p i hi], fun z => by cases z⟩
  | true =>
    cases d2 : sut 100 (c (a + 1 + 1)) with
    | false =>
      have hm2 : mt c t a = 2 := by rw [hm]; simp only [d1, d2, if_true, if_false, Bool.false_eq_true]
      have hg : gd c t a = false := decide_eq_false (fun z => by omega)
      rw [hm2, hg]
      simp only [p_rd2tf hz hT hk (show a + 1 + 2 ≤ 1000 by omega) d1 d2, o_b, if_true]
      exact ⟨_, rfl, fun p i hi => by simp only [uB_i hi, fr2 p i hi], fun z => by cases z⟩
    | true =>
      obtain ⟨v, hv, hv2⟩ := p_semi (s := nI k) (A := _) hz hT (show a + 1 + 1 + 1 ≤ 1000 by omega)
      simp only [p_rd2t hz hT hk (show a + 1 + 2 ≤ 1000 by omega) d1 d2, o_b, hne, if_false, pz_O hz]
      rw [hv, o_b]
      cases d3 : sut 59 (c (a + 1 + 1 + 1)) with
      | false =>
        have hm2 : mt c t a = 3 := by rw [hm]; simp only [d1, d2, d3, if_true, if_false, Bool.false_eq_true]
        have hg : gd c t a = false := decide_eq_false (fun z => by omega)
        rw [hm2, hg, if_neg (fun z => by rw [hv2.mp z] at d3; cases d3)]
        exact ⟨_, rfl, fun p i hi => by simp only [uB_i hi, fr2 p i hi], fun z => by cases z⟩
      | true =>
        have hm2 : mt c t a = 4 := by rw [hm]; simp only [d1, d2, d3, if_true]
        have hg : gd c t a = true := decide_eq_true ⟨by omega, by omega⟩
        rw [hm2, hg, if_pos (hv2.mpr d3)]
        simp only [pz_I hz, pz_P hz, o_b, nI_1]
        refine ⟨_, rfl, fun p i hi => by simp only [uB_i hi, fr2 p i hi], fun _ => ?_⟩
        rw [← hA2]
        refine ⟨?_, ?_, ?_, ?_, ?_, ?_, ?_⟩
        · simp [uB_s, uB_o]
        · simp [uB_s, uB_o]
        · intro h; first | omega | simp [uB_s, uB_o]
        · intro h; first | omega | simp [uB_s, uB_o]
        · intro h; first | omega | simp [uB_s, uB_o]
        · intro h; first | omega | simp [uB_s, uB_o]
        · intro h; first | omega | simp [uB_s, uB_o]
theorem stmt_108 (hz : σ.2.2 = true) (hT : TxB (σ.1 45 25) (σ.2.1 56) c t) (hk : k < 41) (hx : c a = 108) (hat : a < t) : ∃ A', fX9_statement 45 (mk (pst σ (nI a) (nI k) A)) = some (b2i (gd c t a), mk (pst σ (nI (a + mt c t a)) (nI k) A')) ∧ (∀ p i, i ≠ k → A' p i = A p i) ∧ (gd c t a = true → ent c A' k a) := by
  have ht := hT.2.1
  obtain ⟨hl, hm⟩ := mt_108 hT hx hat
  have hd : fX9_digitsOf (nI (c a)) = some 2 := by rw [hx]; rfl
  unfold fX9_statement
  simp only [pz_I hz, pz_O hz, o_b, p_next hz hT (show a ≤ 1000 by omega), hat, if_true, hd, show (0 : Int32) ≤ 2 by decide, pz_R hz, pz_S hz hk, nI_1, pz_P hz, show ¬ ((2 : Int32) = 4) by decide, if_false]
  generalize hA2 : uB (uB A 57 k (nI (c a))) 58 k (nI a) = A2
  have fr2 : ∀ p i, i ≠ k → A2 p i = A p i := fun p i hi => by rw [← hA2]; simp only [uB_i hi]
  cases d1 : sut 100 (c (a + 1)) with
  | false =>
    have hm2 : mt c t a = 1 := by rw [hm]; simp only [d1, if_true, if_false, Bool.false_eq_true]
    have hg : gd c t a = false := decide_eq_false (fun z => by omega)
    rw [hm2, hg]
    simp only [p_rd2f hz hT hk (show a + 1 + 2 ≤ 1000 by omega) d1, o_b, if_true]
    exact ⟨_, rfl, fun p i hi => by simp only [uB_i hi, fr2 p i hi], fun z => by cases z⟩
  | true =>
    cases d2 : sut 100 (c (a + 1 + 1)) with
    | false =>
      have hm2 : mt c t a = 2 := by rw [hm]; simp only [d1, d2, if_true, if_false, Bool.false_eq_true]
      have hg : gd c t a = false := decide_eq_false (fun z => by omega)
      rw [hm2, hg]
      simp only [p_rd2tf hz hT hk (show a + 1 + 2 ≤ 1000 by omega) d1 d2, o_b, if_true]
      exact ⟨_, rfl, fun p i hi => by simp only [uB_i hi, fr2 p i hi], fun z => by cases z⟩
    | true =>
      obtain ⟨v, hv, hv2⟩ := p_semi (s := nI k) (A := _) hz hT (show a + 1 + 1 + 1 ≤ 1000 by omega)
      simp only [p_rd2t hz hT hk (show a + 1 + 2 ≤ 1000 by omega) d1 d2, o_b, hne, if_false, pz_O hz]
      rw [hv, o_b]
      cases d3 : sut 59 (c (a + 1 + 1 + 1)) with
      | false =>
        have hm2 : mt c t a = 3 := by rw [hm]; simp only [d1, d2, d3, if_true, if_false, Bool.false_eq_true]
        have hg : gd c t a = false := decide_eq_false (fun z => by omega)
        rw [hm2, hg, if_neg (fun z => by rw [hv2.mp z] at d3; cases d3)]
        exact ⟨_, rfl, fun p i hi => by simp only [uB_i hi, fr2 p i hi], fun z => by cases z⟩
      | true =>
        have hm2 : mt c t a = 4 := by rw [hm]; simp only [d1, d2, d3, if_true]
        have hg : gd c t a = true := decide_eq_true ⟨by omega, by omega⟩
        rw [hm2, hg, if_pos (hv2.mpr d3)]
        simp only [pz_I hz, pz_P hz, o_b, nI_1]
        refine ⟨_, rfl, fun p i hi => by simp only [uB_i hi, fr2 p i hi], fun _ => ?_⟩
        rw [← hA2]
        refine ⟨?_, ?_, ?_, ?_, ?_, ?_, ?_⟩
        · simp [uB_s, uB_o]
        · simp [uB_s, uB_o]
        · intro h; first | omega | simp [uB_s, uB_o]
        · intro h; first | omega | simp [uB_s, uB_o]
        · intro h; first | omega | simp [uB_s, uB_o]
        · intro h; first | omega | simp [uB_s, uB_o]
        · intro h; first | omega | simp [uB_s, uB_o]
theorem stmt_105 (hz : σ.2.2 = true) (hT : TxB (σ.1 45 25) (σ.2.1 56) c t) (hk : k < 41) (hx : c a = 105) (hat : a < t) : ∃ A', fX9_statement 45 (mk (pst σ (nI a) (nI k) A)) = some (b2i (gd c t a), mk (pst σ (nI (a + mt c t a)) (nI k) A')) ∧ (∀ p i, i ≠ k → A' p i = A p i) ∧ (gd c t a = true → ent c A' k a) := by
  have ht := hT.2.1
  obtain ⟨hl, hm⟩ := mt_105 hT hx hat
  have hd : fX9_digitsOf (nI (c a)) = some 3 := by rw [hx]; rfl
  unfold fX9_statement
  simp only [pz_I hz, pz_O hz, o_b, p_next hz hT (show a ≤ 1000 by omega), hat, if_true, hd, show (0 : Int32) ≤ 3 by decide, pz_R hz, pz_S hz hk, nI_1, pz_P hz, show ¬ ((3 : Int32) = 4) by decide, if_false]
  generalize hA2 : uB (uB A 57 k (nI (c a))) 58 k (nI a) = A2
  have fr2 : ∀ p i, i ≠ k → A2 p i = A p i := fun p i hi => by rw [← hA2]; simp only [uB_i hi]
  cases d1 : sut 100 (c (a + 1)) with
  | false =>
    have hm2 : mt c t a = 1 := by rw [hm]; simp only [d1, if_true, if_false, Bool.false_eq_true]
    have hg : gd c t a = false := decide_eq_false (fun z => by omega)
    rw [hm2, hg]
    simp only [p_rd3f hz hT hk (show a + 1 + 3 ≤ 1000 by omega) d1, o_b, if_true]
    exact ⟨_, rfl, fun p i hi => by simp only [uB_i hi, fr2 p i hi], fun z => by cases z⟩
  | true =>
    cases d2 : sut 100 (c (a + 1 + 1)) with
    | false =>
      have hm2 : mt c t a = 2 := by rw [hm]; simp only [d1, d2, if_true, if_false, Bool.false_eq_true]
      have hg : gd c t a = false := decide_eq_false (fun z => by omega)
      rw [hm2, hg]
      simp only [p_rd3tf hz hT hk (show a + 1 + 3 ≤ 1000 by omega) d1 d2, o_b, if_true]
      exact ⟨_, rfl, fun p i hi => by simp only [uB_i hi, fr2 p i hi], fun z => by cases z⟩
    | true =>
      cases d3 : sut 100 (c (a + 1 + 1 + 1)) with
      | false =>
        have hm2 : mt c t a = 3 := by rw [hm]; simp only [d1, d2, d3, if_true, if_false, Bool.false_eq_true]
        have hg : gd c t a = false := decide_eq_false (fun z => by omega)
        rw [hm2, hg]
        simp only [p_rd3ttf hz hT hk (show a + 1 + 3 ≤ 1000 by omega) d1 d2 d3, o_b, if_true]
        exact ⟨_, rfl, fun p i hi => by simp only [uB_i hi, fr2 p i hi], fun z => by cases z⟩
      | true =>
        obtain ⟨v, hv, hv2⟩ := p_semi (s := nI k) (A := _) hz hT (show a + 1 + 1 + 1 + 1 ≤ 1000 by omega)
        simp only [p_rd3t hz hT hk (show a + 1 + 3 ≤ 1000 by omega) d1 d2 d3, o_b, hne, if_false, pz_O hz]
        rw [hv, o_b]
        cases d4 : sut 59 (c (a + 1 + 1 + 1 + 1)) with
        | false =>
          have hm2 : mt c t a = 4 := by rw [hm]; simp only [d1, d2, d3, d4, if_true, if_false, Bool.false_eq_true]
          have hg : gd c t a = false := decide_eq_false (fun z => by omega)
          rw [hm2, hg, if_neg (fun z => by rw [hv2.mp z] at d4; cases d4)]
          exact ⟨_, rfl, fun p i hi => by simp only [uB_i hi, fr2 p i hi], fun z => by cases z⟩
        | true =>
          have hm2 : mt c t a = 5 := by rw [hm]; simp only [d1, d2, d3, d4, if_true]
          have hg : gd c t a = true := decide_eq_true ⟨by omega, by omega⟩
          rw [hm2, hg, if_pos (hv2.mpr d4)]
          simp only [pz_I hz, pz_P hz, o_b, nI_1]
          refine ⟨_, rfl, fun p i hi => by simp only [uB_i hi, fr2 p i hi], fun _ => ?_⟩
          rw [← hA2]
          refine ⟨?_, ?_, ?_, ?_, ?_, ?_, ?_⟩
          · simp [uB_s, uB_o]
          · simp [uB_s, uB_o]
          · intro h; first | omega | simp [uB_s, uB_o]
          · intro h; first | omega | simp [uB_s, uB_o]
          · intro h; first | omega | simp [uB_s, uB_o]
          · intro h; first | omega | simp [uB_s, uB_o]
          · intro h; first | omega | simp [uB_s, uB_o]
theorem stmt_115 (hz : σ.2.2 = true) (hT : TxB (σ.1 45 25) (σ.2.1 56) c t) (hk : k < 41) (hx : c a = 115) (hat : a < t) : ∃ A', fX9_statement 45 (mk (pst σ (nI a) (nI k) A)) = some (b2i (gd c t a), mk (pst σ (nI (a + mt c t a)) (nI k) A')) ∧ (∀ p i, i ≠ k → A' p i = A p i) ∧ (gd c t a = true → ent c A' k a) := by
  have ht := hT.2.1
  obtain ⟨hl, hm⟩ := mt_115 hT hx hat
  have hd : fX9_digitsOf (nI (c a)) = some 4 := by rw [hx]; rfl
  unfold fX9_statement
  simp only [pz_I hz, pz_O hz, o_b, p_next hz hT (show a ≤ 1000 by omega), hat, if_true, hd, show (0 : Int32) ≤ 4 by decide, pz_R hz, pz_S hz hk, nI_1, pz_P hz, show ((4 : Int32) = 4) by decide, if_false]
  generalize hA2 : uB (uB A 57 k (nI (c a))) 58 k (nI a) = A2
  have fr2 : ∀ p i, i ≠ k → A2 p i = A p i := fun p i hi => by rw [← hA2]; simp only [uB_i hi]
  cases d1 : sut 100 (c (a + 1)) with
  | false =>
    have hm2 : mt c t a = 1 := by rw [hm]; simp only [d1, if_true, if_false, Bool.false_eq_true]
    have hg : gd c t a = false := decide_eq_false (fun z => by omega)
    rw [hm2, hg]
    simp only [p_rsf hz hT hk (show a + 1 + 4 ≤ 1000 by omega) d1, o_b, if_true]
    exact ⟨_, rfl, fun p i hi => by simp only [uB_i hi, fr2 p i hi], fun z => by cases z⟩
  | true =>
    cases d2 : sut 107 (c (a + 1 + 1)) with
    | false =>
      have hm2 : mt c t a = 2 := by rw [hm]; simp only [d1, d2, if_true, if_false, Bool.false_eq_true]
      have hg : gd c t a = false := decide_eq_false (fun z => by omega)
      rw [hm2, hg]
      simp only [p_rstf hz hT hk (show a + 1 + 4 ≤ 1000 by omega) d1 d2, o_b, if_true]
      exact ⟨_, rfl, fun p i hi => by simp only [uB_i hi, fr2 p i hi], fun z => by cases z⟩
    | true =>
      cases d3 : sut 100 (c (a + 1 + 1 + 1)) with
      | false =>
        have hm2 : mt c t a = 3 := by rw [hm]; simp only [d1, d2, d3, if_true, if_false, Bool.false_eq_true]
        have hg : gd c t a = false := decide_eq_false (fun z => by omega)
        rw [hm2, hg]
        simp only [p_rsttf hz hT hk (show a + 1 + 4 ≤ 1000 by omega) d1 d2 d3, o_b, if_true]
        exact ⟨_, rfl, fun p i hi => by simp only [uB_i hi, fr2 p i hi], fun z => by cases z⟩
      | true =>
        cases d4 : sut 100 (c (a + 1 + 1 + 1 + 1)) with
        | false =>
          have hm2 : mt c t a = 4 := by rw [hm]; simp only [d1, d2, d3, d4, if_true, if_false, Bool.false_eq_true]
          have hg : gd c t a = false := decide_eq_false (fun z => by omega)
          rw [hm2, hg]
          simp only [p_rstttf hz hT hk (show a + 1 + 4 ≤ 1000 by omega) d1 d2 d3 d4, o_b, if_true]
          exact ⟨_, rfl, fun p i hi => by simp only [uB_i hi, fr2 p i hi], fun z => by cases z⟩
        | true =>
          obtain ⟨v, hv, hv2⟩ := p_semi (s := nI k) (A := _) hz hT (show a + 1 + 1 + 1 + 1 + 1 ≤ 1000 by omega)
          simp only [p_rst hz hT hk (show a + 1 + 4 ≤ 1000 by omega) d1 d2 d3 d4, o_b, hne, if_false, pz_O hz]
          rw [hv, o_b]
          cases d5 : sut 59 (c (a + 1 + 1 + 1 + 1 + 1)) with
          | false =>
            have hm2 : mt c t a = 5 := by rw [hm]; simp only [d1, d2, d3, d4, d5, if_true, if_false, Bool.false_eq_true]
            have hg : gd c t a = false := decide_eq_false (fun z => by omega)
            rw [hm2, hg, if_neg (fun z => by rw [hv2.mp z] at d5; cases d5)]
            exact ⟨_, rfl, fun p i hi => by simp only [uB_i hi, fr2 p i hi], fun z => by cases z⟩
          | true =>
            have hm2 : mt c t a = 6 := by rw [hm]; simp only [d1, d2, d3, d4, d5, if_true]
            have hg : gd c t a = true := decide_eq_true ⟨by omega, by omega⟩
            rw [hm2, hg, if_pos (hv2.mpr d5)]
            simp only [pz_I hz, pz_P hz, o_b, nI_1]
            refine ⟨_, rfl, fun p i hi => by simp only [uB_i hi, fr2 p i hi], fun _ => ?_⟩
            rw [← hA2]
            refine ⟨?_, ?_, ?_, ?_, ?_, ?_, ?_⟩
            · simp [uB_s, uB_o]
            · simp [uB_s, uB_o]
            · intro h; first | omega | simp [uB_s, uB_o]
            · intro h; first | omega | simp [uB_s, uB_o]
            · intro h; first | omega | simp [uB_s, uB_o]
            · intro h; first | omega | simp [uB_s, uB_o]
            · intro h; first | omega | simp [uB_s, uB_o]
theorem l_kinds : ∀ x, x < 256 → lnn x = 0 ∨ x = 102 ∨ x = 105 ∨ x = 108 ∨ x = 110 ∨ x = 114 ∨ x = 115 := by decide +kernel
theorem m_stmt (hz : σ.2.2 = true) (hT : TxB (σ.1 45 25) (σ.2.1 56) c t) (hk : k < 41) (ha : a ≤ t) : ∃ A', fX9_statement 45 (mk (pst σ (nI a) (nI k) A)) = some (b2i (gd c t a), mk (pst σ (nI (a + mt c t a)) (nI k) A')) ∧ (∀ p i, i ≠ k → A' p i = A p i) ∧ (gd c t a = true → ent c A' k a) := by
  by_cases hat : a < t
  · rcases l_kinds (c a) (hT.2.2.2.1 a) with hx | hx | hx | hx | hx | hx | hx
    · refine ⟨A, stmt_no hz hT ha hx, fun _ _ _ => rfl, fun z => ?_⟩
      have := (gd_tok z).1
      omega
    · exact stmt_102 hz hT hk hx hat
    · exact stmt_105 hz hT hk hx hat
    · exact stmt_108 hz hT hk hx hat
    · exact stmt_110 hz hT hk hx hat
    · exact stmt_114 hz hT hk hx hat
    · exact stmt_115 hz hT hk hx hat
  · have hx : lnn (c a) = 0 := by rw [hT.2.2.2.2 a (by omega)]; rfl
    refine ⟨A, stmt_no hz hT ha hx, fun _ _ _ => rfl, fun z => ?_⟩
    have := (gd_tok z).1
    omega
end ST
