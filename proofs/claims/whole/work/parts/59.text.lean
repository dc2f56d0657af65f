/-! ===== 59: land: the text, pure ===== -/
def frm (x : Nat) : List Nat := if x = 102 then [102, 59] else if x = 105 then [105, 100, 100, 100, 59] else if x = 108 then [108, 100, 100, 59] else if x = 110 then [110, 100, 59] else if x = 114 then [114, 100, 100, 59] else if x = 115 then [115, 100, 107, 100, 100, 59] else []
def idf (x : Nat) : Nat := if x = 102 then 3 else if x = 105 then 6 else if x = 108 then 5 else if x = 110 then 1 else if x = 114 then 2 else if x = 115 then 4 else 0
def kdx (x : Nat) : Nat := if x = 102 then 0 else if x = 110 then 1 else if x = 97 then 2 else if x = 111 then 3 else if x = 120 then 4 else if x = 119 then 5 else if x = 106 then 6 else 7
def sut (d x : Nat) : Bool := if d = 100 then decide (48 ≤ x ∧ x ≤ 57) else if d = 107 then decide (kdx x < 7) else decide (d = x)
def lnn (x : Nat) : Nat := (frm x).length
theorem k_form : ∀ x, x < 256 → fX5_formOf (nI x) = some (1000 + idf x) ∧ qv_tlen (1000 + idf x) = some (nI (lnn x)) ∧ lnn x ≤ 6 ∧ (lnn x = 0 ∨ 2 ≤ lnn x) ∧ (∀ j, j < lnn x → qv_tchar (1000 + idf x) (nI j) = some (nI ((frm x).getD j 0)) ∧ ((frm x).getD j 0 = 59 ∨ (frm x).getD j 0 = 100 ∨ (frm x).getD j 0 = 107 ∨ ((frm x).getD j 0 = x ∧ j = 0))) := by decide +kernel
theorem k_suit : ∀ x, x < 256 → fX5_suits (nI 59) (nI x) = some (b2i (sut 59 x)) ∧ fX5_suits (nI 100) (nI x) = some (b2i (sut 100 x)) ∧ fX5_suits (nI 107) (nI x) = some (b2i (sut 107 x)) := by decide +kernel
theorem k_self : ∀ x, x < 256 → 0 < lnn x → fX5_suits (nI x) (nI x) = some (b2i (sut x x)) := by decide +kernel
theorem k_kind : ∀ x, x < 256 → qv_tidx 1007 (((nI x).toUInt32 % 65536).toInt32) = some (if kdx x < 7 then nI (kdx x) else -1) ∧ fX9_kindOf (nI x) = some (if kdx x < 7 then nI (kdx x) else -1) ∧ fX5_isDigit (nI x) = some (b2i (sut 100 x)) := by decide +kernel
section TX
variable (c : Nat → Nat) (t : Nat)
/-- a letter is as the form of the statement at a place asks -/
def tok (a j : Nat) : Bool := decide (a + j < t) && sut ((frm (c a)).getD j 0) (c (a + j))
/-- how many letters fit -/
def mt (a : Nat) : Nat := fi (fun j => !tok c t a j) (lnn (c a))
def gd (a : Nat) : Bool := decide (0 < lnn (c a) ∧ mt c t a = lnn (c a))
/-- where statements begin -/
def ss : Nat → Nat
  | 0 => 0
  | k + 1 => ss k + lnn (c (ss k))
/-- the statement in which a letter is -/
def st_ : Nat → Nat
  | 0 => 0
  | p + 1 => if p = st_ p + lnn (c (st_ p)) then p else st_ p
def odd_ (p : Nat) : Bool := !(decide (p - st_ c (p + 1) < lnn (c (st_ c (p + 1)))) && sut ((frm (c (st_ c (p + 1)))).getD (p - st_ c (p + 1)) 0) (c p))
def KK_ : Nat := fi (fun k => !gd c t (ss c k)) 41
end TX
section TX
variable {c : Nat → Nat} {t : Nat}
theorem gd_tok {a : Nat} (h : gd c t a = true) : 0 < lnn (c a) ∧ ∀ j, j < lnn (c a) → tok c t a j = true := by
  unfold gd at h
  rw [decide_eq_true_iff] at h
  refine ⟨h.1, fun j hj => ?_⟩
  have := fi_no (fun j => !tok c t a j) (lnn (c a)) j (by have := h.2; unfold mt at this; omega)
  simpa using this
theorem tok_lt {a j : Nat} (h : tok c t a j = true) : a + j < t := by
  unfold tok at h
  rw [Bool.and_eq_true, decide_eq_true_iff] at h
  exact h.1
theorem gd_le {a : Nat} (h : gd c t a = true) : a + lnn (c a) ≤ t := by
  obtain ⟨h1, h2⟩ := gd_tok h
  have := tok_lt (h2 (lnn (c a) - 1) (by omega))
  omega
theorem st_run {a : Nat} (h1 : st_ c (a + 1) = a) : ∀ j, 1 ≤ j → j ≤ lnn (c a) → st_ c (a + j) = a
  | 0, h, _ => absurd h (by decide)
  | 1, _, _ => h1
  | j + 2, _, h => by
    have ih := st_run h1 (j + 1) (by omega) (by omega)
    show (if a + (j + 1) = st_ c (a + (j + 1)) + lnn (c (st_ c (a + (j + 1)))) then a + (j + 1) else st_ c (a + (j + 1))) = a
    rw [ih, if_neg (by omega)]
/-- where a statement can begin -/
def bgn (c : Nat → Nat) (a : Nat) : Prop := a = 0 ∨ (0 < a ∧ a = st_ c a + lnn (c (st_ c a)))
theorem bgn_s {a : Nat} (h : bgn c a) : st_ c (a + 1) = a := by
  rcases h with h | ⟨h0, h⟩
  · subst h
    show (if 0 = 0 + lnn (c 0) then 0 else 0) = 0
    split <;> rfl
  · show (if a = st_ c a + lnn (c (st_ c a)) then a else st_ c a) = a
    rw [if_pos h]
theorem odd_at {a j : Nat} (h : bgn c a) (hj : j < lnn (c a)) (ht : a + j < t) : odd_ c (a + j) = !tok c t a j := by
  have e : st_ c (a + j + 1) = a := st_run (bgn_s h) (j + 1) (by omega) (by omega)
  unfold odd_ tok
  rw [e, Nat.add_sub_cancel_left, decide_eq_true hj, decide_eq_true ht]
theorem ss_ok (h4 : ∀ i, i < t → lnn (c i) = 0 ∨ 2 ≤ lnn (c i)) : ∀ k, (∀ i, i < k → gd c t (ss c i) = true) → ss c k ≤ t ∧ 2 * k ≤ ss c k ∧ bgn c (ss c k) ∧ ∀ p, p < ss c k → odd_ c p = false
  | 0, _ => ⟨Nat.zero_le _, Nat.le_refl _, Or.inl rfl, fun p hp => absurd hp (Nat.not_lt_zero p)⟩
  | k + 1, h => by
    obtain ⟨i1, i2, i3, i4⟩ := ss_ok h4 k (fun i hi => h i (by omega))
    have hg := h k (by omega)
    obtain ⟨g1, g2⟩ := gd_tok hg
    have gl := gd_le hg
    have e : ss c (k + 1) = ss c k + lnn (c (ss c k)) := rfl
    have h5 := h4 (ss c k) (by omega)
    rw [e]
    refine ⟨gl, by omega, Or.inr ⟨by omega, ?_⟩, fun p hp => ?_⟩
    · rw [st_run (bgn_s i3) (lnn (c (ss c k))) (by omega) (Nat.le_refl _)]
    · by_cases hp2 : p < ss c k
      · exact i4 p hp2
      · have hj : p - ss c k < lnn (c (ss c k)) := by omega
        have := odd_at i3 hj (t := t) (by omega)
        rw [show ss c k + (p - ss c k) = p by omega, g2 _ hj] at this
        exact this
theorem KK_41 (ht : t ≤ 80) (h4 : ∀ i, i < t → lnn (c i) = 0 ∨ 2 ≤ lnn (c i)) : KK_ c t < 41 := by
  have h := fi_le (fun k => !gd c t (ss c k)) 41
  rcases Nat.lt_or_ge (KK_ c t) 41 with q | q
  · exact q
  · have e : KK_ c t = 41 := Nat.le_antisymm h q
    have h5 : ∀ i, i < 41 → gd c t (ss c i) = true := fun i hi => by
      have := fi_no (fun k => !gd c t (ss c k)) 41 i (by unfold KK_ at e; omega)
      simpa using this
    have := ss_ok h4 41 h5
    omega
theorem KK_good {k : Nat} (h : k < KK_ c t) : gd c t (ss c k) = true := by
  have := fi_no (fun k => !gd c t (ss c k)) 41 k h
  simpa using this
theorem KK_bad (h : KK_ c t < 41) : gd c t (ss c (KK_ c t)) = false := by
  have h2 : (!gd c t (ss c (KK_ c t))) = true := fi_yes (fun k => !gd c t (ss c k)) 41 h
  simpa using h2
/-- the class's answer: where the fault of form is -/
def odI (c : Nat → Nat) (t : Nat) : Int32 := if fi (odd_ c) t < t then nI (fi (odd_ c) t) else if t = 0 then 0 else if lnn (c (st_ c t)) ≤ t - st_ c t then -1 else nI t
theorem od_eq (ht : t ≤ 80) (h4 : ∀ i, i < t → lnn (c i) = 0 ∨ 2 ≤ lnn (c i)) (h0 : ∀ i, t ≤ i → lnn (c i) = 0) : odI c t = if ss c (KK_ c t) = t ∧ 0 < KK_ c t then -1 else nI (ss c (KK_ c t) + mt c t (ss c (KK_ c t))) := by
  have hK := KK_41 ht h4
  have hb := KK_bad hK
  obtain ⟨i1, i2, i3, i4⟩ := ss_ok h4 (KK_ c t) (fun i hi => KK_good hi)
  have hk0 : KK_ c t = 0 → ss c (KK_ c t) = 0 := fun z => by rw [z]; rfl
  generalize KK_ c t = K at hK hb i1 i2 i3 i4 hk0
  generalize ss c K = a at hb i1 i2 i3 i4 hk0
  have hml : mt c t a ≤ lnn (c a) := fi_le _ _
  have hmno : ∀ j, j < mt c t a → tok c t a j = true := fun j hj => by
    have := fi_no (fun j => !tok c t a j) (lnn (c a)) j hj
    simpa using this
  have hmy : mt c t a < lnn (c a) → tok c t a (mt c t a) = false := fun h => by
    have h2 : (!tok c t a (mt c t a)) = true := fi_yes (fun j => !tok c t a j) (lnn (c a)) h
    simpa using h2
  have hno : ∀ p, p < a + mt c t a → odd_ c p = false := fun p hp => by
    by_cases hp2 : p < a
    · exact i4 p hp2
    · have hj : p - a < mt c t a := by omega
      have h5 := hmno _ hj
      have h6 := tok_lt h5
      have := odd_at i3 (show p - a < lnn (c a) by omega) h6
      rw [show a + (p - a) = p by omega, h5] at this
      exact this
  unfold gd at hb
  rw [decide_eq_false_iff_not] at hb
  by_cases hat : a = t
  · have hl := h0 a (by omega)
    have hm0 : mt c t a = 0 := by omega
    have hfi : ¬ fi (odd_ c) t < t := by
      rw [fi_all]
      rintro ⟨p, p1, p2⟩
      rw [i4 p (by omega)] at p2
      cases p2
    unfold odI
    rw [if_neg hfi]
    by_cases hK0 : 0 < K
    · rw [if_pos (show a = t ∧ 0 < K from ⟨hat, hK0⟩), if_neg (show ¬ t = 0 by omega)]
      rcases i3 with h | ⟨h, h2⟩
      · omega
      · rw [hat] at h2
        rw [if_pos (show lnn (c (st_ c t)) ≤ t - st_ c t by omega)]
    · rw [if_neg (show ¬ (a = t ∧ 0 < K) from fun z => hK0 z.2), hm0]
      have h7 := hk0 (by omega)
      rw [if_pos (show t = 0 by omega), h7]
      rfl
  · rw [if_neg (fun z => hat z.1)]
    by_cases hlt : a + mt c t a < t
    · have hod : odd_ c (a + mt c t a) = true := by
        by_cases hm : mt c t a < lnn (c a)
        · rw [odd_at i3 hm hlt, hmy hm]; rfl
        · have hl0 : lnn (c a) = 0 := by
            rcases Nat.eq_zero_or_pos (lnn (c a)) with q | q
            · exact q
            · exact absurd ⟨q, by omega⟩ hb
          have hm0 : mt c t a = 0 := by omega
          rw [hm0, Nat.add_zero]
          unfold odd_
          rw [bgn_s i3, hl0, Nat.sub_self]
          rfl
      have hfi : fi (odd_ c) t = a + mt c t a := by
        have h1 : fi (odd_ c) t < t := fi_all.mpr ⟨_, hlt, hod⟩
        have h2 := fi_yes (odd_ c) t h1
        rcases Nat.lt_trichotomy (fi (odd_ c) t) (a + mt c t a) with q | q | q
        · rw [hno _ q] at h2; cases h2
        · exact q
        · rw [fi_no (odd_ c) t _ q] at hod; cases hod
      unfold odI
      rw [hfi, if_pos hlt]
    · have hm : 0 < mt c t a := by omega
      have h5 := tok_lt (hmno (mt c t a - 1) (by omega))
      have hat2 : a + mt c t a = t := by omega
      have hfi : ¬ fi (odd_ c) t < t := by
        rw [fi_all]
        rintro ⟨p, p1, p2⟩
        rw [hno p (by omega)] at p2
        cases p2
      have hst : st_ c t = a := by
        rw [← hat2]
        exact st_run (bgn_s i3) _ hm hml
      unfold odI
      rw [if_neg hfi, if_neg (by omega), hst, hat2, if_neg]
      intro z
      exact hb ⟨by omega, by omega⟩
end TX
def TxB (a : Int32) (x : Nat → Int32) (c : Nat → Nat) (t : Nat) : Prop := a = nI t ∧ t ≤ 80 ∧ (∀ i, i < t → x i = nI (c i)) ∧ (∀ i, c i < 256) ∧ ∀ i, t ≤ i → c i = 0
theorem txb_l {a : Int32} {x : Nat → Int32} {c : Nat → Nat} {t : Nat} (h : TxB a x c t) : (∀ i, i < t → lnn (c i) = 0 ∨ 2 ≤ lnn (c i)) ∧ ∀ i, t ≤ i → lnn (c i) = 0 := by
  refine ⟨fun i _ => (k_form (c i) (h.2.2.2.1 i)).2.2.2.1, fun i hi => ?_⟩
  rw [h.2.2.2.2 i hi]
  rfl
theorem k_sut {x y j : Nat} (hx : x < 256) (hy : y < 256) (hj : j < lnn x) (h0 : j = 0 → y = x) : fX5_suits (nI ((frm x).getD j 0)) (nI y) = some (b2i (sut ((frm x).getD j 0) y)) := by
  rcases ((k_form x hx).2.2.2.2 j hj).2 with h | h | h | ⟨h, hj0⟩
  · rw [h]; exact (k_suit y hy).1
  · rw [h]; exact (k_suit y hy).2.1
  · rw [h]; exact (k_suit y hy).2.2
  · rw [h, h0 hj0]; exact k_self x hx (by omega)
theorem st_le (c : Nat → Nat) : ∀ p, st_ c p ≤ p ∧ (0 < p → st_ c p < p)
  | 0 => ⟨Nat.le_refl _, fun h => absurd h (by decide)⟩
  | p + 1 => by
    have ih := st_le c p
    show (if p = st_ c p + lnn (c (st_ c p)) then p else st_ c p) ≤ p + 1 ∧ (0 < p + 1 → (if p = st_ c p + lnn (c (st_ c p)) then p else st_ c p) < p + 1)
    split <;> omega
theorem c_odd {σ : St} {c : Nat → Nat} {t : Nat} (h : TxB (σ.1 1 0) (σ.2.1 2) c t) : fX5_firstOdd 1 (mk σ) = some (odI c t) := by
  obtain ⟨h1, h2, h3, h4, h5⟩ := h
  unfold fX5_firstOdd
  refine lp_fb (fun p => ((if p = 0 then 1000 else 1000 + idf (c (st_ c p))), nI (p - st_ c p), nI p)) t (odd_ c) (fun p => .inr (nI p)) (.inl ((if t = 0 then 1000 else 1000 + idf (c (st_ c t))), nI (t - st_ c t))) rfl ?_ ?_ ?_ ?_
  · intro p hp ho
    have hp80 : p < 80 := by omega
    have kf := k_form (c (st_ c p)) (h4 _)
    have kp := k_form (c p) (h4 _)
    have ks := k_form (c (st_ c (p + 1))) (h4 _)
    have hsl := st_le c p
    have hsl1 := st_le c (p + 1)
    have pre : ∀ Kt : Nat × Int32 → Option ((Nat × Int32 × Int32) ⊕ ((Nat × Int32) ⊕ Int32)), ((qv_tlen (if p = 0 then 1000 else 1000 + idf (c (st_ c p)))).bind fun v5 => Option.bind (α := Nat × Int32) (if nI (p - st_ c p) = v5 then (qv_gR (mk σ) 4 1 1).bind fun v6 => (qv_aI (mk σ) false v6 (nI p)).bind fun v7 => (fX5_formOf v7).bind fun v8 => some (v8, (0 : Int32)) else some ((if p = 0 then 1000 else 1000 + idf (c (st_ c p))), nI (p - st_ c p))) Kt) = Kt (1000 + idf (c (st_ c (p + 1))), nI (p - st_ c (p + 1))) := by
      intro Kt
      simp only [c_R, c_A, hp80, o_b, h3 p hp, kp.1]
      by_cases hp0 : p = 0
      · subst hp0
        have e2 : st_ c (0 + 1) = 0 := bgn_s (Or.inl rfl)
        rw [e2, if_pos rfl]
        rfl
      · rw [if_neg hp0, kf.2.1, o_b]
        have e3 : st_ c (p + 1) = if p = st_ c p + lnn (c (st_ c p)) then p else st_ c p := rfl
        by_cases hq : p = st_ c p + lnn (c (st_ c p))
        · rw [e3, if_pos hq, if_pos (show nI (p - st_ c p) = nI (lnn (c (st_ c p))) by rw [show p - st_ c p = lnn (c (st_ c p)) by omega]), Nat.sub_self]
          rfl
        · rw [e3, if_neg hq, if_neg (fun z => hq (by have := (nI_eq (show p - st_ c p < 2 ^ 31 by omega) (show lnn (c (st_ c p)) < 2 ^ 31 by omega)).mp z; omega))]
          rfl
    unfold odd_ at ho
    rw [Bool.not_eq_false', Bool.and_eq_true, decide_eq_true_iff] at ho
    obtain ⟨o1, o2⟩ := ho
    have kt := (ks.2.2.2.2 _ o1).1
    have kq := k_sut (h4 (st_ c (p + 1))) (h4 p) o1 (fun z => congrArg c (show p = st_ c (p + 1) by omega))
    have e9 : (if p + 1 = 0 then 1000 else 1000 + idf (c (st_ c (p + 1)))) = 1000 + idf (c (st_ c (p + 1))) := if_neg (by omega)
    have e8 : p + 1 - st_ c (p + 1) = p - st_ c (p + 1) + 1 := by omega
    dsimp only
    simp only [c_I, h1, o_b]
    rw [if_neg (nI_ge hp (by omega)), pre]
    dsimp only
    rw [ks.2.1, o_b, if_neg (nI_ge o1 (by omega)), kt, o_b]
    simp only [c_R, c_A, hp80, o_b, h3 p hp, kq, o2]
    rw [if_neg (show ¬ b2i true = 0 from hne), nI_1, nI_1, e9, e8]
  · intro p hp ho
    have hp80 : p < 80 := by omega
    have kf := k_form (c (st_ c p)) (h4 _)
    have kp := k_form (c p) (h4 _)
    have ks := k_form (c (st_ c (p + 1))) (h4 _)
    have hsl := st_le c p
    have hsl1 := st_le c (p + 1)
    have pre : ∀ Kt : Nat × Int32 → Option ((Nat × Int32 × Int32) ⊕ ((Nat × Int32) ⊕ Int32)), ((qv_tlen (if p = 0 then 1000 else 1000 + idf (c (st_ c p)))).bind fun v5 => Option.bind (α := Nat × Int32) (if nI (p - st_ c p) = v5 then (qv_gR (mk σ) 4 1 1).bind fun v6 => (qv_aI (mk σ) false v6 (nI p)).bind fun v7 => (fX5_formOf v7).bind fun v8 => some (v8, (0 : Int32)) else some ((if p = 0 then 1000 else 1000 + idf (c (st_ c p))), nI (p - st_ c p))) Kt) = Kt (1000 + idf (c (st_ c (p + 1))), nI (p - st_ c (p + 1))) := by
      intro Kt
      simp only [c_R, c_A, hp80, o_b, h3 p hp, kp.1]
      by_cases hp0 : p = 0
      · subst hp0
        have e2 : st_ c (0 + 1) = 0 := bgn_s (Or.inl rfl)
        rw [e2, if_pos rfl]
        rfl
      · rw [if_neg hp0, kf.2.1, o_b]
        have e3 : st_ c (p + 1) = if p = st_ c p + lnn (c (st_ c p)) then p else st_ c p := rfl
        by_cases hq : p = st_ c p + lnn (c (st_ c p))
        · rw [e3, if_pos hq, if_pos (show nI (p - st_ c p) = nI (lnn (c (st_ c p))) by rw [show p - st_ c p = lnn (c (st_ c p)) by omega]), Nat.sub_self]
          rfl
        · rw [e3, if_neg hq, if_neg (fun z => hq (by have := (nI_eq (show p - st_ c p < 2 ^ 31 by omega) (show lnn (c (st_ c p)) < 2 ^ 31 by omega)).mp z; omega))]
          rfl
    unfold odd_ at ho
    rw [Bool.not_eq_true'] at ho
    dsimp only
    simp only [c_I, h1, o_b]
    rw [if_neg (nI_ge hp (by omega)), pre]
    dsimp only
    rw [ks.2.1, o_b]
    by_cases o1 : p - st_ c (p + 1) < lnn (c (st_ c (p + 1)))
    · rw [decide_eq_true o1, Bool.true_and] at ho
      have kt := (ks.2.2.2.2 _ o1).1
      have kq := k_sut (h4 (st_ c (p + 1))) (h4 p) o1 (fun z => congrArg c (show p = st_ c (p + 1) by omega))
      rw [if_neg (nI_ge o1 (by omega)), kt, o_b]
      simp only [c_R, c_A, hp80, o_b, h3 p hp, kq, ho]
      rw [if_pos b2i_f]
    · rw [if_pos (nI_le (by omega) (by omega))]
  · dsimp only
    simp only [c_I, h1, o_b]
    rw [if_pos (nI_le (Nat.le_refl _) (by omega))]
  · unfold odI
    have kt := k_form (c (st_ c t)) (h4 _)
    have hsl := st_le c t
    by_cases hh : fi (odd_ c) t < t
    · rw [if_pos hh, if_pos hh]
    · rw [if_neg hh, if_neg hh]
      dsimp only
      simp only [c_I, h1, o_b]
      by_cases ht0 : t = 0
      · rw [if_pos (show nI t = 0 by rw [ht0]; rfl), if_pos ht0, ht0]
        rfl
      · rw [if_neg (show ¬ nI t = 0 from nI_ne0 (by omega) (by omega)), if_neg ht0, if_neg ht0, kt.2.1, o_b]
        by_cases hq : lnn (c (st_ c t)) ≤ t - st_ c t
        · rw [if_pos (nI_le hq (by omega)), if_pos hq]
          rfl
        · rw [if_neg (nI_ge (by omega) (by omega)), if_neg hq]
          rfl
