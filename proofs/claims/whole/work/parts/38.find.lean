/-! ===== 38: obligations: fact, way, forget, row, rings, judge ===== -/
theorem FdA_add {n : Int32} {a b : Nat → Int32} {k : Nat} {B : Nat → Nat} {S : Nat → Bool} (h : FdA n a b k B S) {q : Nat} {s : Bool} (hk : k < 12) (hq : q < 10) : FdA (nI (k + 1)) (upd a k (nI q)) (upd b k (b2i s)) (k + 1) (fun i => if i = k then q else B i) (fun i => if i = k then s else S i) := by
  refine ⟨rfl, by omega, fun i hi => ?_⟩
  unfold upd
  by_cases hik : i = k
  · simp [hik, hq]
  · simp only [hik, if_false]
    exact h.2.2 i (by omega)
theorem FdA_drop {n : Int32} {a b : Nat → Int32} {k : Nat} {B : Nat → Nat} {S : Nat → Bool} (h : FdA n a b (k + 1) B S) : FdA (nI k) a b k B S := ⟨rfl, by have := h.2.1; omega, fun i hi => h.2.2 i (by omega)⟩
/-- both find: the class by find, the reference by finds -/
theorem both_find {σ : St} {L : Ld} {k : Nat} {B : Nat → Nat} {S : Nat → Bool} (hI : Iw σ L k B S) {q : Nat} (hq : q < 10) (a2 : Int32) : ∃ (r : Int32) (σ1 σ2 : St), fX8_find 0 (nI q) a2 (mk σ) = some (r, mk σ1) ∧ σ1.2.2 = true ∧ fX9_finds 45 (nI q) a2 (mk σ1) = some (r, mk σ2) ∧ Iv σ2 ∧ σ1.1 45 = σ.1 45 := by
  have hz := iw_z hI
  obtain ⟨h1, h2, h3, h4, h5, h6, h7, h8, h9, h10, h11, h12, h13, h14⟩ := id hI
  have hk12 := h6.2.1
  have c27 : σ.1 27 0 = nI k := h6.1
  have m17 : σ.1 45 17 = nI k := h7.1
  have e01 : (∃ s : Bool, a2 = b2i s) ∨ (¬ a2 = 0 ∧ ¬ a2 = 1) := by
    by_cases q0 : a2 = 0
    · exact Or.inl ⟨false, q0⟩
    · by_cases q1 : a2 = 1
      · exact Or.inl ⟨true, q1⟩
      · exact Or.inr ⟨q0, q1⟩
  rcases e01 with ⟨s, rfl⟩ | ⟨n0, n1⟩
  · have hin : fX9_isIn (b2i s) 0 1 = some 1 := by cases s <;> rfl
    by_cases hk : k = 12
    · have hc : ¬ nI k < (12 : Int32) := by rw [hk]; decide
      have hm : nI k = (12 : Int32) := by rw [hk]; rfl
      have hz1 : (aS σ 44 6 (σ.2.1 44 6 + 1)).2.2 = true := hz
      refine ⟨-6, aS σ 44 6 (σ.2.1 44 6 + 1), aS (aS σ 44 6 (σ.2.1 44 6 + 1)) 46 6 (σ.2.1 46 6 + 1), ?_, hz, ?_, ⟨L, k, B, S, iw_ref hI 6⟩, rfl⟩
      · unfold fX8_find
        simp only [c_R, c_I, c27, o_b, hc, if_false, c_O, c_ref6]
        cases s <;> rfl
      · unfold fX9_finds
        simp only [hin, o_b, hne, if_false, m_I hz1, aS_f, m17, hm, if_true, m_O hz1, m_no6 hz1]
        rfl
    · have hk2 : k < 12 := by omega
      have hc : nI k < (12 : Int32) := nI_lt (b := 12) hk2 (by decide)
      have hc2 : ¬ (12 : Int32) ≤ nI k := nI_ge (b := 12) hk2 (by decide)
      have hm : ¬ nI k = (12 : Int32) := fun z => hk ((nI_eq (by omega) (by decide)).mp z)
      have ea : ∀ m4, m4 = b2i s → fX2_add 27 (nI q) m4 (mk σ) = some (mk (fS (aS (aS σ 28 k (nI q)) 29 k (b2i s)) 27 0 (nI (k + 1)))) := by
        intro m4 hm4
        subst hm4
        unfold fX2_add
        simp only [c_I, c_R, o_b, c27, hc2, if_false, c_S, hk2, aS_f, c_P, nI_1, b2i_and]
      generalize hT : fS (aS (aS σ 28 k (nI q)) 29 k (b2i s)) 27 0 (nI (k + 1)) = τ at ea
      have tF : FC τ (k + 1) (fun i => if i = k then q else B i) (fun i => if i = k then s else S i) := by rw [← hT]; exact FdA_add h6 hk2 hq
      have tR : RK τ L := by rw [← hT]; exact h8
      have hs := c_sift h1 tR tF
      have hsf := sf_of (σ := τ) (L := L) (k := k + 1) (B := fun i => if i = k then q else B i) (S := fun i => if i = k then s else S i)
      generalize hU : fS (wS (fS (fS τ 33 4 (nI (orb (fun i => (if i = k then s else S i) == true) (fun i => if i = k then q else B i) (k + 1)))) 33 5 (nI (orb (fun i => (if i = k then s else S i) == false) (fun i => if i = k then q else B i) (k + 1)))) 34 (lA (gl L (k + 1) (fun i => if i = k then q else B i) (fun i => if i = k then s else S i) 0 1024) (τ.2.1 34))) 33 2 (nI (gl L (k + 1) (fun i => if i = k then q else B i) (fun i => if i = k then s else S i) 0 1024).length) = υ at hs hsf
      have u27 : υ.1 27 0 = nI (k + 1) := by rw [← hU, ← hT]; rfl
      have uz : υ.2.2 = true := by rw [← hU, ← hT]; exact hz
      have u17 : υ.1 45 17 = nI k := by rw [← hU, ← hT]; exact m17
      refine ⟨nI (k + 1), υ, fS (aS (aS υ 54 k (nI q)) 55 k (b2i s)) 45 17 (nI (k + 1)), ?_, uz, ?_, ?_, ?_⟩
      · unfold fX8_find
        cases s
        · simp only [c_R, c_I, c27, o_b, hc, if_true, c_O, show b2i false = 0 from rfl, show ¬ ((0 : Int32) = 1) by decide, if_false, ea 0 rfl, hs, u27]
        · simp only [c_R, c_I, c27, o_b, hc, if_true, c_O, show b2i true = 1 from rfl, show ¬ ((1 : Int32) = 0) by decide, if_false, ea 1 rfl, hs, u27]
      · unfold fX9_finds
        have z2 : (aS υ 54 k (nI q)).2.2 = true := uz
        have z3 : (aS (aS υ 54 k (nI q)) 55 k (b2i s)).2.2 = true := uz
        have z4 : (fS (aS (aS υ 54 k (nI q)) 55 k (b2i s)) 45 17 (nI (k + 1))).2.2 = true := uz
        simp only [hin, o_b, hne, if_false, m_I uz, u17, hm, m_R uz, m_S uz, hk2, m_R z2, m_I z2, aS_f, m_S z2, m_I z3, m_P z3, nI_1, m_I z4]
        rfl
      · refine ⟨L, k + 1, fun i => if i = k then q else B i, fun i => if i = k then s else S i, h1, ?_, ?_, ?_, ?_, ?_, ?_, ?_, ?_, ?_, ?_, ?_, ?_, uz⟩
        · rw [← hU, ← hT]; exact h2
        · rw [← hU, ← hT]; exact h3
        · rw [← hU, ← hT]; exact h4
        · rw [← hU, ← hT]; exact h5
        · rw [← hU, ← hT]; exact FdA_add h6 hk2 hq
        · rw [← hU, ← hT]; exact FdA_add h7 hk2 hq
        · rw [← hU, ← hT]; exact h8
        · exact hsf
        · rw [← hU, ← hT]; exact h10
        · rw [← hU, ← hT]; exact h11
        · rw [← hU, ← hT]; exact h12
        · rw [← hU, ← hT]; exact h13
      · rw [← hU, ← hT]; rfl
  · have hin : fX9_isIn a2 0 1 = some 0 := by
      rw [n_in]
      have : decide (¬ a2 < 0 ∧ ¬ (1 : Int32) < a2) = false := by
        cases hd : decide (¬ a2 < 0 ∧ ¬ (1 : Int32) < a2) with
        | false => rfl
        | true =>
          obtain ⟨j, hj, rfl⟩ := (in_few (n := 1) (by decide)).mp hd
          rcases (show j = 0 ∨ j = 1 by omega) with rfl | rfl
          · exact absurd rfl n0
          · exact absurd rfl n1
      rw [this]; rfl
    have hz1 : (aS σ 44 2 (σ.2.1 44 2 + 1)).2.2 = true := hz
    refine ⟨-2, aS σ 44 2 (σ.2.1 44 2 + 1), aS (aS σ 44 2 (σ.2.1 44 2 + 1)) 46 2 (σ.2.1 46 2 + 1), ?_, hz, ?_, ⟨L, k, B, S, iw_ref hI 2⟩, rfl⟩
    · unfold fX8_find
      simp only [n0, n1, if_false, c_O, o_b, c_ref2]
    · unfold fX9_finds
      simp only [hin, o_b, if_true, m_O hz1, m_no2 hz1]
      rfl
theorem ok9 : ql_o9 Inv := by
  rintro a1 a2 h ⟨σ, rfl, L, k, B, S, hI⟩
  have hz := iw_z hI
  obtain ⟨h1, h2, h3, h4, h5, h6, h7, h8, h9, h10, h11, h12, h13, h14⟩ := id hI
  have c3 : σ.1 3 2 = nI (L.1 2) := h2.2.2.1
  have m3 : σ.1 45 10 = nI (L.1 2) := h4.2.2.1
  have hfc := h1.2.2.1
  cases hs : inr_ a1 (nI (L.1 2)) with
  | false =>
    have hz1 : (aS σ 44 1 (σ.2.1 44 1 + 1)).2.2 = true := hz
    refine fin_r (f9 := fun h => fX9_fact 45 a1 a2 h) hI 1 (x := -1) ?_ ?_
    · unfold fX8_fact
      simp only [c_R, c_O, o_b, c_fact, c3, hs, b2i_f, if_true, c_ref1]
    · show fX9_fact 45 a1 a2 _ = _
      unfold fX9_fact
      simp only [m_O hz1, o_b, m_fact hz1, aS_f, m3, hs, b2i_f, if_true, m_no1 hz1]
      rfl
  | true =>
    obtain ⟨q, hq, rfl⟩ := inr_of (by omega) hs
    obtain ⟨r, σ1, σ2, e1, z1, e2, i2, e45⟩ := both_find hI (show q < 10 by omega) a2
    refine fin (f9 := fun h => fX9_fact 45 (nI q) a2 h) (r := r) (σ1 := σ1) (σ2 := σ2) ?_ z1 ?_ i2
    · unfold fX8_fact
      simp only [c_R, c_O, o_b, c_fact, c3, hs, b2i_t, hne, if_false, e1]
    · show fX9_fact 45 (nI q) a2 _ = _
      unfold fX9_fact
      simp only [m_O z1, o_b, m_fact z1, e45, m3, hs, b2i_t, hne, if_false, e2]
theorem ok10 : ql_o10 Inv := by
  rintro a1 a2 h ⟨σ, rfl, L, k, B, S, hI⟩
  have hz := iw_z hI
  obtain ⟨h1, h2, h3, h4, h5, h6, h7, h8, h9, h10, h11, h12, h13, h14⟩ := id hI
  have c3 : σ.1 3 3 = nI (L.1 3) := h2.2.2.2.1
  have m3 : σ.1 45 11 = nI (L.1 3) := h4.2.2.2.1
  have hsc := h1.2.2.2.1
  cases hs : inr_ a1 (nI (L.1 3)) with
  | false =>
    have hz1 : (aS σ 44 1 (σ.2.1 44 1 + 1)).2.2 = true := hz
    refine fin_r (f9 := fun h => fX9_way 45 a1 a2 h) hI 1 (x := -1) ?_ ?_
    · unfold fX8_way
      simp only [c_R, c_O, o_b, c_sign, c3, hs, b2i_f, if_true, c_ref1]
    · show fX9_way 45 a1 a2 _ = _
      unfold fX9_way
      simp only [m_O hz1, o_b, m_sign hz1, aS_f, m3, hs, b2i_f, if_true, m_no1 hz1]
      rfl
  | true =>
    obtain ⟨q, hq, rfl⟩ := inr_of (by omega) hs
    have e4 : (4 : Int32) + nI q = nI (4 + q) := nI_add 4 q
    obtain ⟨r, σ1, σ2, e1, z1, e2, i2, e45⟩ := both_find hI (show 4 + q < 10 by omega) a2
    refine fin (f9 := fun h => fX9_way 45 (nI q) a2 h) (r := r) (σ1 := σ1) (σ2 := σ2) ?_ z1 ?_ i2
    · unfold fX8_way
      simp only [c_R, c_O, o_b, c_sign, c3, hs, b2i_t, hne, if_false, e4, e1]
    · show fX9_way 45 (nI q) a2 _ = _
      unfold fX9_way
      simp only [m_O z1, o_b, m_sign z1, e45, m3, hs, b2i_t, hne, if_false, e4, e2]
theorem ok11 : ql_o11 Inv := by
  rintro h ⟨σ, rfl, L, k, B, S, hI⟩
  have hz := iw_z hI
  obtain ⟨h1, h2, h3, h4, h5, h6, h7, h8, h9, h10, h11, h12, h13, h14⟩ := id hI
  have hk12 := h6.2.1
  have c27 : σ.1 27 0 = nI k := h6.1
  have m17 : σ.1 45 17 = nI k := h7.1
  cases k with
  | zero =>
    have hz1 : (aS σ 44 3 (σ.2.1 44 3 + 1)).2.2 = true := hz
    refine fin_r (f9 := fun h => fX9_forget 45 h) hI 3 (x := -3) ?_ ?_
    · unfold fX8_forget
      simp only [c_R, c_I, c27, o_b, show nI 0 = (0 : Int32) from rfl, if_true, c_O, c_ref3]
    · show fX9_forget 45 _ = _
      unfold fX9_forget
      simp only [m_I hz1, aS_f, m17, o_b, show nI 0 = (0 : Int32) from rfl, if_true, m_O hz1, m_no3 hz1]
      rfl
  | succ k =>
    have hn0 : ¬ nI (k + 1) = 0 := nI_ne0 (by omega) (by omega)
    have hn1 : ¬ nI (k + 1) ≤ 0 := nI_nle (by omega) (by omega)
    have ea : fX2_dropLatest 27 (mk σ) = some (mk (fS σ 27 0 (nI k))) := by
      unfold fX2_dropLatest
      simp only [c_I, c27, o_b, hn1, if_false, c_P, nI_pred]
    generalize hT : fS σ 27 0 (nI k) = τ at ea
    have tF : FC τ k B S := by rw [← hT]; exact FdA_drop h6
    have tR : RK τ L := by rw [← hT]; exact h8
    have hs := c_sift h1 tR tF
    have hsf := sf_of (σ := τ) (L := L) (k := k) (B := B) (S := S)
    generalize hU : fS (wS (fS (fS τ 33 4 (nI (orb (fun i => S i == true) B k))) 33 5 (nI (orb (fun i => S i == false) B k))) 34 (lA (gl L k B S 0 1024) (τ.2.1 34))) 33 2 (nI (gl L k B S 0 1024).length) = υ at hs hsf
    have u27 : υ.1 27 0 = nI k := by rw [← hU, ← hT]; rfl
    have uz : υ.2.2 = true := by rw [← hU, ← hT]; exact hz
    have u17 : υ.1 45 17 = nI (k + 1) := by rw [← hU, ← hT]; exact m17
    have z4 : (fS υ 45 17 (nI k)).2.2 = true := uz
    refine fin (f9 := fun h => fX9_forget 45 h) (r := nI k) (σ1 := υ) (σ2 := fS υ 45 17 (nI k)) ?_ uz ?_ ?_
    · unfold fX8_forget
      simp only [c_R, c_I, c27, o_b, hn0, if_false, c_O, ea, hs, u27]
    · show fX9_forget 45 _ = _
      unfold fX9_forget
      simp only [m_I uz, u17, o_b, hn0, if_false, m_P uz, nI_pred, m_I z4]
      rfl
    · refine ⟨L, k, B, S, h1, ?_, ?_, ?_, ?_, ?_, ?_, ?_, ?_, ?_, ?_, ?_, ?_, uz⟩
      · rw [← hU, ← hT]; exact h2
      · rw [← hU, ← hT]; exact h3
      · rw [← hU, ← hT]; exact h4
      · rw [← hU, ← hT]; exact h5
      · rw [← hU, ← hT]; exact FdA_drop h6
      · rw [← hU, ← hT]; exact FdA_drop h7
      · rw [← hU, ← hT]; exact h8
      · exact hsf
      · rw [← hU, ← hT]; exact h10
      · rw [← hU, ← hT]; exact h11
      · rw [← hU, ← hT]; exact h12
      · rw [← hU, ← hT]; exact h13
theorem ok21 : ql_o21 Inv := by
  rintro a1 h ⟨σ, rfl, L, k, B, S, hI⟩
  have hz := iw_z hI
  obtain ⟨h1, h2, h3, h4, h5, h6, h7, h8, h9, h10, h11, h12, h13, h14⟩ := id hI
  have c3 : σ.1 3 3 = nI (L.1 3) := h2.2.2.2.1
  have m3 : σ.1 45 11 = nI (L.1 3) := h4.2.2.2.1
  have hsc := h1.2.2.2.1
  obtain ⟨t, t1, t2, t3, t4⟩ := h11
  cases hs : inr_ a1 (nI (L.1 3)) with
  | false =>
    have hz1 : (aS σ 44 1 (σ.2.1 44 1 + 1)).2.2 = true := hz
    refine fin_r (f9 := fun h => fX9_row 45 a1 h) hI 1 (x := -1) ?_ ?_
    · unfold fX8_row
      simp only [c_R, c_O, o_b, c_sign, c3, hs, b2i_f, if_true, c_ref1]
    · show fX9_row 45 a1 _ = _
      unfold fX9_row
      simp only [m_O hz1, o_b, m_sign hz1, aS_f, m3, hs, b2i_f, if_true, m_no1 hz1]
      rfl
  | true =>
    obtain ⟨q, hq, rfl⟩ := inr_of (by omega) hs
    by_cases ht : t = 10
    · subst ht
      have hz1 : (aS σ 44 6 (σ.2.1 44 6 + 1)).2.2 = true := hz
      refine fin_r (f9 := fun h => fX9_row 45 (nI q) h) hI 6 (x := -6) ?_ ?_
      · unfold fX8_row
        simp only [c_R, c_O, o_b, c_sign, c3, hs, b2i_t, hne, if_false, c_I, t2, show ¬ (nI 10 < (10 : Int32)) by decide, c_ref6]
      · show fX9_row 45 (nI q) _ = _
        unfold fX9_row
        simp only [m_O hz1, o_b, m_sign hz1, aS_f, m3, hs, b2i_t, hne, if_false, m_I hz1, t3, show nI 10 = (10 : Int32) from rfl, if_true, m_no6 hz1]
        rfl
    · have ht2 : t < 10 := by omega
      have q1 : nI t < (10 : Int32) := nI_lt (b := 10) ht2 (by decide)
      have q2 : ¬ (10 : Int32) ≤ nI t := nI_ge (b := 10) ht2 (by decide)
      have q3 : ¬ nI t = (10 : Int32) := fun z => ht ((nI_eq (by omega) (by decide)).mp z)
      have ea : fX4_add 41 (nI q) (mk σ) = some (mk (fS (aS σ 42 t (nI q)) 41 0 (nI (t + 1)))) := by
        unfold fX4_add
        simp only [c_I, c_R, o_b, t2, q2, if_false, c_S, ht2, aS_f, c_P, nI_1]
      generalize hT : fS (aS σ 42 t (nI q)) 41 0 (nI (t + 1)) = τ at ea
      have tz : τ.2.2 = true := by rw [← hT]; exact hz
      have t41 : τ.1 41 0 = nI (t + 1) := by rw [← hT]; rfl
      have t39 : τ.1 45 39 = nI t := by rw [← hT]; exact t3
      have t11 : τ.1 45 11 = nI (L.1 3) := by rw [← hT]; exact m3
      have z2 : (aS τ 68 t (nI q)).2.2 = true := tz
      have z3 : (fS (aS τ 68 t (nI q)) 45 39 (nI (t + 1))).2.2 = true := tz
      refine fin (f9 := fun h => fX9_row 45 (nI q) h) (r := nI (t + 1)) (σ1 := τ) (σ2 := fS (aS τ 68 t (nI q)) 45 39 (nI (t + 1))) ?_ tz ?_ ?_
      · unfold fX8_row
        simp only [c_R, c_O, o_b, c_sign, c3, hs, b2i_t, hne, if_false, c_I, t2, q1, if_true, ea, t41]
      · show fX9_row 45 (nI q) _ = _
        unfold fX9_row
        simp only [m_O tz, o_b, m_sign tz, t11, hs, b2i_t, hne, if_false, m_I tz, t39, q3, m_R tz, m_S tz, ht2, m_I z2, aS_f, m_P z2, nI_1, m_I z3]
        rfl
      · refine ⟨L, k, B, S, h1, ?_, ?_, ?_, ?_, ?_, ?_, ?_, ?_, ?_, ?_, ?_, ?_, tz⟩
        · rw [← hT]; exact h2
        · rw [← hT]; exact h3
        · rw [← hT]; exact h4
        · rw [← hT]; exact h5
        · rw [← hT]; exact h6
        · rw [← hT]; exact h7
        · rw [← hT]; exact h8
        · rw [← hT]; exact h9
        · rw [← hT]; exact h10
        · refine ⟨t + 1, by omega, by rw [← hT]; rfl, rfl, fun i hi => ?_⟩
          rw [← hT]
          show ∃ s, s < 6 ∧ upd (σ.2.1 42) t (nI q) i = nI s ∧ upd (σ.2.1 68) t (nI q) i = nI s
          unfold upd
          by_cases hit : i = t
          · exact ⟨q, by omega, by simp [hit]⟩
          · simp only [hit, if_false]
            exact t4 i (by omega)
        · rw [← hT]; exact h12
        · rw [← hT]; exact h13
