/-! ===== 47: obligation: lands ===== -/
theorem ok24 : ql_o24 Inv := by
  rintro a1 a2 a3 h ⟨σ, rfl, L, k, B, S, hI⟩
  have hz := iw_z hI
  obtain ⟨h1, h2, h3, h4, h5, h6, h7, h8, h9, h10, h11, h12, h13, h14⟩ := id hI
  have hB : ∀ i, i < k → B i < 10 := fun i hi => (h6.2.2 i hi).2.2
  by_cases q1 : (1 : Int32) ≤ a1
  · by_cases q2 : a1 ≤ (30 : Int32)
    · have hnn : ¬ a1 < 0 := by
        rw [Int32.le_iff_toInt_le, show (1 : Int32).toInt = 1 by decide] at q1
        rw [Int32.lt_iff_toInt_lt, show (0 : Int32).toInt = 0 by decide]
        omega
      obtain ⟨n, hn, rfl⟩ := nI_of2 (n := 30) (M := 30) (by decide) hnn q2
      by_cases n0 : a3 = 0
      · subst n0
        exact fin_v (f9 := fun h => fX9_lands 45 (nI n) a2 0 h) hI (c_l0 h1 h8 hB h9 hn q1 q2 a2) (m_l0 hz h1 h4 h7 hn q1 q2 a2)
      · by_cases n1 : a3 = 1
        · subst n1
          exact fin_v (f9 := fun h => fX9_lands 45 (nI n) a2 1 h) hI (c_l1 h1 h8 hB h9 hn q1 q2 a2) (m_l1 hz h1 h4 h7 hn q1 q2 a2)
        · have hz1 : (aS σ 44 2 (σ.2.1 44 2 + 1)).2.2 = true := hz
          have hw : decide (¬ a3 < 0 ∧ ¬ (1 : Int32) < a3) = false := by
            cases hq : decide (¬ a3 < 0 ∧ ¬ (1 : Int32) < a3) with
            | false => rfl
            | true =>
              obtain ⟨j, hj, rfl⟩ := (in_few (n := 1) (by decide)).mp hq
              rcases (show j = 0 ∨ j = 1 by omega) with rfl | rfl
              · exact absurd rfl n0
              · exact absurd rfl n1
          refine fin_r (f9 := fun h => fX9_lands 45 (nI n) a2 a3 h) hI 2 (x := -2) ?_ ?_
          · unfold fX8_lands
            rw [if_pos q1, if_pos q2, if_neg n0, if_neg n1, show qv_ob (mk σ) 7 0 = some () from c_O.1, o_b, c_ref2, o_b]
          · show fX9_lands 45 (nI n) a2 a3 _ = _
            unfold fX9_lands
            rw [n_bound, if_pos q1, if_pos q2, o_b, if_pos rfl, n_in, hw, o_b, b2i_f, if_pos rfl, o_b]
            dsimp only
            rw [if_neg (show ¬ ((-2 : Int32) = 0) by decide), m_O hz1, o_b, m_no2 hz1, o_b]
            rfl
    · have hz1 : (aS σ 44 6 (σ.2.1 44 6 + 1)).2.2 = true := hz
      refine fin_r (f9 := fun h => fX9_lands 45 a1 a2 a3 h) hI 6 (x := -6) ?_ ?_
      · unfold fX8_lands
        rw [if_pos q1, if_neg q2, show qv_ob (mk σ) 7 0 = some () from c_O.1, o_b, c_ref6, o_b]
      · show fX9_lands 45 a1 a2 a3 _ = _
        unfold fX9_lands
        rw [n_bound, if_pos q1, if_neg q2, o_b, if_neg (show ¬ ((-6 : Int32) = 0) by decide), o_b]
        dsimp only
        rw [if_neg (show ¬ ((-6 : Int32) = 0) by decide), m_O hz1, o_b, m_no6 hz1, o_b]
        rfl
  · have hz1 : (aS σ 44 4 (σ.2.1 44 4 + 1)).2.2 = true := hz
    refine fin_r (f9 := fun h => fX9_lands 45 a1 a2 a3 h) hI 4 (x := -4) ?_ ?_
    · unfold fX8_lands
      rw [if_neg q1, show qv_ob (mk σ) 7 0 = some () from c_O.1, o_b, c_ref4, o_b]
    · show fX9_lands 45 a1 a2 a3 _ = _
      unfold fX9_lands
      rw [n_bound, if_neg q1, o_b, if_neg (show ¬ ((-4 : Int32) = 0) by decide), o_b]
      dsimp only
      rw [if_neg (show ¬ ((-4 : Int32) = 0) by decide), m_O hz1, o_b, m_no4 hz1, o_b]
      rfl
