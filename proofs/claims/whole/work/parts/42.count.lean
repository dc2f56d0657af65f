/-! ===== 42: obligation: count ===== -/
theorem ok28 : ql_o28 Inv := by
  rintro a1 h ⟨σ, rfl, L, k, B, S, hI⟩
  have hz := iw_z hI
  obtain ⟨h1, h2, h3, h4, h5, h6, h7, h8, h9, h10, h11, h12, h13, h14⟩ := id hI
  have gv : ∀ x : Int32, fX8_count 0 a1 (mk σ) = some x → fX9_count 45 a1 (mk σ) = some (x, mk σ) → ∃ (r : Int32) (h2 : qv_H), fX8_count 0 a1 (mk σ) = some r ∧ qv_ob (mk σ) 8 45 = some () ∧ fX9_count 45 a1 (mk σ) = some (r, h2) ∧ Inv h2 := fun x e8 e9 => ⟨x, mk σ, e8, m_O hz, e9, σ, rfl, L, k, B, S, hI⟩
  cases hw : decide (¬ a1 < 11 ∧ ¬ 16 < a1) with
  | true =>
    have hw2 := of_decide_eq_true hw
    have hnn : ¬ a1 < 0 := fun z => hw2.1 (by rw [Int32.lt_iff_toInt_lt] at z ⊢; rw [show (0 : Int32).toInt = 0 by decide] at z; rw [show (11 : Int32).toInt = 11 by decide]; omega)
    obtain ⟨j, hj, rfl⟩ := nI_of hnn
    have j1 : ¬ j < 11 := fun z => hw2.1 (show nI j < nI 11 from nI_lt z (by decide))
    have j2 : ¬ 16 < j := fun z => hw2.2 (show nI 16 < nI j from nI_lt z hj)
    have hj7 : j - 10 < 7 := by omega
    have es : nI j - (10 : Int32) = nI (j - 10) := nI_subn (b := 10) (by omega)
    refine gv (σ.2.1 44 (j - 10)) ?_ ?_
    · unfold fX8_count
      rw [if_neg hw2.1, if_neg hw2.2, es]
      simp only [c_R, c_A, hj7, o_b]
    · unfold fX9_count
      simp only [n_in, hw, o_b, b2i_t, hne, if_false, es, m_R hz, m_A hz, hj7]
      rw [h12 (j - 10) hj7]
  | false =>
    have hio : a1 < 11 ∨ 16 < a1 := by
      have := of_decide_eq_false hw
      by_cases q : a1 < 11
      · exact Or.inl q
      · by_cases q2 : 16 < a1
        · exact Or.inr q2
        · exact absurd ⟨q, q2⟩ this
    have l11 : ∀ j, j < 10 → nI j < (11 : Int32) := by decide +kernel
    by_cases n0 : a1 = 0
    · subst n0
      refine gv (σ.1 3 0) ?_ ?_
      · unfold fX8_count; simp only [show (0 : Int32) < 11 from l11 0 (by decide), if_true, c_R, c_I, o_b]
      · unfold fX9_count; simp only [n_in, hw, o_b, b2i_f, if_true, m_I hz]; rw [h2.1, show σ.1 45 8 = _ from h4.1]
    by_cases n1 : a1 = 1
    · subst n1
      refine gv (σ.1 3 1) ?_ ?_
      · unfold fX8_count; simp only [show (1 : Int32) < 11 from l11 1 (by decide), n0, if_false, if_true, c_R, c_I, o_b]
      · unfold fX9_count; simp only [n_in, hw, o_b, b2i_f, n0, if_false, if_true, m_I hz]; rw [h2.2.1, show σ.1 45 9 = _ from h4.2.1]
    by_cases n2 : a1 = 2
    · subst n2
      refine gv (σ.1 3 2) ?_ ?_
      · unfold fX8_count; simp only [show (2 : Int32) < 11 from l11 2 (by decide), n0, n1, if_false, if_true, c_R, c_I, o_b]
      · unfold fX9_count; simp only [n_in, hw, o_b, b2i_f, n0, n1, if_false, if_true, m_I hz]; rw [h2.2.2.1, show σ.1 45 10 = _ from h4.2.2.1]
    by_cases n3 : a1 = 3
    · subst n3
      refine gv (σ.1 3 3) ?_ ?_
      · unfold fX8_count; simp only [show (3 : Int32) < 11 from l11 3 (by decide), n0, n1, n2, if_false, if_true, c_R, c_I, o_b]
      · unfold fX9_count; simp only [n_in, hw, o_b, b2i_f, n0, n1, n2, if_false, if_true, m_I hz]; rw [h2.2.2.2.1, show σ.1 45 11 = _ from h4.2.2.2.1]
    by_cases n4 : a1 = 4
    · subst n4
      refine gv (σ.1 27 0) ?_ ?_
      · unfold fX8_count; simp only [show (4 : Int32) < 11 from l11 4 (by decide), n0, n1, n2, n3, if_false, if_true, c_R, c_I, o_b]
      · unfold fX9_count; simp only [n_in, hw, o_b, b2i_f, n0, n1, n2, n3, if_false, if_true, m_I hz]; rw [h6.1, show σ.1 45 17 = _ from h7.1]
    by_cases n5 : a1 = 5
    · subst n5
      refine gv (σ.1 33 1) ?_ ?_
      · unfold fX8_count; simp only [show (5 : Int32) < 11 from l11 5 (by decide), n0, n1, n2, n3, n4, if_false, if_true, c_R, c_I, o_b]
      · unfold fX9_count; simp only [n_in, hw, o_b, b2i_f, n0, n1, n2, n3, n4, if_false, if_true, m_O hz, m_fitMany hz h4 h1]; rw [h8.2.1]
    by_cases n6 : a1 = 6
    · subst n6
      have hfw : fX9_findWorlds 45 0 (mk σ) = _ := m_findWorlds hz h4 h1 h7 (m := 0) (by decide)
      generalize hT : fS (wS σ 64 (lA (gl L k B S 0 1024) (σ.2.1 64))) 45 33 (nI (gl L k B S 0 1024).length) = τ at hfw
      have hzT : τ.2.2 = true := by rw [← hT]; exact hz
      have hIT : Iw τ L k B S := by rw [← hT]; exact iw_goods hI _ _
      have e33 : τ.1 45 33 = nI (gl L k B S 0 1024).length := by rw [← hT]; rfl
      refine ⟨σ.1 33 2, mk τ, ?_, m_O hz, ?_, τ, rfl, L, k, B, S, hIT⟩
      · unfold fX8_count; simp only [show (6 : Int32) < 11 from l11 6 (by decide), n0, n1, n2, n3, n4, n5, if_false, if_true, c_R, c_I, o_b]
      · unfold fX9_count; simp only [n_in, hw, o_b, b2i_f, n0, n1, n2, n3, n4, n5, if_false, if_true, m_O hz, hfw, m_I hzT, e33]; rw [h9.1]
    by_cases n7 : a1 = 7
    · subst n7
      obtain ⟨t, t1, t2, t3, t4⟩ := h11
      refine gv (σ.1 41 0) ?_ ?_
      · unfold fX8_count; simp only [show (7 : Int32) < 11 from l11 7 (by decide), n0, n1, n2, n3, n4, n5, n6, if_false, if_true, c_R, c_I, o_b]
      · unfold fX9_count; simp only [n_in, hw, o_b, b2i_f, n0, n1, n2, n3, n4, n5, n6, if_false, if_true, m_I hz]; rw [t2, t3]
    by_cases n8 : a1 = 8
    · subst n8
      obtain ⟨t, t1, t2, t3, t4⟩ := h10
      refine gv (σ.1 1 0) ?_ ?_
      · unfold fX8_count; simp only [show (8 : Int32) < 11 from l11 8 (by decide), n0, n1, n2, n3, n4, n5, n6, n7, if_false, if_true, c_R, c_I, o_b]
      · unfold fX9_count; simp only [n_in, hw, o_b, b2i_f, n0, n1, n2, n3, n4, n5, n6, n7, if_false, if_true, m_I hz]; rw [t2, t3]
    by_cases n9 : a1 = 9
    · subst n9
      have hin : σ.1 3 13 < 0 ↔ σ.1 45 14 < 0 := by
        rcases h3 with ⟨q, -, -, q3⟩ | ⟨q, -, -, q3⟩
        · rcases h5 with ⟨-, r⟩ | ⟨r, -⟩
          · rw [q3, r]; decide
          · omega
        · rcases h5 with ⟨r, -⟩ | ⟨-, -, -, r⟩
          · omega
          · rw [q3, r]
      have eh : fX3_hasInn 3 (mk σ) = some (if σ.1 3 13 < 0 then 0 else 1) := by
        unfold fX3_hasInn
        simp only [c_I, o_b]
        by_cases q : σ.1 3 13 < 0
        · simp [q]; rfl
        · simp [q]; rfl
      refine gv (if σ.1 3 13 < 0 then 0 else 1) ?_ ?_
      · unfold fX8_count; simp only [show (9 : Int32) < 11 from l11 9 (by decide), n0, n1, n2, n3, n4, n5, n6, n7, n8, if_false, if_true, c_R, c_O, eh, o_b]
        by_cases q : σ.1 3 13 < 0
        · simp [q]
        · simp [q]
      · unfold fX9_count; simp only [n_in, hw, o_b, b2i_f, n0, n1, n2, n3, n4, n5, n6, n7, n8, if_false, if_true, m_I hz]
        by_cases q : σ.1 3 13 < 0
        · simp [q, hin.mp q]
        · simp [q, show ¬ σ.1 45 14 < 0 from fun z => q (hin.mpr z)]
    refine gv (-9) ?_ ?_
    · unfold fX8_count
      simp only [n0, n1, n2, n3, n4, n5, n6, n7, n8, n9, if_false]
      rcases hio with q | q
      · rw [if_pos q]
      · by_cases q2 : a1 < 11
        · rw [if_pos q2]
        · rw [if_neg q2, if_pos q]
    · unfold fX9_count
      simp only [n_in, hw, o_b, b2i_f, n0, n1, n2, n3, n4, n5, n6, n7, n8, n9, if_false, if_true]
