/-! ===== 77: obligation: go, the two together ===== -/
theorem go_e {L : Ld} {a : Nat → Int32} {l : List Nat} (b : Bool) (ok : LdOK L) (hP : ∀ k s, k < 2 ^ L.1 2 → s &&& k = s → PR L (cM l l.length) a k s) (hl : 0 < l.length) {p : Nat} (hp : p < L.1 0) : cond b (if 1000 ≤ wv L (cM l l.length) (Wi L (cM l l.length) 20) 0 0 p then (-9 : Int32) else if l.length = 0 then -9 else if Wi L (cM l l.length) 20 (81 * p + tc (L.2 6 p) (l.getD 0 0 &&& L.2 6 p)) = 0 then -9 else rp (bnS L (wv L (cM l l.length) (Wi L (cM l l.length) 20) (L.2 6 p) (l.getD 0 0 &&& L.2 6 p)) p (L.1 0)).1) (if wv L (cM l l.length) (Wi L (cM l l.length) 20) 0 0 p < 1000 then nI (wv L (cM l l.length) (Wi L (cM l l.length) 20) 0 0 p) else -9) = cond b (if vA a p (L.2 6 p) (l.getD 0 0 &&& L.2 6 p) = 0 then -9 else if vA a p 0 0 ≤ 20 then (if fi (gqf L a p (L.2 6 p) (l.getD 0 0 &&& L.2 6 p)) (L.1 0) < L.1 0 then nI (fi (gqf L a p (L.2 6 p) (l.getD 0 0 &&& L.2 6 p)) (L.1 0)) else -9) else -9) (if vA a p 0 0 ≤ 20 then nI (vA a p 0 0) else -9) := by
  have hW : ∀ q kn so, q < L.1 0 → kn < 2 ^ L.1 2 → so &&& kn = so → okp L kn q = true → Wi L (cM l l.length) 20 (81 * q + tc kn so) = cap 20 (vA a q kn so) := fun q kn so h1 h2 h3 h4 => wi_cap ok hP 20 (by decide) q kn so h1 h2 h3 h4
  generalize Wi L (cM l l.length) 20 = W at hW ⊢
  rw [go_goal ok hP hl hp hW, go_least ok hP hp hW]
theorem go_0 {L : Ld} {l : List Nat} {W : Nat → Nat} {p : Nat} {x : Int32} (b : Bool) (hl : l.length = 0) : cond b (if 1000 ≤ wv L (cM l l.length) W 0 0 p then (-9 : Int32) else if l.length = 0 then -9 else x) (if wv L (cM l l.length) W 0 0 p < 1000 then nI (wv L (cM l l.length) W 0 0 p) else -9) = cond b (-9) 0 := by
  have h0 : wv L (cM l l.length) W 0 0 p = 0 := by
    rw [hl]
    exact Nat.le_zero.mp (wmx_le (fun f _ h _ => by cases h))
  rw [h0, hl]
  cases b <;> rfl
theorem ok20 : ql_o20 Inv := by
  rintro a1 a2 h ⟨σ, rfl, L, k, B, S, hI⟩
  have hz := iw_z hI
  obtain ⟨h1, h2, h3, h4, h5, h6, h7, h8, h9, h10, h11, h12, h13, h14⟩ := id hI
  have c0 : σ.1 3 0 = nI (L.1 0) := h2.1
  have m0 : σ.1 45 8 = nI (L.1 0) := h4.1
  have hpc := h1.1.2
  cases hs : inr_ a1 (nI (L.1 0)) with
  | false =>
    have hz1 : (aS σ 44 1 (σ.2.1 44 1 + 1)).2.2 = true := hz
    refine fin_r (f9 := fun h => fX9_go 45 a1 a2 h) hI 1 (x := -1) ?_ ?_
    · unfold fX8_go
      simp only [c_R, c_O, o_b, c_place, c0, hs, b2i_f, if_true, c_ref1]
    · show fX9_go 45 a1 a2 _ = _
      unfold fX9_go
      simp only [m_O hz1, o_b, m_place hz1, aS_f, m0, hs, b2i_f, if_true, m_no1 hz1]
      rfl
  | true =>
    obtain ⟨p, hp, rfl⟩ := inr_of (by omega) hs
    have e01 : (∃ b : Bool, a2 = b2i b) ∨ (¬ a2 = 0 ∧ ¬ a2 = 1) := by
      by_cases q0 : a2 = 0
      · exact Or.inl ⟨false, q0⟩
      · by_cases q1 : a2 = 1
        · exact Or.inl ⟨true, q1⟩
        · exact Or.inr ⟨q0, q1⟩
    rcases e01 with ⟨b, rfl⟩ | ⟨n0, n1⟩
    · have hin : fX9_isIn (b2i b) 0 1 = some 1 := by cases b <;> rfl
      rcases h1.2.2.2.2.2.2.2.2 with q4 | ⟨q4, z2, z3, z4, z5⟩
      · -- no inn
        have i13 : σ.1 3 13 = -1 := by
          rcases h3 with ⟨-, -, -, r⟩ | ⟨r, -⟩
          · exact r
          · omega
        have i14 : σ.1 45 14 = -9 := by
          rcases h5 with ⟨-, r⟩ | ⟨r, -⟩
          · exact r
          · omega
        have hz1 : (aS σ 44 3 (σ.2.1 44 3 + 1)).2.2 = true := hz
        refine fin_r (f9 := fun h => fX9_go 45 (nI p) (b2i b) h) hI 3 (x := -3) ?_ ?_
        · unfold fX8_go
          simp only [c_R, c_O, o_b, c_place, c0, hs, b2i_t, hne, if_false, c_inn, i13, show (-1 : Int32) < 0 by decide, if_true, c_ref3]
          cases b
          · rfl
          · rfl
        · show fX9_go 45 (nI p) (b2i b) _ = _
          unfold fX9_go
          simp only [m_O hz1, o_b, m_place hz1, aS_f, m0, hs, b2i_t, hne, if_false, hin, m_I hz1, i14, show ¬ (0 : Int32) ≤ -9 by decide, m_no3 hz1]
          rfl
      · -- an inn
        have i13 : ¬ σ.1 3 13 < 0 := by
          rcases h3 with ⟨r, -⟩ | ⟨-, -, -, r⟩
          · omega
          · rw [r]
            have := h1.2.2.1
            exact nI_pos (by omega)
        have hG := ca_of h9
        have hgl : gl L k B S 0 1024 = G0 L k B S := rfl
        generalize G0 L k B S = l at hG hgl
        have g2 : σ.1 33 2 = nI l.length := hG.1
        have hlen := hG.2.1
        by_cases h0 : l.length = 0
        · obtain ⟨ω, hw, hm⟩ := m_go hz h1 q4 hI hgl hp b
          rw [go_0 b h0] at hm
          refine fin (f9 := fun h => fX9_go 45 (nI p) (b2i b) h) (σ1 := σ) (σ2 := ω) (r := cond b (-9) 0) ?_ hz hm ⟨L, k, B, S, hw⟩
          unfold fX8_go
          simp only [c_R, c_O, o_b, c_place, c0, hs, b2i_t, hne, if_false, c_inn, i13, c_I, g2, h0, show nI 0 = 0 from rfl, if_true]
          cases b
          · rfl
          · rfl
        · obtain ⟨a, hP, hr⟩ := c_rk h2 h3 h1 q4 h8.1 hG
          have hIW : Iw (wS (wS σ 40 (cA (cM l l.length) 16 (σ.2.1 40))) 39 a) L k B S := hI
          have h39 : (wS (wS σ 40 (cA (cM l l.length) 16 (σ.2.1 40))) 39 a).2.1 39 = a := by rw [wS_a, if_pos rfl]
          have h34 : (wS (wS σ 40 (cA (cM l l.length) 16 (σ.2.1 40))) 39 a).2.1 34 = σ.2.1 34 := by rw [wS_a, if_neg (by decide), wS_a, if_neg (by decide)]
          generalize wS (wS σ 40 (cA (cM l l.length) 16 (σ.2.1 40))) 39 a = ω at hr hIW h39 h34
          have oz := iw_z hIW
          obtain ⟨ν, hw, hm⟩ := m_go oz h1 q4 hIW hgl hp b
          rw [go_e b h1 hP (by omega) hp] at hm
          have oLC : LC ω L := hIW.2.1
          have e34 : qv_aI (mk ω) false 34 0 = some (nI (l.getD 0 0)) := by
            have h := (hG.2.2 0 (by omega)).1
            rw [← h, ← h34]
            exact a_I (k := 0) (Or.inl (by decide)) (show tb[34]? = some (.inl (false, 1024)) from rfl) (by decide) rfl (by decide)
          have kl := c_least (σ := ω) (C := cM l l.length) h1 (by rw [h39]; exact hP 0 0 (Nat.two_pow_pos _) rfl) hp
          have kg := c_goal (σ := ω) (C := cM l l.length) oLC h1 (by rw [h39]; exact hP) (w := l.getD 0 0) hp
          rw [h39] at kl kg
          refine fin (f9 := fun h => fX9_go 45 (nI p) (b2i b) h) ?_ oz hm ⟨L, k, B, S, hw⟩
          have hn0 : ¬ nI l.length = 0 := nI_ne0 (by omega) (by omega)
          clear hm
          cases b with
          | false =>
            rw [cond_false]
            unfold fX8_go
            simp only [c_R, c_O, o_b, c_place, c0, hs, b2i_t, hne, if_false, c_inn, i13, c_I, g2, hn0, show b2i false = 0 from rfl, if_true, hr, kl]
          | true =>
            rw [cond_true]
            unfold fX8_go
            simp only [c_R, c_O, o_b, c_place, c0, hs, b2i_t, hne, if_false, c_inn, i13, c_I, g2, hn0, show b2i true = 1 from rfl, if_true, hr, e34, kg]
    · have hz1 : (aS σ 44 2 (σ.2.1 44 2 + 1)).2.2 = true := hz
      have hin : fX9_isIn a2 0 1 = some 0 := by
        rw [n_in]
        have : decide (¬ a2 < 0 ∧ ¬ (1 : Int32) < a2) = false := by
          cases hd : decide (¬ a2 < 0 ∧ ¬ (1 : Int32) < a2) with
          | false => rfl
          | true =>
            obtain ⟨j, hj, rfl⟩ := (in_few (n := 1) (by decide)).mp hd
            rcases (show j = 0 ∨ j = 1 by omega) with rfl | rfl
            · exact absurd rfl n0
            · exact absurd rfl n1
        rw [this]; rfl
      refine fin_r (f9 := fun h => fX9_go 45 (nI p) a2 h) hI 2 (x := -2) ?_ ?_
      · unfold fX8_go
        simp only [c_R, c_O, o_b, c_place, c0, hs, b2i_t, hne, if_false, n0, n1, c_ref2]
      · show fX9_go 45 (nI p) a2 _ = _
        unfold fX9_go
        simp only [m_O hz1, o_b, m_place hz1, aS_f, m0, hs, b2i_t, hne, if_false, hin, if_true, m_no2 hz1]
        rfl
