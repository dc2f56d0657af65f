/-! ===== 37: obligations: letter, road, shown, fits, good, says, worlds, row ===== -/
theorem hne : ¬ ((1 : Int32) = 0) := by decide
theorem n_bound (x a b : Int32) : fX9_bound x a b = some (if a ≤ x then (if x ≤ b then 0 else -6) else -4) := by
  unfold fX9_bound
  by_cases h1 : a ≤ x
  · by_cases h2 : x ≤ b
    · simp [h1, h2]
    · simp [h1, h2]
  · simp [h1]
/-- the signs of a road, as bits -/
def sgn (L : Ld) (r : Nat) : Nat → Nat
  | 0 => 0
  | n + 1 => if L.2 3 n = r then sgn L r n ||| 2 ^ n else sgn L r n
theorem c_signsOn {σ : St} {L : Ld} (hL : LC σ L) (ok : LdOK L) {r : Nat} (hr : r < 8) : fX3_signsOn 3 (nI r) (mk σ) = some (nI (sgn L r (L.1 3))) := by
  have c3 : σ.1 3 3 = nI (L.1 3) := hL.2.2.2.1
  have hsc := ok.2.2.2.1
  unfold fX3_signsOn
  refine lp_b (fun j => (nI (sgn L r j), nI j)) (L.1 3) (r := nI (sgn L r (L.1 3))) rfl ?_ ?_ rfl
  · intro j hj
    have hj6 : j < 6 := by omega
    have hso := (ok.2.2.2.2.2.1 j hj).2.1
    have hrc := ok.2.1
    dsimp only
    simp only [c_I, c_R, c_A, hj6, c3, o_b, hL.2.2.2.2.2.2.2.1 j hj6]
    rw [if_neg (nI_ge hj (by omega)), o_ite, n_shl1 j (by omega), n_or]
    show some (Sum.inl (_, nI j + 1)) = some (Sum.inl (nI (if L.2 3 j = r then sgn L r j ||| 2 ^ j else sgn L r j), nI (j + 1)))
    rw [show nI j + 1 = nI (j + 1) from nI_1 j]
    by_cases h : L.2 3 j = r
    · rw [h]; simp
    · rw [if_neg (fun z => h ((nI_eq (by omega) (by omega)).mp z)), if_neg h]
  · dsimp only
    simp only [c_I, c3, o_b]
    rw [if_pos (nI_le (Nat.le_refl _) (by omega))]
theorem ok0 : ql_o0 Inv := by
  rintro a1 h ⟨σ, rfl, L, k, B, S, hI⟩
  have hz := iw_z hI
  obtain ⟨h1, h2, h3, h4, h5, h6, h7, h8, h9, h10, h11, h12, h13, h14⟩ := id hI
  obtain ⟨t, t1, t2, t3, t4⟩ := h10
  rcases n_cases a1 with hn | ⟨j, hj, rfl⟩
  · have hle : ¬ (0 : Int32) ≤ a1 := by
      rw [Int32.le_iff_toInt_le]; rw [Int32.lt_iff_toInt_lt] at hn; omega
    refine fin_r (f9 := fun h => fX9_letter 45 a1 h) hI 4 (x := -4) ?_ ?_
    · unfold fX8_letter
      simp only [hle, if_false, c_O, o_b, c_ref4]
    · show fX9_letter 45 a1 _ = _
      unfold fX9_letter
      have hz1 : (aS σ 44 4 (σ.2.1 44 4 + 1)).2.2 = true := hz
      simp only [n_bound, hle, if_false, o_b, show ¬ ((-4 : Int32) = 0) by decide, m_O hz1, m_no4 hz1]
      rfl
  · have hle : (0 : Int32) ≤ nI j := nI_pos' hj
    have hn0 : ¬ nI j < 0 := nI_pos hj
    by_cases h255 : 255 < j
    · have q : (255 : Int32) < nI j := nI_lt (a := 255) h255 hj
      have q' : ¬ nI j ≤ (255 : Int32) := nI_ge (a := 255) h255 hj
      refine fin_r (f9 := fun h => fX9_letter 45 (nI j) h) hI 6 (x := -6) ?_ ?_
      · unfold fX8_letter
        simp only [hle, q, if_true, c_O, o_b, c_ref6]
      · show fX9_letter 45 (nI j) _ = _
        unfold fX9_letter
        have hz1 : (aS σ 44 6 (σ.2.1 44 6 + 1)).2.2 = true := hz
        simp only [n_bound, hle, if_true, q', if_false, o_b, show ¬ ((-6 : Int32) = 0) by decide, m_O hz1, m_no6 hz1]
        rfl
    · have q : ¬ (255 : Int32) < nI j := nI_nlt (b := 255) (a := 255) (by omega) (by decide) |> fun _ => by
        rw [show (255 : Int32) = nI 255 from rfl, nI_ltI (by decide) hj]; exact h255
      have q' : nI j ≤ (255 : Int32) := nI_le (b := 255) (by omega) (by decide)
      by_cases h80 : t = 80
      · subst h80
        refine fin_r (f9 := fun h => fX9_letter 45 (nI j) h) hI 6 (x := -6) ?_ ?_
        · unfold fX8_letter
          simp only [hle, q, if_true, if_false, c_O, c_R, c_I, t2, o_b, show ¬ (nI 80 < (80 : Int32)) by decide, c_ref6]
        · show fX9_letter 45 (nI j) _ = _
          unfold fX9_letter
          have hz1 : (aS σ 44 6 (σ.2.1 44 6 + 1)).2.2 = true := hz
          simp only [n_bound, hle, if_true, q', o_b, m_I hz1, aS_f, t3, if_false, show (nI 80 = (80 : Int32)) from rfl, show ¬ ((-6 : Int32) = 0) by decide, m_O hz1, m_no6 hz1]
          rfl
      · have ht : t < 80 := by omega
        have q3 : nI t < (80 : Int32) := nI_lt (b := 80) ht (by decide)
        have q4 : ¬ ((nI 80 : Int32) ≤ nI t) := nI_ge ht (by decide)
        have q5 : ¬ nI t = (80 : Int32) := fun z => h80 ((nI_eq (by omega) (by decide)).mp z)
        have ea : fX5_add 1 (nI j) (mk σ) = some (mk (fS (aS σ 2 t (nI j)) 1 0 (nI (t + 1)))) := by
          unfold fX5_add
          simp only [c_I, c_R, c_L, o_b, t2, q4, if_false, c_S, ht, aS_f, c_P, nI_1]
        refine fin (f9 := fun h => fX9_letter 45 (nI j) h) (r := nI (t + 1)) (σ1 := fS (aS σ 2 t (nI j)) 1 0 (nI (t + 1))) (σ2 := fS (aS (fS (aS σ 2 t (nI j)) 1 0 (nI (t + 1))) 56 t (nI j)) 45 25 (nI (t + 1))) ?_ hz ?_ ?_
        · unfold fX8_letter
          simp only [hle, q, if_true, if_false, c_O, c_R, c_I, t2, o_b, q3, ea]
          rfl
        · show fX9_letter 45 (nI j) _ = _
          unfold fX9_letter
          generalize hT : fS (aS σ 2 t (nI j)) 1 0 (nI (t + 1)) = τ
          have hz1 : τ.2.2 = true := by rw [← hT]; exact hz
          have u3 : τ.1 45 25 = nI t := by rw [← hT]; exact t3
          have hz2 : (aS τ 56 t (nI j)).2.2 = true := hz1
          have hz3 : (fS (aS τ 56 t (nI j)) 45 25 (nI (t + 1))).2.2 = true := hz1
          simp only [n_bound, hle, if_true, q', if_false, o_b, m_I hz1, u3, q5, m_R hz1, m_S hz1, ht, m_I hz2, aS_f, m_P hz2, nI_1, m_I hz3]
          rfl
        · refine ⟨L, k, B, S, h1, h2, h3, h4, h5, h6, h7, h8, h9, ⟨t + 1, by omega, rfl, rfl, fun i hi => ?_⟩, h11, h12, h13, hz⟩
          show ∃ c, c < 256 ∧ upd (σ.2.1 2) t (nI j) i = nI c ∧ upd (σ.2.1 56) t (nI j) i = nI c
          unfold upd
          by_cases hit : i = t
          · exact ⟨j, by omega, by simp [hit]⟩
          · simp only [hit, if_false]
            exact t4 i (by omega)
theorem ok2 : ql_o2 Inv := by
  rintro a1 a2 h ⟨σ, rfl, L, k, B, S, hI⟩
  have hz := iw_z hI
  obtain ⟨h1, h2, h3, h4, h5, h6, h7, h8, h9, h10, h11, h12, h13, h14⟩ := id hI
  have c1 : σ.1 3 1 = nI (L.1 1) := h2.2.1
  have m1 : σ.1 45 9 = nI (L.1 1) := h4.2.1
  have m3 : σ.1 45 11 = nI (L.1 3) := h4.2.2.2.1
  have hrc := h1.2.1
  have hsc := h1.2.2.2.1
  cases hs : inr_ a1 (nI (L.1 1)) with
  | false =>
    refine fin_r (f9 := fun h => fX9_road 45 a1 a2 h) hI 1 (x := -1) ?_ ?_
    · unfold fX8_road
      simp only [c_R, c_O, o_b, c_road, c1, hs, b2i_f, if_true, c_ref1]
    · show fX9_road 45 a1 a2 _ = _
      unfold fX9_road
      have hz1 : (aS σ 44 1 (σ.2.1 44 1 + 1)).2.2 = true := hz
      simp only [m_O hz1, o_b, m_I hz1, aS_f, m1, n_in, in_inr (show L.1 1 < 2 ^ 31 by omega), hs, b2i_f, if_true, m_no1 hz1]
      rfl
  | true =>
    obtain ⟨r, hr, rfl⟩ := inr_of (by omega) hs
    have hr8 : r < 8 := by omega
    have e2 : (2 : Int32) = nI 2 := rfl
    cases hw : decide (¬ a2 < 0 ∧ ¬ nI 2 < a2) with
    | false =>
      have n0 : ¬ a2 = 0 := fun q => absurd hw (by rw [(in_few (by decide)).mpr ⟨0, by decide, q⟩]; decide)
      have n1 : ¬ a2 = 1 := fun q => absurd hw (by rw [(in_few (by decide)).mpr ⟨1, by decide, q⟩]; decide)
      have n2 : ¬ a2 = 2 := fun q => absurd hw (by rw [(in_few (by decide)).mpr ⟨2, by decide, q⟩]; decide)
      refine fin_r (f9 := fun h => fX9_road 45 (nI r) a2 h) hI 2 (x := -2) ?_ ?_
      · unfold fX8_road
        simp only [c_R, c_O, o_b, c_road, c1, hs, b2i_t, hne, if_false, n0, n1, n2, c_ref2]
      · show fX9_road 45 (nI r) a2 _ = _
        unfold fX9_road
        have hz1 : (aS σ 44 2 (σ.2.1 44 2 + 1)).2.2 = true := hz
        simp only [m_O hz1, o_b, m_I hz1, aS_f, m1, n_in, in_inr (show L.1 1 < 2 ^ 31 by omega), hs, b2i_t, hne, if_false, show decide (¬ a2 < 0 ∧ ¬ (2 : Int32) < a2) = false from hw, b2i_f, if_true, m_no2 hz1]
        rfl
    | true =>
      obtain ⟨w, hw4, rfl⟩ := (in_few (by decide)).mp hw
      rcases (show w = 0 ∨ w = 1 ∨ w = 2 by omega) with rfl | rfl | rfl
      · refine fin_v (f9 := fun h => fX9_road 45 (nI r) (nI 0) h) hI (x := nI (L.2 0 r)) ?_ ?_
        · unfold fX8_road
          simp only [c_R, c_O, o_b, c_road, c1, hs, b2i_t, hne, if_false, c_A, hr8, h2.2.2.2.2.1 r hr8]
          rfl
        · show fX9_road 45 (nI r) (nI 0) _ = _
          unfold fX9_road
          simp only [m_O hz, o_b, m_I hz, m1, n_in, in_inr (show L.1 1 < 2 ^ 31 by omega), hs, b2i_t, hne, if_false, e2, hw, m_R hz, m_A hz, hr8, h4.2.2.2.2.1 r hr8]
          rfl
      · refine fin_v (f9 := fun h => fX9_road 45 (nI r) (nI 1) h) hI (x := nI (L.2 1 r)) ?_ ?_
        · unfold fX8_road
          simp only [c_R, c_O, o_b, c_road, c1, hs, b2i_t, hne, if_false, c_A, hr8, h2.2.2.2.2.2.1 r hr8]
          rfl
        · show fX9_road 45 (nI r) (nI 1) _ = _
          unfold fX9_road
          simp only [m_O hz, o_b, m_I hz, m1, n_in, in_inr (show L.1 1 < 2 ^ 31 by omega), hs, b2i_t, hne, if_false, e2, hw, m_R hz, m_A hz, hr8, h4.2.2.2.2.2.1 r hr8]
          rfl
      · refine fin_v (f9 := fun h => fX9_road 45 (nI r) (nI 2) h) hI (x := nI (sgn L r (L.1 3))) ?_ ?_
        · unfold fX8_road
          simp only [c_R, c_O, o_b, c_road, c1, hs, b2i_t, hne, if_false, c_signsOn h2 h1 hr8]
          rfl
        · show fX9_road 45 (nI r) (nI 2) _ = _
          unfold fX9_road
          simp only [m_O hz, o_b, m_I hz, m1, n_in, in_inr (show L.1 1 < 2 ^ 31 by omega), hs, b2i_t, hne, if_false, e2, hw, show ((nI 2 : Int32) ≤ nI 2) by decide, if_true]
          refine lp_b (fun j => (nI (sgn L r j), nI j)) (L.1 3) (r := nI (sgn L r (L.1 3))) rfl ?_ ?_ rfl
          · intro j hj
            have hj6 : j < 6 := by omega
            have hso := (h1.2.2.2.2.2.1 j hj).2.1
            dsimp only
            simp only [m_R hz, m_A hz, hj6, m3, o_b, h4.2.2.2.2.2.2.2.1 j hj6]
            rw [if_neg (nI_ge hj (by omega)), o_ite, n_shl1 j (by omega)]
            show some (Sum.inl (_, nI j + 1)) = some (Sum.inl (nI (if L.2 3 j = r then sgn L r j ||| 2 ^ j else sgn L r j), nI (j + 1)))
            rw [show nI j + 1 = nI (j + 1) from nI_1 j]
            by_cases h : L.2 3 j = r
            · rw [h]; simp [n_or]
            · rw [if_neg (fun z => h ((nI_eq (by omega) (by omega)).mp z)), if_neg h, show (0 : Int32) = nI 0 from rfl, n_or]
              simp
          · dsimp only
            simp only [m3]
            rw [if_pos (nI_le (Nat.le_refl _) (by omega))]
theorem ok4 : ql_o4 Inv := by
  rintro a1 h ⟨σ, rfl, L, k, B, S, hI⟩
  have hz := iw_z hI
  obtain ⟨h1, h2, h3, h4, h5, h6, h7, h8, h9, h10, h11, h12, h13, h14⟩ := id hI
  have c0 : σ.1 3 0 = nI (L.1 0) := h2.1
  have m0 : σ.1 45 8 = nI (L.1 0) := h4.1
  have hpc := h1.1.2
  cases hs : inr_ a1 (nI (L.1 0)) with
  | false =>
    refine fin_r (f9 := fun h => fX9_shown 45 a1 h) hI 1 (x := -1) ?_ ?_
    · unfold fX8_shown
      simp only [c_R, c_O, o_b, c_place, c0, hs, b2i_f, if_true, c_ref1]
    · show fX9_shown 45 a1 _ = _
      unfold fX9_shown
      have hz1 : (aS σ 44 1 (σ.2.1 44 1 + 1)).2.2 = true := hz
      simp only [m_O hz1, o_b, m_place hz1, aS_f, m0, hs, b2i_f, if_true, m_no1 hz1]
      rfl
  | true =>
    obtain ⟨p, hp, rfl⟩ := inr_of (by omega) hs
    have hp6 : p < 6 := by omega
    refine fin_v (f9 := fun h => fX9_shown 45 (nI p) h) hI (x := nI (L.2 6 p)) ?_ ?_
    · unfold fX8_shown
      simp only [c_R, c_O, o_b, c_place, c0, hs, b2i_t, hne, if_false, c_A, hp6, h2.2.2.2.2.2.2.2.2.2.2 p hp6]
    · show fX9_shown 45 (nI p) _ = _
      unfold fX9_shown
      simp only [m_O hz, o_b, m_place hz, m0, hs, b2i_t, hne, if_false, m_R hz, m_A hz, hp6, h4.2.2.2.2.2.2.2.2.2.2 p hp6]
theorem ok5 : ql_o5 Inv := by
  rintro a1 h ⟨σ, rfl, L, k, B, S, hI⟩
  have hz := iw_z hI
  obtain ⟨h1, h2, h3, h4, h5, h6, h7, h8, h9, h10, h11, h12, h13, h14⟩ := id hI
  have hsc := h1.2.2.2.1
  cases hs : isWx L a1 with
  | false =>
    refine fin_r (f9 := fun h => fX9_fits 45 a1 h) hI 1 (x := -1) ?_ ?_
    · unfold fX8_fits
      simp only [c_R, c_O, o_b, c_hasw h1 h8.1, hs, b2i_f, if_true, c_ref1]
    · show fX9_fits 45 a1 _ = _
      unfold fX9_fits
      have hz1 : (aS σ 44 1 (σ.2.1 44 1 + 1)).2.2 = true := hz
      have h4' : LM (aS σ 44 1 (σ.2.1 44 1 + 1)) L := h4
      simp only [m_O hz1, o_b, m_isW hz1 h4' h1, hs, b2i_f, if_true, m_no1 hz1]
      rfl
  | true =>
    obtain ⟨w, hw, rfl, h2w⟩ := isWx_of h1 hs
    have hwl := wr_le L w
    refine fin_v (f9 := fun h => fX9_fits 45 (nI w) h) hI (x := b2i (decide (wr L w = 0))) ?_ ?_
    · unfold fX8_fits
      simp only [c_R, c_O, o_b, c_hasw h1 h8.1, hs, b2i_t, hne, if_false, c_fit h1 h8, Bool.true_and, nI_clamp (show w < 2 ^ 31 by omega)]
      cases decide (wr L w = 0) <;> rfl
    · show fX9_fits 45 (nI w) _ = _
      unfold fX9_fits
      simp only [m_O hz, o_b, m_isW hz h4 h1, hs, b2i_t, hne, if_false, m_wr hz h4 h1 (show w < 2 ^ 31 by omega)]
      by_cases q : wr L w = 0
      · rw [q]; rfl
      · rw [if_neg (show ¬ nI (wr L w) = 0 from nI_ne0 (by omega) (by omega))]
        simp [q]; rfl
theorem gq0 {L : Ld} {k : Nat} {B : Nat → Nat} {S : Nat → Bool} {w : Nat} : gq L k B S 0 w = (isW L w && (decide (wr L w = 0) && fok k B S w)) := by
  unfold gq
  congr 2
  simp
theorem m_good {σ : St} (hz : σ.2.2 = true) {L : Ld} (hL : LM σ L) (ok : LdOK L) {k : Nat} {B : Nat → Nat} {S : Nat → Bool} (hF : FM σ k B S) {w : Nat} (hw : w < 1024) : fX9_isGood 45 (nI w) (mk σ) = some (b2i (gq L k B S 0 w)) := by
  have hwl := wr_le L w
  have hsc := ok.2.2.2.1
  unfold fX9_isGood
  rw [gq0]
  simp only [m_O hz, o_b, m_isW hz hL ok, isWx_n (show w < 2 ^ 31 by omega), m_wr hz hL ok (show w < 2 ^ 31 by omega), m_allFound hz hF, m_fok hz hF (show w < 2 ^ 31 by omega)]
  cases isW L w with
  | false => rfl
  | true =>
    by_cases q : wr L w = 0
    · rw [q]
      cases fok k B S w <;> rfl
    · rw [if_neg (show ¬ b2i true = 0 by decide), if_neg (show ¬ nI (wr L w) = 0 from nI_ne0 (by omega) (by omega))]
      simp [q]; rfl
theorem ok6 : ql_o6 Inv := by
  rintro a1 h ⟨σ, rfl, L, k, B, S, hI⟩
  have hz := iw_z hI
  obtain ⟨h1, h2, h3, h4, h5, h6, h7, h8, h9, h10, h11, h12, h13, h14⟩ := id hI
  cases hs : isWx L a1 with
  | false =>
    refine fin_r (f9 := fun h => fX9_good 45 a1 h) hI 1 (x := -1) ?_ ?_
    · unfold fX8_good
      simp only [c_R, c_O, o_b, c_hasw h1 h8.1, hs, b2i_f, if_true, c_ref1]
    · show fX9_good 45 a1 _ = _
      unfold fX9_good
      have hz1 : (aS σ 44 1 (σ.2.1 44 1 + 1)).2.2 = true := hz
      have h4' : LM (aS σ 44 1 (σ.2.1 44 1 + 1)) L := h4
      simp only [m_O hz1, o_b, m_isW hz1 h4' h1, hs, b2i_f, if_true, m_no1 hz1]
      rfl
  | true =>
    obtain ⟨w, hw, rfl, h2w⟩ := isWx_of h1 hs
    refine fin_v (f9 := fun h => fX9_good 45 (nI w) h) hI (x := b2i (gq L k B S 0 w)) ?_ ?_
    · unfold fX8_good
      simp only [c_R, c_O, o_b, c_hasw h1 h8.1, hs, b2i_t, hne, if_false, c_good h1 h8 (fun i hi => (h6.2.2 i hi).2.2) h9.2.1 h9.2.2.1, Bool.true_and, nI_clamp (show w < 2 ^ 31 by omega)]
      cases gq L k B S 0 w <;> rfl
    · show fX9_good 45 (nI w) _ = _
      unfold fX9_good
      simp only [m_O hz, o_b, m_isW hz h4 h1, hs, b2i_t, hne, if_false, m_good hz h4 h1 h7 hw]
      cases gq L k B S 0 w <;> rfl
theorem ok7 : ql_o7 Inv := by
  rintro a1 a2 h ⟨σ, rfl, L, k, B, S, hI⟩
  have hz := iw_z hI
  obtain ⟨h1, h2, h3, h4, h5, h6, h7, h8, h9, h10, h11, h12, h13, h14⟩ := id hI
  have c3 : σ.1 3 3 = nI (L.1 3) := h2.2.2.2.1
  have m3 : σ.1 45 11 = nI (L.1 3) := h4.2.2.2.1
  have hsc := h1.2.2.2.1
  have hz1 : (aS σ 44 1 (σ.2.1 44 1 + 1)).2.2 = true := hz
  have h4' : LM (aS σ 44 1 (σ.2.1 44 1 + 1)) L := h4
  cases hs : inr_ a1 (nI (L.1 3)) with
  | false =>
    refine fin_r (f9 := fun h => fX9_says 45 a1 a2 h) hI 1 (x := -1) ?_ ?_
    · unfold fX8_says
      simp only [c_R, c_O, o_b, c_sign, c3, hs, b2i_f, if_true, c_ref1]
    · show fX9_says 45 a1 a2 _ = _
      unfold fX9_says
      simp only [m_O hz1, o_b, m_sign hz1, aS_f, m3, hs, b2i_f, if_true, m_no1 hz1]
      rfl
  | true =>
    obtain ⟨s, hs2, rfl⟩ := inr_of (by omega) hs
    cases hs3 : isWx L a2 with
    | false =>
      refine fin_r (f9 := fun h => fX9_says 45 (nI s) a2 h) hI 1 (x := -1) ?_ ?_
      · unfold fX8_says
        simp only [c_R, c_O, o_b, c_sign, c3, hs, b2i_t, hne, if_false, c_hasw h1 h8.1, hs3, b2i_f, if_true, c_ref1]
      · show fX9_says 45 (nI s) a2 _ = _
        unfold fX9_says
        simp only [m_O hz1, o_b, m_sign hz1, aS_f, m3, hs, b2i_t, hne, if_false, m_isW hz1 h4' h1, hs3, b2i_f, if_true, m_no1 hz1]
        rfl
    | true =>
      obtain ⟨w, hw, rfl, h2w⟩ := isWx_of h1 hs3
      refine fin_v (f9 := fun h => fX9_says 45 (nI s) (nI w) h) hI (x := b2i (say L s w)) ?_ ?_
      · unfold fX8_says
        simp only [c_R, c_O, o_b, c_sign, c3, hs, b2i_t, hne, if_false, c_hasw h1 h8.1, hs3, c_says h2 h1 hs2 (show w < 2 ^ 31 by omega)]
        cases say L s w <;> rfl
      · show fX9_says 45 (nI s) (nI w) _ = _
        unfold fX9_says
        simp only [m_O hz, o_b, m_sign hz, m3, hs, b2i_t, hne, if_false, m_isW hz h4 h1, hs3, m_says hz h4 h1 hs2 (show w < 2 ^ 31 by omega)]
/-- the reference's scratch may be anything: goods, goodMany -/
theorem iw_goods {σ : St} {L : Ld} {k : Nat} {B : Nat → Nat} {S : Nat → Bool} (h : Iw σ L k B S) (g : Nat → Int32) (n : Int32) : Iw (fS (wS σ 64 g) 45 33 n) L k B S := h
theorem ok8 : ql_o8 Inv := by
  rintro a1 h ⟨σ, rfl, L, k, B, S, hI⟩
  have hz := iw_z hI
  obtain ⟨h1, h2, h3, h4, h5, h6, h7, h8, h9, h10, h11, h12, h13, h14⟩ := id hI
  by_cases hq : (-1 : Int32) ≤ a1
  · have hfw := m_findWorlds hz h4 h1 h7 (m := 0) (by decide)
    have hfw : fX9_findWorlds 45 0 (mk σ) = _ := hfw
    have hlen := gl_le L k B S 0 1024
    generalize hT : fS (wS σ 64 (lA (gl L k B S 0 1024) (σ.2.1 64))) 45 33 (nI (gl L k B S 0 1024).length) = τ at hfw
    have hzT : τ.2.2 = true := by rw [← hT]; exact hz
    have hIT : Iw τ L k B S := by rw [← hT]; exact iw_goods hI _ _
    have e33 : τ.1 45 33 = nI (gl L k B S 0 1024).length := by rw [← hT]; rfl
    have e64 : ∀ i, i < (gl L k B S 0 1024).length → τ.2.1 64 i = nI ((gl L k B S 0 1024).getD i 0) := by
      intro i hi
      rw [← hT, fS_a, wS_a, if_pos rfl]
      exact lA_at hi
    by_cases hm1 : a1 = -1
    · subst hm1
      refine fin (f9 := fun h => fX9_worlds 45 (-1) h) (σ1 := σ) (σ2 := τ) (r := nI (gl L k B S 0 1024).length) ?_ hz ?_ ⟨L, k, B, S, hIT⟩
      · unfold fX8_worlds
        simp only [hq, if_true, c_R, c_I, o_b, h9.1]
      · show fX9_worlds 45 (-1) _ = _
        unfold fX9_worlds
        simp only [hq, if_true, m_O hz, o_b, hfw, m_I hzT, e33]
    · have hnn : ¬ a1 < 0 := by
        rw [Int32.le_iff_toInt_le, show (-1 : Int32).toInt = -1 by decide] at hq
        rw [Int32.lt_iff_toInt_lt, show (0 : Int32).toInt = 0 by decide]
        have : a1.toInt ≠ -1 := fun z => hm1 (Int32.toInt_inj.mp (by rw [z]; rfl))
        omega
      obtain ⟨j, hj, rfl⟩ := nI_of hnn
      by_cases hjl : j < (gl L k B S 0 1024).length
      · have q : ¬ nI (gl L k B S 0 1024).length ≤ nI j := nI_ge hjl (by omega)
        have hj4 : j < 1024 := by omega
        refine fin (f9 := fun h => fX9_worlds 45 (nI j) h) (σ1 := σ) (σ2 := τ) (r := nI ((gl L k B S 0 1024).getD j 0)) ?_ hz ?_ ⟨L, k, B, S, hIT⟩
        · unfold fX8_worlds
          simp only [hq, hm1, if_true, if_false, c_R, c_I, o_b, h9.1, q, c_A, hj4, h9.2.2.2 j hjl]
        · show fX9_worlds 45 (nI j) _ = _
          unfold fX9_worlds
          simp only [hq, hm1, if_true, if_false, m_O hz, o_b, hfw, m_I hzT, e33, q, m_R hzT, m_A hzT, hj4, e64 j hjl]
      · have q : nI (gl L k B S 0 1024).length ≤ nI j := nI_le (by omega) hj
        refine fin (f9 := fun h => fX9_worlds 45 (nI j) h) (σ1 := σ) (σ2 := τ) (r := -9) ?_ hz ?_ ⟨L, k, B, S, hIT⟩
        · unfold fX8_worlds
          simp only [hq, hm1, if_true, if_false, c_R, c_I, o_b, h9.1, q]
        · show fX9_worlds 45 (nI j) _ = _
          unfold fX9_worlds
          simp only [hq, hm1, if_true, if_false, m_O hz, o_b, hfw, m_I hzT, e33, q]
  · have hz1 : (aS σ 44 4 (σ.2.1 44 4 + 1)).2.2 = true := hz
    refine fin_r (f9 := fun h => fX9_worlds 45 a1 h) hI 4 (x := -4) ?_ ?_
    · unfold fX8_worlds
      simp only [hq, if_false, c_O, o_b, c_ref4]
    · show fX9_worlds 45 a1 _ = _
      unfold fX9_worlds
      simp only [hq, if_false, m_O hz1, o_b, m_no4 hz1]
      rfl
