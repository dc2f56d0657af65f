/-! ===== 39: obligations: rings, judge, count ===== -/
def rgs (L : Ld) : Nat → Nat
  | 0 => 0
  | n + 1 => if L.2 2 n = 5 ∧ L.2 4 n = n then rgs L n ||| 2 ^ n else rgs L n
theorem c_back {σ : St} {L : Ld} (hL : LC σ L) (ok : LdOK L) {s : Nat} (hs : s < L.1 3) : fX3_comesBack 3 (nI s) (mk σ) = some (b2i (decide (L.2 2 s = 5 ∧ L.2 4 s = s))) := by
  have c3 : σ.1 3 3 = nI (L.1 3) := hL.2.2.2.1
  have hsc := ok.2.2.2.1
  unfold fX3_comesBack
  generalize hbody : (fun (x : Int32 × Int32) => match x with
    | (x1, x2) => (qv_gI (mk σ) 2 3 3).bind fun v3 => if v3 ≤ x2 then some (Sum.inr (Sum.inl ())) else (qv_ob (mk σ) 2 3).bind fun _ => (fX3_hasSign 3 x1 (mk σ)).bind fun v5 => if v5 = 0 then some (Sum.inr (Sum.inr (0 : Int32))) else (qv_gR (mk σ) 2 3 6).bind fun v6 => (qv_aI (mk σ) false v6 x1).bind fun v7 => if v7 = (5 : Int32) then (qv_gR (mk σ) 2 3 8).bind fun v8 => (qv_aI (mk σ) false v8 x1).bind fun v9 => if v9 = nI s then some (Sum.inr (Sum.inr (1 : Int32))) else some (Sum.inl (v9, x2 + (1 : Int32))) else some (Sum.inr (Sum.inr (0 : Int32)))) = body
  have step : ∀ a j, a < L.1 3 → j < L.1 3 → body (nI a, nI j) = if L.2 2 a = 5 then (if L.2 4 a = s then some (.inr (.inr 1)) else some (.inl (nI (L.2 4 a), nI (j + 1)))) else some (.inr (.inr 0)) := by
    intro a j ha hj
    have ha6 : a < 6 := by omega
    obtain ⟨k1, k2, k3, k4, k5, k6, k7⟩ := ok.2.2.2.2.2.1 a ha
    have e1 : inr_ (nI a) (nI (L.1 3)) = true := by rw [inr_n (by omega) (by omega)]; simpa using ha
    rw [← hbody]
    dsimp only
    simp only [c_I, c_O, c_R, c_A, ha6, c3, o_b, c_sign, e1, b2i_t, hne, if_false, hL.2.2.2.2.2.2.1 a ha6, hL.2.2.2.2.2.2.2.2.1 a ha6]
    rw [if_neg (nI_ge hj (by omega))]
    by_cases q : L.2 2 a = 5
    · rw [if_pos (show nI (L.2 2 a) = (5 : Int32) by rw [q]; rfl), if_pos q]
      by_cases q2 : L.2 4 a = s
      · rw [if_pos (by rw [q2]), if_pos q2]
      · rw [if_neg (fun z => q2 ((nI_eq (by omega) (by omega)).mp z)), if_neg q2]
        rw [show nI j + 1 = nI (j + 1) from nI_1 j]
    · rw [if_neg (show ¬ nI (L.2 2 a) = (5 : Int32) from fun z => q ((nI_eq (b := 5) (by omega) (by decide)).mp z)), if_neg q]
  have stop : ∀ a, body (nI a, nI (L.1 3)) = some (.inr (.inl ())) := by
    intro a
    rw [← hbody]
    dsimp only
    simp only [c_I, c3, o_b]
    rw [if_pos (nI_le (Nat.le_refl _) (by omega))]
  have low : ∀ d j a, L.1 3 - j = d → j ≤ L.1 3 → a < s → qv_loop body (nI a, nI j) = some (.inl ()) ∨ qv_loop body (nI a, nI j) = some (.inr 0) := by
    intro d
    induction d with
    | zero =>
      intro j a hd hj ha
      have : j = L.1 3 := by omega
      subst this
      exact Or.inl (qv_loop_r (stop a))
    | succ d ih =>
      intro j a hd hj ha
      have h1 := step a j (by omega) (by omega)
      by_cases q : L.2 2 a = 5
      · have k7 := (ok.2.2.2.2.2.1 a (by omega)).2.2.2.2.2.2 q
        rw [if_pos q, if_neg (by omega)] at h1
        rw [qv_loop_l h1]
        exact ih (j + 1) (L.2 4 a) (by omega) (by omega) (by omega)
      · rw [if_neg q] at h1
        exact Or.inr (qv_loop_r h1)
  have h1 := step s 0 hs (by omega)
  by_cases q : L.2 2 s = 5
  · rw [if_pos q] at h1
    by_cases q2 : L.2 4 s = s
    · rw [if_pos q2] at h1
      have : qv_loop body (nI s, (0 : Int32)) = _ := qv_loop_r h1
      rw [this]
      simp [q, q2]; rfl
    · rw [if_neg q2] at h1
      have k7 := (ok.2.2.2.2.2.1 s hs).2.2.2.2.2.2 q
      have e0 : qv_loop body (nI s, (0 : Int32)) = qv_loop body (nI (L.2 4 s), nI 1) := qv_loop_l h1
      rw [e0]
      rcases low (L.1 3 - 1) 1 (L.2 4 s) rfl (by omega) (by omega) with h | h <;> (rw [h]; simp [q2]; rfl)
  · rw [if_neg q] at h1
    have : qv_loop body (nI s, (0 : Int32)) = _ := qv_loop_r h1
    rw [this]
    simp [q]; rfl
theorem ok15 : ql_o15 Inv := by
  rintro h ⟨σ, rfl, L, k, B, S, hI⟩
  have hz := iw_z hI
  obtain ⟨h1, h2, h3, h4, h5, h6, h7, h8, h9, h10, h11, h12, h13, h14⟩ := id hI
  have c3 : σ.1 3 3 = nI (L.1 3) := h2.2.2.2.1
  have m3 : σ.1 45 11 = nI (L.1 3) := h4.2.2.2.1
  have hsc := h1.2.2.2.1
  refine ⟨nI (rgs L (L.1 3)), ?_, m_O hz, ?_, σ, rfl, L, k, B, S, hI⟩
  · unfold fX8_rings
    refine lp_b (fun j => (nI (rgs L j), nI j)) (L.1 3) (r := nI (rgs L (L.1 3))) rfl ?_ ?_ rfl
    · intro j hj
      dsimp only
      simp only [c_I, c_R, c_O, c3, o_b, c_back h2 h1 hj]
      rw [if_neg (nI_ge hj (by omega)), o_ite, n_shl1 j (by omega), n_or]
      show some (Sum.inl (_, nI j + 1)) = some (Sum.inl (nI (if L.2 2 j = 5 ∧ L.2 4 j = j then rgs L j ||| 2 ^ j else rgs L j), nI (j + 1)))
      rw [show nI j + 1 = nI (j + 1) from nI_1 j]
      by_cases q : L.2 2 j = 5 ∧ L.2 4 j = j
      · simp [q, b2i]
      · simp [q, b2i]
    · dsimp only
      simp only [c_I, c_R, c3, o_b]
      rw [if_pos (nI_le (Nat.le_refl _) (by omega))]
  · unfold fX9_rings
    refine lp_b (fun j => (nI (rgs L j), nI j)) (L.1 3) (r := nI (rgs L (L.1 3))) rfl ?_ ?_ rfl
    · intro s hs
      dsimp only
      simp only [m_I hz, m3, o_b]
      rw [if_neg (nI_ge hs (by omega))]
      show _ = some (Sum.inl (nI (if L.2 2 s = 5 ∧ L.2 4 s = s then rgs L s ||| 2 ^ s else rgs L s), nI (s + 1)))
      generalize hbody : (fun (x : Int32 × Int32 × Int32) => match x with
        | (x4, x5, x6) => if nI (L.1 3) ≤ x6 then some (Sum.inr x4) else if x5 < 0 then some (Sum.inr x4) else (qv_gR (mk σ) 8 45 3).bind fun v8 => (qv_aI (mk σ) false v8 x5).bind fun v9 => Option.bind (α := Int32) (if v9 = (5 : Int32) then (qv_gR (mk σ) 8 45 5).bind fun v10 => (qv_aI (mk σ) false v10 x5).bind fun v11 => some v11 else some (-9 : Int32)) fun m12 => Option.bind (α := Int32) (if m12 = nI s then some (x4 ||| ((1 : Int32) <<< (nI s &&& 31))) else some x4) fun m13 => some (Sum.inl (m13, m12, x6 + (1 : Int32)))) = body
      have stop : ∀ v x, body (v, x, nI (L.1 3)) = some (.inr v) := by
        intro v x
        rw [← hbody]
        dsimp only
        rw [if_pos (nI_le (Nat.le_refl _) (by omega))]
      have stopN : ∀ v j, j ≤ L.1 3 → body (v, -9, nI j) = some (.inr v) := by
        intro v j hj
        rw [← hbody]
        dsimp only
        by_cases q : nI (L.1 3) ≤ nI j
        · rw [if_pos q]
        · rw [if_neg q, if_pos (by decide)]
      have step : ∀ v a j, a < L.1 3 → j < L.1 3 → body (v, nI a, nI j) = some (.inl (if L.2 2 a = 5 then (if L.2 4 a = s then (v ||| nI (2 ^ s), nI s, nI (j + 1)) else (v, nI (L.2 4 a), nI (j + 1))) else (v, -9, nI (j + 1)))) := by
        intro v a j ha hj
        have ha6 : a < 6 := by omega
        obtain ⟨k1, k2, k3, k4, k5, k6, k7⟩ := h1.2.2.2.2.2.1 a ha
        rw [← hbody]
        dsimp only
        rw [if_neg (nI_ge hj (by omega)), if_neg (nI_pos (by omega))]
        simp only [m_R hz, m_A hz, ha6, o_b, h4.2.2.2.2.2.2.1 a ha6, h4.2.2.2.2.2.2.2.2.1 a ha6, n_shl1 s (by omega)]
        rw [show nI j + 1 = nI (j + 1) from nI_1 j]
        by_cases q : L.2 2 a = 5
        · rw [if_pos (show nI (L.2 2 a) = (5 : Int32) by rw [q]; rfl), if_pos q]
          by_cases q2 : L.2 4 a = s
          · rw [if_pos q2, q2, o_b, if_pos rfl]; rfl
          · rw [if_neg q2, o_b, if_neg (fun z => q2 ((nI_eq (by omega) (by omega)).mp z))]; rfl
        · rw [if_neg (show ¬ nI (L.2 2 a) = (5 : Int32) from fun z => q ((nI_eq (b := 5) (by omega) (by decide)).mp z)), if_neg q, o_b, if_neg (fun z => absurd (show nI s < 0 by rw [← z]; decide) (nI_pos (by omega)))]; rfl
      have low : ∀ d j a v, L.1 3 - j = d → j ≤ L.1 3 → a < s → qv_loop body (v, nI a, nI j) = some v := by
        intro d
        induction d with
        | zero =>
          intro j a v hd hj ha
          have : j = L.1 3 := by omega
          subst this
          exact qv_loop_r (stop v (nI a))
        | succ d ih =>
          intro j a v hd hj ha
          have q1 := step v a j (by omega) (by omega)
          by_cases q : L.2 2 a = 5
          · have k7 := (h1.2.2.2.2.2.1 a (by omega)).2.2.2.2.2.2 q
            rw [if_pos q, if_neg (show ¬ L.2 4 a = s by omega)] at q1
            rw [qv_loop_l q1]
            exact ih (j + 1) (L.2 4 a) v (by omega) (by omega) (by omega)
          · rw [if_neg q] at q1
            rw [qv_loop_l q1]
            exact qv_loop_r (stopN v (j + 1) (by omega))
      have same : ∀ d j v, L.1 3 - j = d → j ≤ L.1 3 → L.2 2 s = 5 → L.2 4 s = s → v ||| nI (2 ^ s) = v → qv_loop body (v, nI s, nI j) = some v := by
        intro d
        induction d with
        | zero =>
          intro j v hd hj _ _ _
          have : j = L.1 3 := by omega
          subst this
          exact qv_loop_r (stop v (nI s))
        | succ d ih =>
          intro j v hd hj q q2 hv
          have q1 := step v s j hs (by omega)
          rw [if_pos q, if_pos q2, hv] at q1
          rw [qv_loop_l q1]
          exact ih (j + 1) v (by omega) (by omega) q q2 hv
      have q1 := step (nI (rgs L s)) s 0 hs (by omega)
      have fin1 : qv_loop body (nI (rgs L s), nI s, (0 : Int32)) = some (nI (if L.2 2 s = 5 ∧ L.2 4 s = s then rgs L s ||| 2 ^ s else rgs L s)) := by
        by_cases q : L.2 2 s = 5
        · rw [if_pos q] at q1
          by_cases q2 : L.2 4 s = s
          · rw [if_pos q2, n_or] at q1
            rw [if_pos ⟨q, q2⟩]
            have e0 : qv_loop body (nI (rgs L s), nI s, (0 : Int32)) = qv_loop body (nI (rgs L s ||| 2 ^ s), nI s, nI 1) := qv_loop_l q1
            rw [e0]
            refine same (L.1 3 - 1) 1 _ rfl (by omega) q q2 ?_
            rw [n_or, Nat.or_assoc, Nat.or_self]
          · rw [if_neg q2] at q1
            rw [if_neg (fun z => q2 z.2)]
            have k7 := (h1.2.2.2.2.2.1 s hs).2.2.2.2.2.2 q
            have e0 : qv_loop body (nI (rgs L s), nI s, (0 : Int32)) = qv_loop body (nI (rgs L s), nI (L.2 4 s), nI 1) := qv_loop_l q1
            rw [e0]
            exact low (L.1 3 - 1) 1 _ _ rfl (by omega) (by omega)
        · rw [if_neg q] at q1
          rw [if_neg (fun z => q z.1)]
          have e0 : qv_loop body (nI (rgs L s), nI s, (0 : Int32)) = qv_loop body (nI (rgs L s), -9, nI 1) := qv_loop_l q1
          rw [e0]
          exact qv_loop_r (stopN _ 1 (by omega))
      rw [fin1, o_b, show nI s + 1 = nI (s + 1) from nI_1 s]
    · dsimp only
      simp only [m_I hz, m3, o_b]
      rw [if_pos (nI_le (Nat.le_refl _) (by omega))]
theorem c_broken {σ : St} {k : Nat} {B : Nat → Nat} {S : Nat → Bool} (hF : FC σ k B S) {w : Nat} (hw : w < 2 ^ 31) : fX2_firstBroken 27 (nI w) (mk σ) = some (if fi (fun i => w.testBit (B i) != S i) k < k then nI (fi (fun i => w.testBit (B i) != S i) k) else -1) := by
  have q1 := hF.1
  have q2 := hF.2.1
  unfold fX2_firstBroken
  have key := lp_f (ρ := Unit ⊕ Int32) (body := fun x1 => (qv_gI (mk σ) 1 27 0).bind fun v2 => if v2 ≤ x1 then some (.inr (.inl ())) else (qv_gR (mk σ) 1 27 1).bind fun v3 => (qv_aI (mk σ) false v3 x1).bind fun v4 => (fX0_has (nI w) v4).bind fun v5 => (qv_gR (mk σ) 1 27 2).bind fun v6 => (qv_aI (mk σ) true v6 x1).bind fun v7 => if v5 = v7 then some (.inl (x1 + (1 : Int32))) else some (.inr (.inr x1))) (s := (0 : Int32)) (fun j => nI j) k (fun i => w.testBit (B i) != S i) (fun j => .inr (nI j)) (.inl ()) rfl (by
      intro j hj hp
      obtain ⟨a1, a2, a3⟩ := hF.2.2 j hj
      have hj12 : j < 12 := by omega
      simp only [c_I, c_R, c_A, hj12, q1, o_b, a1, a2, n_has hw (show B j < 32 by omega)]
      rw [if_neg (nI_ge hj (by omega))]
      have e : w.testBit (B j) = S j := by simpa using hp
      rw [e, if_pos rfl, show nI j + 1 = nI (j + 1) from nI_1 j]) (by
      intro j hj hp
      obtain ⟨a1, a2, a3⟩ := hF.2.2 j hj
      have hj12 : j < 12 := by omega
      simp only [c_I, c_R, c_A, hj12, q1, o_b, a1, a2, n_has hw (show B j < 32 by omega)]
      rw [if_neg (nI_ge hj (by omega))]
      have e : ¬ w.testBit (B j) = S j := by simpa using hp
      rw [if_neg (fun z => e (b2i_inj.mp z))]) (by
      simp only [c_I, q1, o_b]
      rw [if_pos (nI_le (Nat.le_refl _) (by omega))])
  rw [key]
  by_cases hq : fi (fun i => w.testBit (B i) != S i) k < k
  · simp only [hq, if_true]; rfl
  · simp only [hq, if_false]; rfl
theorem c_misf {σ : St} {L : Ld} (hL : LC σ L) (ok : LdOK L) {w : Nat} (hw : w < 2 ^ 31) : fX3_firstMisfit 3 (nI w) (mk σ) = some (if fi (mis L w) (L.1 3) < L.1 3 then nI (fi (mis L w) (L.1 3)) else -1) := by
  have c3 : σ.1 3 3 = nI (L.1 3) := hL.2.2.2.1
  have hsc := ok.2.2.2.1
  unfold fX3_firstMisfit
  have key := lp_f (ρ := Unit ⊕ Int32) (body := fun x1 => (qv_gI (mk σ) 2 3 3).bind fun v2 => if v2 ≤ x1 then some (.inr (.inl ())) else (qv_ob (mk σ) 2 3).bind fun _ => (fX3_isMisfit 3 x1 (nI w) (mk σ)).bind fun v4 => if v4 = 0 then some (.inl (x1 + (1 : Int32))) else some (.inr (.inr x1))) (s := (0 : Int32)) (fun j => nI j) (L.1 3) (mis L w) (fun j => .inr (nI j)) (.inl ()) rfl (by
      intro j hj hp
      simp only [c_I, c_O, c3, o_b, c_mis hL ok hj hw, hp]
      rw [if_neg (nI_ge hj (by omega)), if_pos (by decide), show nI j + 1 = nI (j + 1) from nI_1 j]) (by
      intro j hj hp
      simp only [c_I, c_O, c3, o_b, c_mis hL ok hj hw, hp]
      rw [if_neg (nI_ge hj (by omega)), if_neg (by decide)]) (by
      simp only [c_I, c3, o_b]
      rw [if_pos (nI_le (Nat.le_refl _) (by omega))])
  rw [key]
  by_cases hq : fi (mis L w) (L.1 3) < L.1 3
  · simp only [hq, if_true]; rfl
  · simp only [hq, if_false]; rfl
theorem ok25 : ql_o25 Inv := by
  rintro a1 h ⟨σ, rfl, L, k, B, S, hI⟩
  have hz := iw_z hI
  obtain ⟨h1, h2, h3, h4, h5, h6, h7, h8, h9, h10, h11, h12, h13, h14⟩ := id hI
  have m3 : σ.1 45 11 = nI (L.1 3) := h4.2.2.2.1
  have m17 : σ.1 45 17 = nI k := h7.1
  have hk12 := h7.2.1
  have hsc := h1.2.2.2.1
  cases hs : isWx L a1 with
  | false =>
    have hz1 : (aS σ 44 1 (σ.2.1 44 1 + 1)).2.2 = true := hz
    have h4' : LM (aS σ 44 1 (σ.2.1 44 1 + 1)) L := h4
    refine fin_r (f9 := fun h => fX9_judge 45 a1 h) hI 1 (x := -1) ?_ ?_
    · unfold fX8_judge
      simp only [c_R, c_O, o_b, c_hasw h1 h8.1, hs, b2i_f, if_true, c_ref1]
    · show fX9_judge 45 a1 _ = _
      unfold fX9_judge
      simp only [m_O hz1, o_b, m_isW hz1 h4' h1, hs, b2i_f, if_true, m_no1 hz1]
      rfl
  | true =>
    obtain ⟨w, hw, rfl, h2w⟩ := isWx_of h1 hs
    have hw2 : w < 2 ^ 31 := by omega
    have kA := lp_f (ρ := Unit ⊕ (Int32 × qv_H)) (body := fun x3 => (qv_gI (mk σ) 8 45 17).bind fun v4 => if v4 ≤ x3 then some (.inr (.inl ())) else (qv_ob (mk σ) 8 45).bind fun _ => (fX9_isFoundSo 45 x3 (nI w) (mk σ)).bind fun v6 => if v6 = 0 then some (.inr (.inr (x3, mk σ))) else some (.inl (x3 + (1 : Int32)))) (s := (0 : Int32)) (fun j => nI j) k (fun i => w.testBit (B i) != S i) (fun j => .inr (nI j, mk σ)) (.inl ()) rfl (by
        intro j hj hp
        simp only [m_I hz, m17, o_b, m_O hz, m_foundSo hz h7 hj hw2]
        rw [if_neg (nI_ge hj (by omega))]
        have e : w.testBit (B j) = S j := by simpa using hp
        rw [e, show nI j + 1 = nI (j + 1) from nI_1 j]
        simp [b2i]) (by
        intro j hj hp
        simp only [m_I hz, m17, o_b, m_O hz, m_foundSo hz h7 hj hw2]
        rw [if_neg (nI_ge hj (by omega))]
        have e : ¬ w.testBit (B j) = S j := by simpa using hp
        have e2 : (w.testBit (B j) == S j) = false := by simpa using e
        rw [e2, if_pos (by decide)]) (by
        simp only [m_I hz, m17, o_b]
        rw [if_pos (nI_le (Nat.le_refl _) (by omega))])
    have kB := lp_f (ρ := Unit ⊕ (Int32 × qv_H)) (body := fun x7 => (qv_gI (mk σ) 8 45 11).bind fun v8 => if v8 ≤ x7 then some (.inr (.inl ())) else (qv_ob (mk σ) 8 45).bind fun _ => (fX9_isRight 45 x7 (nI w) (mk σ)).bind fun v10 => if v10 = 0 then some (.inr (.inr ((100 : Int32) + x7, mk σ))) else some (.inl (x7 + (1 : Int32)))) (s := (0 : Int32)) (fun j => nI j) (L.1 3) (mis L w) (fun j => .inr ((100 : Int32) + nI j, mk σ)) (.inl ()) rfl (by
        intro j hj hp
        simp only [m_I hz, m3, o_b, m_O hz, m_right hz h4 h1 hj hw2, hp]
        rw [if_neg (nI_ge hj (by omega)), if_neg (by decide), show nI j + 1 = nI (j + 1) from nI_1 j]) (by
        intro j hj hp
        simp only [m_I hz, m3, o_b, m_O hz, m_right hz h4 h1 hj hw2, hp]
        rw [if_neg (nI_ge hj (by omega)), if_pos (by decide)]) (by
        simp only [m_I hz, m3, o_b]
        rw [if_pos (nI_le (Nat.le_refl _) (by omega))])
    by_cases p1 : fi (fun i => w.testBit (B i) != S i) k < k
    · refine fin_v (f9 := fun h => fX9_judge 45 (nI w) h) hI (x := nI (fi (fun i => w.testBit (B i) != S i) k)) ?_ ?_
      · unfold fX8_judge
        simp only [c_R, c_O, o_b, c_hasw h1 h8.1, hs, b2i_t, hne, if_false, c_broken h6 hw2, p1, if_true]
        rw [if_neg (nI_pos (by omega))]
      · show fX9_judge 45 (nI w) _ = _
        unfold fX9_judge
        simp only [m_O hz, o_b, m_isW hz h4 h1, hs, b2i_t, hne, if_false]
        simp only [m_O hz, o_b] at kA
        rw [kA, if_pos p1]
        rfl
    · by_cases p2 : fi (mis L w) (L.1 3) < L.1 3
      · refine fin_v (f9 := fun h => fX9_judge 45 (nI w) h) hI (x := (100 : Int32) + nI (fi (mis L w) (L.1 3))) ?_ ?_
        · unfold fX8_judge
          simp only [c_R, c_O, o_b, c_hasw h1 h8.1, hs, b2i_t, hne, if_false, c_broken h6 hw2, p1, c_misf h2 h1 hw2, p2, if_true]
          rw [if_pos (by decide), if_neg (nI_pos (by omega))]
          rfl
        · show fX9_judge 45 (nI w) _ = _
          unfold fX9_judge
          simp only [m_O hz, o_b, m_isW hz h4 h1, hs, b2i_t, hne, if_false]
          simp only [m_O hz, o_b] at kA kB
          rw [kA, if_neg p1]
          show Option.bind (qv_loop _ _) _ = _
          rw [kB, if_pos p2]
          rfl
      · refine fin_v (f9 := fun h => fX9_judge 45 (nI w) h) hI (x := -9) ?_ ?_
        · unfold fX8_judge
          simp only [c_R, c_O, o_b, c_hasw h1 h8.1, hs, b2i_t, hne, if_false, c_broken h6 hw2, p1, c_misf h2 h1 hw2, p2]
          rw [if_pos (by decide)]
          rfl
        · show fX9_judge 45 (nI w) _ = _
          unfold fX9_judge
          simp only [m_O hz, o_b, m_isW hz h4 h1, hs, b2i_t, hne, if_false]
          simp only [m_O hz, o_b] at kA kB
          rw [kA, if_neg p1]
          show Option.bind (qv_loop _ _) _ = _
          rw [kB, if_neg p2]
          rfl
