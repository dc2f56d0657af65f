/-! ===== 64: land: what comes in the reference ===== -/
def MS (σ τ : St) : Prop := (∀ o, o ≠ 45 → τ.1 o = σ.1 o) ∧ (∀ k, (k < 8 ∨ 14 < k) → τ.1 45 k = σ.1 45 k) ∧ (∀ o, (o < 47 ∨ 53 < o) → τ.2.1 o = σ.2.1 o) ∧ τ.2.2 = σ.2.2
theorem MS_r (σ : St) : MS σ σ := ⟨fun _ _ => rfl, fun _ _ => rfl, fun _ _ => rfl, rfl⟩
theorem MS_t {σ τ υ : St} (h : MS σ τ) (h2 : MS τ υ) : MS σ υ := ⟨fun o ho => (h2.1 o ho).trans (h.1 o ho), fun o ho => (h2.2.1 o ho).trans (h.2.1 o ho), fun o ho => (h2.2.2.1 o ho).trans (h.2.2.1 o ho), h2.2.2.2.trans h.2.2.2⟩
theorem MS_f (σ : St) {k : Nat} (h1 : 8 ≤ k) (h2 : k ≤ 14) (v : Int32) : MS σ (fS σ 45 k v) := ⟨fun o ho => by
  funext j
  rw [fS_f, if_neg ho], fun j hj => by
  rw [fS_f, if_pos rfl, if_neg (by omega)], fun _ _ => rfl, rfl⟩
theorem MS_a (σ : St) {o : Nat} (h1 : 47 ≤ o) (h2 : o ≤ 53) (k : Nat) (v : Int32) : MS σ (aS σ o k v) := ⟨fun _ _ => rfl, fun _ _ => rfl, fun p hp => by
  funext j
  rw [aS_a, if_neg (by omega)], rfl⟩
theorem mxs {a m : Nat} (ha : a < 1000) (hm : m < 1000) : (if nI a < nI m then some (nI m) else some (nI (a + 1))) = some (nI (max m (a + 1))) := by
  by_cases h : a < m
  · rw [if_pos (nI_lt h (by omega)), Nat.max_eq_left (by omega)]
  · rw [if_neg (nI_nlt (by omega) (by omega)), Nat.max_eq_right (by omega)]
section MT
variable {τ : St} {c : Nat → Nat} {t : Nat} {L : Ld} {k a : Nat}
theorem tp_9 (ok : LdOK L) : tp L ≤ 6 := by
  have h1 := tpI_9 ok
  have h2 := tpR_9 ok (L.1 1) (Nat.le_refl _)
  have h3 := tpS_9 (L := L) 6
  unfold tp
  omega
theorem m_told (hz : τ.2.2 = true) (hL : LM τ L) (hN : InnM (τ.1 45 12) (τ.1 45 13) (τ.1 45 14) L) (ok : LdOK L) : fX9_toldPlaces 45 (mk τ) = some (nI (tp L)) := by
  obtain ⟨l0, l1, l2, l3, l4, l5, l6, l7, l8, l9, l10⟩ := hL
  have hR := tpR_9 ok
  have hS := tpS_9 (L := L)
  have hrc := ok.2.1
  have hpc := ok.1.2
  unfold fX9_toldPlaces
  refine lp_b (fun r => (nI (tpR L r), nI r)) (L.1 1) (r := nI (tpR L (L.1 1))) rfl ?_ ?_ ?_
  · intro r hr
    have hr8 : r < 8 := by omega
    have h1 := hR r (by omega)
    obtain ⟨k1, k2, k3⟩ := ok.2.2.2.2.1 r hr
    dsimp only
    simp only [m_I hz, m_R hz, m_A hz, hr8, l1, o_b, l4 r hr8, l5 r hr8, nI_1]
    rw [if_neg (nI_ge hr (by omega)), mxs (by omega) (by omega), o_b, mxs (by omega) (by omega), o_b]
    show some (Sum.inl (nI (max (max (tpR L r) (L.2 0 r + 1)) (L.2 1 r + 1)), nI (r + 1))) = some (Sum.inl (nI (max (tpR L r) (max (L.2 0 r) (L.2 1 r) + 1)), nI (r + 1)))
    rw [show max (max (tpR L r) (L.2 0 r + 1)) (L.2 1 r + 1) = max (tpR L r) (max (L.2 0 r) (L.2 1 r) + 1) by omega]
  · dsimp only
    simp only [m_I hz, l1, o_b]
    rw [if_pos (nI_le (Nat.le_refl _) (by omega))]
  · have hRR := hR (L.1 1) (Nat.le_refl _)
    refine lp_b (fun p => (nI (max (tpR L (L.1 1)) (tpS L p)), nI p)) 6 (r := nI (max (tpR L (L.1 1)) (tpS L 6))) ?_ ?_ ?_ ?_
    · show (nI (tpR L (L.1 1)), (0 : Int32)) = (nI (max (tpR L (L.1 1)) 0), nI 0)
      rw [Nat.max_eq_left (Nat.zero_le _)]
      rfl
    · intro p hp
      have h1 := hS p
      have h7 := ok.2.2.2.2.2.2.1 p hp
      have h8 : 2 ^ L.1 2 ≤ 2 ^ 4 := Nat.pow_le_pow_right (by decide) ok.2.2.1
      dsimp only
      simp only [m_R hz, m_A hz, hp, o_b, l10 p hp, nI_1]
      rw [if_neg (show ¬ (6 : Int32) ≤ nI p from nI_ge (b := 6) hp (by decide)), mxs (by omega) (by omega)]
      show _ = some (Sum.inl (nI (max (tpR L (L.1 1)) (if L.2 6 p = 0 then tpS L p else max (tpS L p) (p + 1))), nI (p + 1)))
      by_cases hq : L.2 6 p = 0
      · rw [if_pos (show nI (L.2 6 p) = 0 by rw [hq]; rfl), if_pos hq]
        rfl
      · rw [if_neg (show ¬ nI (L.2 6 p) = 0 from nI_ne0 (by omega) (by omega)), if_neg hq, o_b, Nat.max_assoc]
    · dsimp only
      rw [if_pos (show (6 : Int32) ≤ nI 6 by decide)]
    · have h1 := hS 6
      unfold tp tpI
      rcases hN with ⟨q, r3⟩ | ⟨q, r1, r2, r3⟩
      · simp only [m_I hz, r3, o_b]
        rw [if_pos (show (-9 : Int32) < 0 by decide), if_neg (by omega), Nat.max_eq_right (Nat.zero_le _)]
        rfl
      · rcases ok.2.2.2.2.2.2.2.2 with z | ⟨z1, z2, z3, z4, z5⟩
        · omega
        · have hf := ok.2.2.1
          simp only [m_I hz, r1, r2, r3, o_b, nI_1]
          rw [if_neg (nI_pos (show L.1 7 < 2 ^ 31 by omega)), mxs (by omega) (by omega), o_b, mxs (by omega) (by omega), o_b, o_b, if_pos q, show max (max (max (tpR L (L.1 1)) (tpS L 6)) (L.1 5 + 1)) (L.1 6 + 1) = max (max (L.1 5) (L.1 6) + 1) (max (tpR L (L.1 1)) (tpS L 6)) by omega]
theorem m_may (hz : τ.2.2 = true) (hL : LM τ L) (ok : LdOK L) {kd x y : Nat} (hk : kd ≤ 6) (hx : x ≤ 9) (hy : y ≤ 9) : fX9_maySay 45 (nI kd) (nI x) (nI y) (mk τ) = some (b2i (may L kd x y)) := by
  have l2 : τ.1 45 10 = nI (L.1 2) := hL.2.2.1
  have l3 : τ.1 45 11 = nI (L.1 3) := hL.2.2.2.1
  have hfc := ok.2.2.1
  have hsc := ok.2.2.2.1
  have ea : inr_ (nI x) (nI (L.1 2)) = decide (x < L.1 2) := inr_n (by omega) (by omega)
  have eb : inr_ (nI y) (nI (L.1 2)) = decide (y < L.1 2) := inr_n (by omega) (by omega)
  unfold fX9_maySay may
  simp only [m_O hz, o_b, m_fact hz, l2, ea, eb, b2i_b1, m_I hz, l3]
  rcases kd_cases hk with rfl | rfl | rfl | rfl | rfl | rfl | rfl
  · rw [if_neg (show ¬ (2 : Int32) ≤ nI 0 by decide)]
    simp
  · rw [if_neg (show ¬ (2 : Int32) ≤ nI 1 by decide)]
    simp
  · rw [if_pos (show (2 : Int32) ≤ nI 2 by decide), if_neg (show ¬ (5 : Int32) ≤ nI 2 by decide)]
    by_cases h1 : x < L.1 2 <;> by_cases h2 : y < L.1 2 <;> simp [h1, h2] <;> rfl
  · rw [if_pos (show (2 : Int32) ≤ nI 3 by decide), if_neg (show ¬ (5 : Int32) ≤ nI 3 by decide)]
    by_cases h1 : x < L.1 2 <;> by_cases h2 : y < L.1 2 <;> simp [h1, h2] <;> rfl
  · rw [if_pos (show (2 : Int32) ≤ nI 4 by decide), if_neg (show ¬ (5 : Int32) ≤ nI 4 by decide)]
    by_cases h1 : x < L.1 2 <;> by_cases h2 : y < L.1 2 <;> simp [h1, h2] <;> rfl
  · rw [if_pos (show (2 : Int32) ≤ nI 5 by decide), if_pos (show (5 : Int32) ≤ nI 5 by decide), if_neg (show ¬ nI 5 = (6 : Int32) by decide)]
    by_cases h1 : x ≤ L.1 3
    · rw [if_neg (nI_nlt h1 (by omega))]
      simp [h1]
      rfl
    · rw [if_pos (nI_lt (by omega) (by omega))]
      simp [h1]
      rfl
  · rw [if_pos (show (2 : Int32) ≤ nI 6 by decide), if_pos (show (5 : Int32) ≤ nI 6 by decide), if_pos (show nI 6 = (6 : Int32) from rfl)]
    simp
    rfl
def TKm (τ : St) (o : Option Ld) (r : Option (Int32 × qv_H)) : Prop := ∃ τ', r = some (b2i o.isSome, mk τ') ∧ MS τ τ' ∧ ∀ L', o = some L' → LM τ' L' ∧ InnM (τ'.1 45 12) (τ'.1 45 13) (τ'.1 45 14) L'
theorem tkm_no {o : Option Ld} {r : Option (Int32 × qv_H)} (ho : o = none) (hr : r = some (0, mk τ)) : TKm τ o r := ⟨τ, by rw [hr, ho]; rfl, MS_r τ, fun L' h => by rw [ho] at h; cases h⟩
theorem q_102 (hz : τ.2.2 = true) (hL : LM τ L) (hN : InnM (τ.1 45 12) (τ.1 45 13) (τ.1 45 14) L) (ok : LdOK L) (hk : k < 41) (e57 : τ.2.1 57 k = nI 102) : TKm τ (if L.1 2 < 4 then some (uF L 2 (L.1 2 + 1)) else none) (fX9_comes 45 (nI k) (mk τ)) := by
  have l2 : τ.1 45 10 = nI (L.1 2) := hL.2.2.1
  have z1 : ∀ v, (fS τ 45 10 v).2.2 = true := fun _ => hz
  have e1 : ∀ v, (fS τ 45 10 v).1 45 10 = v := fun _ => rfl
  have hf := ok.2.2.1
  unfold fX9_comes
  simp only [m_R hz, m_A hz, hk, o_b, e57, show nI 102 = (102 : Int32) from rfl, if_true, m_I hz, l2, m_P hz, nI_1, m_I (z1 _), e1]
  by_cases h : L.1 2 < 4
  · rw [if_neg (show ¬ (4 : Int32) < nI (L.1 2 + 1) from nI_nlt (a := 4) (by omega) (by decide)), if_pos h]
    refine ⟨fS τ 45 10 (nI (L.1 2 + 1)), rfl, MS_f _ (by decide) (by decide) _, fun L' h' => ?_⟩
    cases h'
    obtain ⟨l0, l1, l2, l3, l4, l5, l6, l7, l8, l9, l10⟩ := hL
    exact ⟨⟨l0, l1, rfl, l3, l4, l5, l6, l7, l8, l9, l10⟩, hN⟩
  · rw [if_pos (show (4 : Int32) < nI (L.1 2 + 1) from nI_lt (a := 4) (by omega) (by omega)), if_neg h]
    exact ⟨fS τ 45 10 (nI (L.1 2 + 1)), rfl, MS_f _ (by decide) (by decide) _, fun L' h' => by cases h'⟩
theorem q_105 (hz : τ.2.2 = true) (hL : LM τ L) (hN : InnM (τ.1 45 12) (τ.1 45 13) (τ.1 45 14) L) (ok : LdOK L) (hk : k < 41) {x1 x2 x3 : Nat} (b1 : x1 ≤ 9) (b2 : x2 ≤ 9) (b3 : x3 ≤ 9) (e57 : τ.2.1 57 k = nI 105) (e59 : τ.2.1 59 k = nI x1) (e60 : τ.2.1 60 k = nI x2) (e61 : τ.2.1 61 k = nI x3) : TKm τ (if x1 < L.1 0 ∧ x2 < L.1 0 ∧ x1 ≠ x2 ∧ x3 < L.1 2 then some (uF (uF (uF (uF L 4 1) 5 x1) 6 x2) 7 x3) else none) (fX9_comes 45 (nI k) (mk τ)) := by
  have l0 : τ.1 45 8 = nI (L.1 0) := hL.1
  have l2 : τ.1 45 10 = nI (L.1 2) := hL.2.2.1
  have hp := ok.1.2
  have hf := ok.2.2.1
  have z1 : (fS τ 45 12 (nI x1)).2.2 = true := hz
  have z2 : (fS (fS τ 45 12 (nI x1)) 45 13 (nI x2)).2.2 = true := hz
  have f1 : (fS τ 45 12 (nI x1)).2.1 60 k = nI x2 := e60
  have f2 : (fS (fS τ 45 12 (nI x1)) 45 13 (nI x2)).2.1 61 k = nI x3 := e61
  unfold fX9_comes
  simp only [m_R hz, m_A hz, hk, o_b, e57, e59, e60, e61, show ¬ (nI 105 = (102 : Int32)) by decide, show ¬ (nI 105 = (108 : Int32)) by decide, show ¬ (nI 105 = (110 : Int32)) by decide, show ¬ (nI 105 = (114 : Int32)) by decide, show ¬ (nI 105 = (115 : Int32)) by decide, if_false, m_O hz, m_place hz, m_fact hz, l0, l2, inr_n (show x1 < 2 ^ 31 by omega) (show L.1 0 < 2 ^ 31 by omega), inr_n (show x2 < 2 ^ 31 by omega) (show L.1 0 < 2 ^ 31 by omega), inr_n (show x3 < 2 ^ 31 by omega) (show L.1 2 < 2 ^ 31 by omega), m_P hz, m_R z1, m_A z1, f1, m_P z1, m_R z2, m_A z2, f2, m_P z2]
  by_cases h1 : x1 < L.1 0
  · rw [decide_eq_true h1, if_neg (show ¬ b2i true = 0 from hne)]
    by_cases h2 : x2 < L.1 0
    · rw [decide_eq_true h2, if_neg (show ¬ b2i true = 0 from hne)]
      by_cases h3 : x1 = x2
      · rw [if_pos (show nI x1 = nI x2 by rw [h3]), if_neg (fun z => z.2.2.1 h3)]
        exact tkm_no rfl rfl
      · rw [if_neg (fun z => h3 ((nI_eq (by omega) (by omega)).mp z))]
        by_cases h4 : x3 < L.1 2
        · rw [decide_eq_true h4, if_neg (show ¬ b2i true = 0 from hne), if_pos ⟨h1, h2, h3, h4⟩]
          refine ⟨fS (fS (fS τ 45 12 (nI x1)) 45 13 (nI x2)) 45 14 (nI x3), rfl, MS_t (MS_t (MS_f _ (by decide) (by decide) _) (MS_f _ (by decide) (by decide) _)) (MS_f _ (by decide) (by decide) _), fun L' h' => ?_⟩
          cases h'
          exact ⟨hL, Or.inr ⟨rfl, rfl, rfl, rfl⟩⟩
        · rw [decide_eq_false h4, if_pos b2i_f, if_neg (fun z => h4 z.2.2.2)]
          exact tkm_no rfl rfl
    · rw [decide_eq_false h2, if_pos b2i_f, if_neg (fun z => h2 z.2.1)]
      exact tkm_no rfl rfl
  · rw [decide_eq_false h1, if_pos b2i_f, if_neg (fun z => h1 z.1)]
    exact tkm_no rfl rfl
theorem q_108 (hz : τ.2.2 = true) (hL : LM τ L) (hN : InnM (τ.1 45 12) (τ.1 45 13) (τ.1 45 14) L) (ok : LdOK L) (hk : k < 41) {x1 x2 : Nat} (b1 : x1 ≤ 9) (b2 : x2 ≤ 9) (e57 : τ.2.1 57 k = nI 108) (e59 : τ.2.1 59 k = nI x1) (e60 : τ.2.1 60 k = nI x2) : TKm τ (if x1 < L.1 0 ∧ x2 < L.1 2 then some (uL L 6 x1 (L.2 6 x1 ||| 2 ^ x2)) else none) (fX9_comes 45 (nI k) (mk τ)) := by
  have l0 : τ.1 45 8 = nI (L.1 0) := hL.1
  have l2 : τ.1 45 10 = nI (L.1 2) := hL.2.2.1
  have hp := ok.1.2
  have hf := ok.2.2.1
  unfold fX9_comes
  simp only [m_R hz, m_A hz, hk, o_b, e57, e59, e60, show ¬ (nI 108 = (102 : Int32)) by decide, show nI 108 = (108 : Int32) from rfl, if_true, if_false, m_O hz, m_place hz, m_fact hz, l0, l2, inr_n (show x1 < 2 ^ 31 by omega) (show L.1 0 < 2 ^ 31 by omega), inr_n (show x2 < 2 ^ 31 by omega) (show L.1 2 < 2 ^ 31 by omega)]
  rw [if_neg (show ¬ ((108 : Int32) = 102) by decide)]
  by_cases h1 : x1 < L.1 0
  · rw [decide_eq_true h1, if_neg (show ¬ b2i true = 0 from hne)]
    by_cases h2 : x2 < L.1 2
    · have h16 : x1 < 6 := by omega
      have l10 := hL.2.2.2.2.2.2.2.2.2.2
      rw [decide_eq_true h2, if_neg (show ¬ b2i true = 0 from hne), if_pos ⟨h1, h2⟩]
      simp only [m_A hz, h16, o_b, l10 x1 h16, n_shl1 x2 (show x2 < 31 by omega), n_or, m_S hz]
      refine ⟨aS τ 53 x1 (nI (L.2 6 x1 ||| 2 ^ x2)), rfl, MS_a _ (by decide) (by decide) _ _, fun L' h' => ?_⟩
      cases h'
      obtain ⟨l0, l1, l2, l3, l4, l5, l6, l7, l8, l9, l10⟩ := hL
      refine ⟨⟨l0, l1, l2, l3, l4, l5, l6, l7, l8, l9, ?_⟩, hN⟩
      exact lda_u (b := 6) l10
    · rw [decide_eq_false h2, if_pos b2i_f, if_neg (fun z => h2 z.2)]
      exact tkm_no rfl rfl
  · rw [decide_eq_false h1, if_pos b2i_f, if_neg (fun z => h1 z.1)]
    exact tkm_no rfl rfl
theorem q_110 (hz : τ.2.2 = true) (hL : LM τ L) (hN : InnM (τ.1 45 12) (τ.1 45 13) (τ.1 45 14) L) (ok : LdOK L) (hk : k < 41) {x1 : Nat} (b1 : x1 ≤ 9) (e57 : τ.2.1 57 k = nI 110) (e59 : τ.2.1 59 k = nI x1) : TKm τ (if 2 ≤ x1 ∧ x1 ≤ 6 ∧ tp L ≤ x1 then some (uF L 0 x1) else none) (fX9_comes 45 (nI k) (mk τ)) := by
  have htp := tp_9 ok
  unfold fX9_comes
  simp only [m_R hz, m_A hz, hk, o_b, e57, e59, show nI 110 = (110 : Int32) from rfl, if_true, m_O hz, m_told hz hL hN ok, n_in, m_P hz]
  rw [if_neg (show ¬ ((110 : Int32) = 102) by decide), if_neg (show ¬ ((110 : Int32) = 108) by decide)]
  by_cases h1 : 2 ≤ x1
  · by_cases h2 : x1 ≤ 6
    · rw [decide_eq_true (show ¬ nI x1 < 2 ∧ ¬ 6 < nI x1 from ⟨nI_nlt (a := x1) (b := 2) h1 (by omega), nI_nlt (a := 6) (b := x1) h2 (by decide)⟩), if_neg (show ¬ b2i true = 0 from hne)]
      by_cases h3 : tp L ≤ x1
      · rw [if_pos (nI_le h3 (by omega)), if_pos ⟨h1, h2, h3⟩]
        refine ⟨fS τ 45 8 (nI x1), rfl, MS_f _ (by decide) (by decide) _, fun L' h' => ?_⟩
        cases h'
        obtain ⟨l0, l1, l2, l3, l4, l5, l6, l7, l8, l9, l10⟩ := hL
        exact ⟨⟨rfl, l1, l2, l3, l4, l5, l6, l7, l8, l9, l10⟩, hN⟩
      · rw [if_neg (nI_ge (by omega) (by omega)), if_neg (fun z => h3 z.2.2)]
        exact tkm_no rfl rfl
    · rw [decide_eq_false (show ¬ (¬ nI x1 < 2 ∧ ¬ 6 < nI x1) from fun z => z.2 (nI_lt (a := 6) (by omega) (by omega))), if_pos b2i_f, if_neg (fun z => h2 z.2.1)]
      exact tkm_no rfl rfl
  · rw [decide_eq_false (show ¬ (¬ nI x1 < 2 ∧ ¬ 6 < nI x1) from fun z => z.1 (nI_lt (b := 2) (by omega) (by decide))), if_pos b2i_f, if_neg (fun z => h1 z.1)]
    exact tkm_no rfl rfl
theorem q_114 (hz : τ.2.2 = true) (hL : LM τ L) (hN : InnM (τ.1 45 12) (τ.1 45 13) (τ.1 45 14) L) (ok : LdOK L) (hk : k < 41) {x1 x2 : Nat} (b1 : x1 ≤ 9) (b2 : x2 ≤ 9) (e57 : τ.2.1 57 k = nI 114) (e59 : τ.2.1 59 k = nI x1) (e60 : τ.2.1 60 k = nI x2) : TKm τ (if x1 < L.1 0 ∧ x2 < L.1 0 ∧ x1 ≠ x2 ∧ L.1 1 < 8 then some (uF (uL (uL L 0 (L.1 1) x1) 1 (L.1 1) x2) 1 (L.1 1 + 1)) else none) (fX9_comes 45 (nI k) (mk τ)) := by
  have l0 : τ.1 45 8 = nI (L.1 0) := hL.1
  have l1 : τ.1 45 9 = nI (L.1 1) := hL.2.1
  have hp := ok.1.2
  have hr := ok.2.1
  unfold fX9_comes
  simp only [m_R hz, m_A hz, hk, o_b, e57, e59, e60, show nI 114 = (114 : Int32) from rfl, if_true, m_O hz, m_place hz, l0, inr_n (show x1 < 2 ^ 31 by omega) (show L.1 0 < 2 ^ 31 by omega), inr_n (show x2 < 2 ^ 31 by omega) (show L.1 0 < 2 ^ 31 by omega), m_I hz, l1]
  rw [if_neg (show ¬ ((114 : Int32) = 102) by decide), if_neg (show ¬ ((114 : Int32) = 108) by decide), if_neg (show ¬ ((114 : Int32) = 110) by decide)]
  by_cases h1 : x1 < L.1 0
  · rw [decide_eq_true h1, if_neg (show ¬ b2i true = 0 from hne)]
    by_cases h2 : x2 < L.1 0
    · rw [decide_eq_true h2, if_neg (show ¬ b2i true = 0 from hne)]
      by_cases h3 : x1 = x2
      · rw [if_pos (show nI x1 = nI x2 by rw [h3]), if_neg (fun z => z.2.2.1 h3)]
        exact tkm_no rfl rfl
      · rw [if_neg (fun z => h3 ((nI_eq (by omega) (by omega)).mp z))]
        by_cases h4 : L.1 1 < 8
        · have z1 : (aS τ 47 (L.1 1) (nI x1)).2.2 = true := hz
          have z2 : (aS (aS τ 47 (L.1 1) (nI x1)) 48 (L.1 1) (nI x2)).2.2 = true := hz
          have e1 : (aS τ 47 (L.1 1) (nI x1)).1 45 9 = nI (L.1 1) := l1
          have e2 : (aS (aS τ 47 (L.1 1) (nI x1)) 48 (L.1 1) (nI x2)).1 45 9 = nI (L.1 1) := l1
          have f1 : (aS τ 47 (L.1 1) (nI x1)).2.1 60 k = nI x2 := e60
          rw [if_neg (show ¬ nI (L.1 1) = 8 from fun z => by have := (nI_eq (a := L.1 1) (b := 8) (by omega) (by decide)).mp z; omega), if_pos ⟨h1, h2, h3, h4⟩]
          simp only [m_S hz, h4, o_b, m_R z1, m_I z1, e1, m_A z1, hk, f1, m_S z1, m_I z2, e2, m_P z2, nI_1]
          refine ⟨fS (aS (aS τ 47 (L.1 1) (nI x1)) 48 (L.1 1) (nI x2)) 45 9 (nI (L.1 1 + 1)), rfl, MS_t (MS_t (MS_a _ (by decide) (by decide) _ _) (MS_a _ (by decide) (by decide) _ _)) (MS_f _ (by decide) (by decide) _), fun L' h' => ?_⟩
          cases h'
          obtain ⟨l0, l1, l2, l3, l4, l5, l6, l7, l8, l9, l10⟩ := hL
          refine ⟨⟨l0, rfl, l2, l3, ?_, ?_, l6, l7, l8, l9, l10⟩, hN⟩
          · exact lda_u (b := 0) l4
          · exact lda_u (b := 1) l5
        · rw [if_pos (show nI (L.1 1) = 8 by rw [show L.1 1 = 8 by omega]; rfl), if_neg (fun z => h4 z.2.2.2)]
          exact tkm_no rfl rfl
    · rw [decide_eq_false h2, if_pos b2i_f, if_neg (fun z => h2 z.2.1)]
      exact tkm_no rfl rfl
  · rw [decide_eq_false h1, if_pos b2i_f, if_neg (fun z => h1 z.1)]
    exact tkm_no rfl rfl
theorem q_115 (hz : τ.2.2 = true) (hL : LM τ L) (hN : InnM (τ.1 45 12) (τ.1 45 13) (τ.1 45 14) L) (ok : LdOK L) (hk : k < 41) {x1 x3 x4 kd : Nat} (b1 : x1 ≤ 9) (b3 : x3 ≤ 9) (b4 : x4 ≤ 9) (bk : kd ≤ 6) (e57 : τ.2.1 57 k = nI 115) (e59 : τ.2.1 59 k = nI x1) (e60 : τ.2.1 60 k = nI kd) (e61 : τ.2.1 61 k = nI x3) (e62 : τ.2.1 62 k = nI x4) : TKm τ (if x1 < L.1 1 ∧ L.1 3 < 6 ∧ may L kd x3 x4 = true then some (uF (uL (uL (uL (uL L 2 (L.1 3) kd) 3 (L.1 3) x1) 4 (L.1 3) x3) 5 (L.1 3) x4) 3 (L.1 3 + 1)) else none) (fX9_comes 45 (nI k) (mk τ)) := by
  have l1 : τ.1 45 9 = nI (L.1 1) := hL.2.1
  have l3 : τ.1 45 11 = nI (L.1 3) := hL.2.2.2.1
  have hr := ok.2.1
  have hs := ok.2.2.2.1
  unfold fX9_comes fX9_comesSign
  simp only [m_R hz, m_A hz, hk, o_b, e57, e59, e60, e61, e62, show nI 115 = (115 : Int32) from rfl, if_true, m_O hz, m_I hz, l1, l3, m_may hz hL ok bk b3 b4]
  rw [if_neg (show ¬ ((115 : Int32) = 102) by decide), if_neg (show ¬ ((115 : Int32) = 108) by decide), if_neg (show ¬ ((115 : Int32) = 110) by decide), if_neg (show ¬ ((115 : Int32) = 114) by decide)]
  by_cases h1 : x1 < L.1 1
  · rw [if_neg (nI_ge h1 (by omega))]
    by_cases h2 : L.1 3 < 6
    · rw [if_neg (show ¬ nI (L.1 3) = 6 from fun z => by have := (nI_eq (a := L.1 3) (b := 6) (by omega) (by decide)).mp z; omega)]
      cases h3 : may L kd x3 x4 with
      | false =>
        rw [if_pos b2i_f, if_neg (fun z => by cases z.2.2)]
        exact tkm_no rfl (by rw [o_b]; show Option.bind (qv_b1 (b2i false)) _ = _; rw [b2i_b1]; rfl)
      | true =>
        have z1 : (aS τ 50 (L.1 3) (nI x1)).2.2 = true := hz
        have z2 : (aS (aS τ 50 (L.1 3) (nI x1)) 49 (L.1 3) (nI kd)).2.2 = true := hz
        have z3 : (aS (aS (aS τ 50 (L.1 3) (nI x1)) 49 (L.1 3) (nI kd)) 51 (L.1 3) (nI x3)).2.2 = true := hz
        have z4 : (aS (aS (aS (aS τ 50 (L.1 3) (nI x1)) 49 (L.1 3) (nI kd)) 51 (L.1 3) (nI x3)) 52 (L.1 3) (nI x4)).2.2 = true := hz
        have e1 : (aS τ 50 (L.1 3) (nI x1)).1 45 11 = nI (L.1 3) := l3
        have e2 : (aS (aS τ 50 (L.1 3) (nI x1)) 49 (L.1 3) (nI kd)).1 45 11 = nI (L.1 3) := l3
        have e3 : (aS (aS (aS τ 50 (L.1 3) (nI x1)) 49 (L.1 3) (nI kd)) 51 (L.1 3) (nI x3)).1 45 11 = nI (L.1 3) := l3
        have e4 : (aS (aS (aS (aS τ 50 (L.1 3) (nI x1)) 49 (L.1 3) (nI kd)) 51 (L.1 3) (nI x3)) 52 (L.1 3) (nI x4)).1 45 11 = nI (L.1 3) := l3
        have f1 : (aS τ 50 (L.1 3) (nI x1)).2.1 60 k = nI kd := e60
        have f2 : (aS (aS τ 50 (L.1 3) (nI x1)) 49 (L.1 3) (nI kd)).2.1 61 k = nI x3 := e61
        have f3 : (aS (aS (aS τ 50 (L.1 3) (nI x1)) 49 (L.1 3) (nI kd)) 51 (L.1 3) (nI x3)).2.1 62 k = nI x4 := e62
        rw [if_neg (show ¬ b2i true = 0 from hne), if_pos ⟨h1, h2, rfl⟩]
        simp only [m_S hz, h2, o_b, m_R z1, m_I z1, e1, m_A z1, hk, f1, m_S z1, m_R z2, m_I z2, e2, m_A z2, f2, m_S z2, m_R z3, m_I z3, e3, m_A z3, f3, m_S z3, m_I z4, e4, m_P z4, nI_1]
        refine ⟨fS (aS (aS (aS (aS τ 50 (L.1 3) (nI x1)) 49 (L.1 3) (nI kd)) 51 (L.1 3) (nI x3)) 52 (L.1 3) (nI x4)) 45 11 (nI (L.1 3 + 1)), rfl, MS_t (MS_t (MS_t (MS_t (MS_a _ (by decide) (by decide) _ _) (MS_a _ (by decide) (by decide) _ _)) (MS_a _ (by decide) (by decide) _ _)) (MS_a _ (by decide) (by decide) _ _)) (MS_f _ (by decide) (by decide) _), fun L' h' => ?_⟩
        cases h'
        obtain ⟨l0, l1, l2, l3, l4, l5, l6, l7, l8, l9, l10⟩ := hL
        refine ⟨⟨l0, l1, l2, rfl, l4, l5, ?_, ?_, ?_, ?_, l10⟩, hN⟩
        · exact lda_u (b := 2) l6
        · exact lda_u (b := 3) l7
        · exact lda_u (b := 4) l8
        · exact lda_u (b := 5) l9
    · rw [if_pos (show nI (L.1 3) = 6 by rw [show L.1 3 = 6 by omega]; rfl), if_neg (fun z => h2 z.2.1)]
      exact tkm_no rfl (by rw [o_b]; show Option.bind (qv_b1 (b2i false)) _ = _; rw [b2i_b1]; rfl)
  · rw [if_pos (nI_le (by omega) (by omega)), if_neg (fun z => h1 z.1)]
    exact tkm_no rfl (by rw [o_b]; show Option.bind (qv_b1 (b2i false)) _ = _; rw [b2i_b1]; rfl)
end MT
