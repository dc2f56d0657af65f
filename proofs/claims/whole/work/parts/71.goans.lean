/-! ===== 71: go: roads between; what the class answers ===== -/
def ajq (L : Ld) (p q r : Nat) : Bool := (decide (L.2 0 r = p) && decide (L.2 1 r = q)) || (decide (L.2 0 r = q) && decide (L.2 1 r = p))
def ajb (L : Ld) (p q : Nat) : Bool := decide (fi (ajq L p q) (L.1 1) < L.1 1)
theorem ajb_t {L : Ld} {p q : Nat} : ajb L p q = true ↔ adjL L p q := by
  unfold ajb adjL adj
  rw [decide_eq_true_iff, fi_all]
  constructor
  · rintro ⟨r, hr, h⟩
    unfold ajq at h
    rw [Bool.or_eq_true, Bool.and_eq_true, Bool.and_eq_true, decide_eq_true_iff, decide_eq_true_iff, decide_eq_true_iff, decide_eq_true_iff] at h
    exact ⟨r, hr, h⟩
  · rintro ⟨r, hr, h⟩
    refine ⟨r, hr, ?_⟩
    unfold ajq
    rw [Bool.or_eq_true, Bool.and_eq_true, Bool.and_eq_true, decide_eq_true_iff, decide_eq_true_iff, decide_eq_true_iff, decide_eq_true_iff]
    exact h
theorem r4 {X : Type} {A B C D : Prop} [Decidable A] [Decidable B] [Decidable C] [Decidable D] (x y : X) : (if A then (if B then x else (if C then (if D then x else y) else y)) else (if C then (if D then x else y) else y)) = if (A ∧ B) ∨ (C ∧ D) then x else y := by
  by_cases h1 : A <;> by_cases h2 : B <;> by_cases h3 : C <;> by_cases h4 : D <;> simp [h1, h2, h3, h4]
theorem ajq_t {L : Ld} {p q r : Nat} : ajq L p q r = true ↔ (L.2 0 r = p ∧ L.2 1 r = q) ∨ (L.2 0 r = q ∧ L.2 1 r = p) := by
  unfold ajq
  rw [Bool.or_eq_true, Bool.and_eq_true, Bool.and_eq_true, decide_eq_true_iff, decide_eq_true_iff, decide_eq_true_iff, decide_eq_true_iff]
section RB
variable {σ : St} {L : Ld} {C : Nat → Bool}
theorem c_road2 (hL : LC σ L) (ok : LdOK L) {p q : Nat} (hp : p < 6) (hq : q < 6) : fX3_isRoadBetween 3 (nI p) (nI q) (mk σ) = some (b2i (ajb L p q)) := by
  have hp6 := ok.1.2
  have hR8 := ok.2.1
  have l1 : σ.1 3 1 = nI (L.1 1) := hL.2.1
  unfold fX3_isRoadBetween
  refine lp_fb (fun r => nI r) (L.1 1) (ajq L p q) (fun _ => .inr 1) (.inl ()) rfl ?_ ?_ ?_ ?_
  · intro r hr hb
    have hr8 : r < 8 := by omega
    obtain ⟨k1, k2, k3⟩ := ok.2.2.2.2.1 r hr
    have e1 : (nI (L.2 0 r) = nI p) ↔ L.2 0 r = p := nI_eq (by omega) (by omega)
    have e2 : (nI (L.2 1 r) = nI q) ↔ L.2 1 r = q := nI_eq (by omega) (by omega)
    have e3 : (nI (L.2 0 r) = nI q) ↔ L.2 0 r = q := nI_eq (by omega) (by omega)
    have e4 : (nI (L.2 1 r) = nI p) ↔ L.2 1 r = p := nI_eq (by omega) (by omega)
    simp only [c_I, c_R, c_A, hr8, l1, o_b, hL.2.2.2.2.1 r hr8, hL.2.2.2.2.2.1 r hr8, e1, e2, e3, e4]
    rw [if_neg (nI_ge hr (by omega)), show nI r + 1 = nI (r + 1) from nI_1 r, r4, if_neg (fun z => by rw [ajq_t.mpr z] at hb; cases hb)]
  · intro r hr hb
    have hr8 : r < 8 := by omega
    obtain ⟨k1, k2, k3⟩ := ok.2.2.2.2.1 r hr
    have e1 : (nI (L.2 0 r) = nI p) ↔ L.2 0 r = p := nI_eq (by omega) (by omega)
    have e2 : (nI (L.2 1 r) = nI q) ↔ L.2 1 r = q := nI_eq (by omega) (by omega)
    have e3 : (nI (L.2 0 r) = nI q) ↔ L.2 0 r = q := nI_eq (by omega) (by omega)
    have e4 : (nI (L.2 1 r) = nI p) ↔ L.2 1 r = p := nI_eq (by omega) (by omega)
    simp only [c_I, c_R, c_A, hr8, l1, o_b, hL.2.2.2.2.1 r hr8, hL.2.2.2.2.2.1 r hr8, e1, e2, e3, e4]
    rw [if_neg (nI_ge hr (by omega)), r4, if_pos (ajq_t.mp hb)]
  · simp only [c_I, l1, o_b]
    rw [if_pos (nI_le (Nat.le_refl _) (by omega))]
  · unfold ajb
    by_cases h : fi (ajq L p q) (L.1 1) < L.1 1
    · rw [if_pos h, decide_eq_true h]; rfl
    · rw [if_neg h, decide_eq_false h]; rfl
theorem m_road2 (hz : σ.2.2 = true) (hL : LM σ L) (ok : LdOK L) {p q : Nat} (hp : p < 6) (hq : q < 6) : fX9_areNext 45 (nI p) (nI q) (mk σ) = some (b2i (ajb L p q)) := by
  have hp6 := ok.1.2
  have hR8 := ok.2.1
  have l1 : σ.1 45 9 = nI (L.1 1) := hL.2.1
  unfold fX9_areNext
  refine lp_fb (fun r => nI r) (L.1 1) (ajq L p q) (fun _ => .inr 1) (.inl ()) rfl ?_ ?_ ?_ ?_
  · intro r hr hb
    have hr8 : r < 8 := by omega
    obtain ⟨k1, k2, k3⟩ := ok.2.2.2.2.1 r hr
    have e1 : (nI (L.2 0 r) = nI p) ↔ L.2 0 r = p := nI_eq (by omega) (by omega)
    have e2 : (nI (L.2 1 r) = nI q) ↔ L.2 1 r = q := nI_eq (by omega) (by omega)
    have e3 : (nI (L.2 0 r) = nI q) ↔ L.2 0 r = q := nI_eq (by omega) (by omega)
    have e4 : (nI (L.2 1 r) = nI p) ↔ L.2 1 r = p := nI_eq (by omega) (by omega)
    simp only [m_I hz, m_R hz, m_A hz, hr8, l1, o_b, hL.2.2.2.2.1 r hr8, hL.2.2.2.2.2.1 r hr8, e1, e2, e3, e4]
    rw [if_neg (nI_ge hr (by omega)), show nI r + 1 = nI (r + 1) from nI_1 r, r4, if_neg (fun z => by rw [ajq_t.mpr z] at hb; cases hb)]
  · intro r hr hb
    have hr8 : r < 8 := by omega
    obtain ⟨k1, k2, k3⟩ := ok.2.2.2.2.1 r hr
    have e1 : (nI (L.2 0 r) = nI p) ↔ L.2 0 r = p := nI_eq (by omega) (by omega)
    have e2 : (nI (L.2 1 r) = nI q) ↔ L.2 1 r = q := nI_eq (by omega) (by omega)
    have e3 : (nI (L.2 0 r) = nI q) ↔ L.2 0 r = q := nI_eq (by omega) (by omega)
    have e4 : (nI (L.2 1 r) = nI p) ↔ L.2 1 r = p := nI_eq (by omega) (by omega)
    simp only [m_I hz, m_R hz, m_A hz, hr8, l1, o_b, hL.2.2.2.2.1 r hr8, hL.2.2.2.2.2.1 r hr8, e1, e2, e3, e4]
    rw [if_neg (nI_ge hr (by omega)), r4, if_pos (ajq_t.mp hb)]
  · simp only [m_I hz, l1, o_b]
    rw [if_pos (nI_le (Nat.le_refl _) (by omega))]
  · unfold ajb
    by_cases h : fi (ajq L p q) (L.1 1) < L.1 1
    · rw [if_pos h, decide_eq_true h]; rfl
    · rw [if_neg h, decide_eq_false h]; rfl
theorem c_least (ok : LdOK L) (h : PR L C (σ.2.1 39) 0 0) {p : Nat} (hp : p < L.1 0) : fX6_leastRoads 38 (nI p) (mk σ) = some (if vA (σ.2.1 39) p 0 0 ≤ 20 then nI (vA (σ.2.1 39) p 0 0) else -9) := by
  have hp6 := ok.1.2
  have hix := ix_lt (p := p) (kn := 0) (so := 0) (by omega) (by decide) (by decide)
  have e : fX6_indexOf (nI p) 0 0 = some (nI (ix p 0 0)) := c_ix p 0 0
  obtain ⟨h1, h2⟩ := (h p hp).1
  unfold fX6_leastRoads
  simp only [c_R, e, o_b, c_A, hix]
  rw [h1]
  by_cases hq : vA (σ.2.1 39) p 0 0 ≤ 20
  · rw [if_neg (show ¬ (20 : Int32) < nI (vA (σ.2.1 39) p 0 0) from nI_nlt (a := 20) hq (by decide)), if_pos hq]
    rfl
  · rw [if_pos (show (20 : Int32) < nI (vA (σ.2.1 39) p 0 0) from nI_lt (a := 20) (by omega) (by omega)), if_neg hq]
    rfl
def gqf (L : Ld) (a : Nat → Int32) (p kn so q : Nat) : Bool := ajb L p q && decide (vA a q kn so + 1 = vA a p kn so)
theorem c_goal (hL : LC σ L) (ok : LdOK L) (h : ∀ k s, k < 2 ^ L.1 2 → s &&& k = s → PR L C (σ.2.1 39) k s) {p w : Nat} (hp : p < L.1 0) : fX6_firstGoal 38 3 (nI p) (nI w) (mk σ) = some (if vA (σ.2.1 39) p (L.2 6 p) (w &&& L.2 6 p) = 0 then -9 else if vA (σ.2.1 39) p 0 0 ≤ 20 then (if fi (gqf L (σ.2.1 39) p (L.2 6 p) (w &&& L.2 6 p)) (L.1 0) < L.1 0 then nI (fi (gqf L (σ.2.1 39) p (L.2 6 p) (w &&& L.2 6 p)) (L.1 0)) else -9) else -9) := by
  have hp6 := ok.1.2
  have h16 := pF_16 ok
  have hsh := sh_16 ok (show p < 6 by omega)
  have hso : w &&& L.2 6 p ≤ L.2 6 p := Nat.and_le_right
  have hPR := h (L.2 6 p) (w &&& L.2 6 p) hsh (and_sub _ _)
  have h00 := h 0 0 (Nat.two_pow_pos _) rfl
  have hle := c_least (σ := σ) ok h00 hp
  have l0 : σ.1 3 0 = nI (L.1 0) := hL.1
  have hix := fun q (hq : q < 6) => ix_lt (p := q) (kn := L.2 6 p) (so := w &&& L.2 6 p) hq (by omega) (by omega)
  have hp6' : p < 6 := by omega
  obtain ⟨⟨v1, v2⟩, -⟩ := hPR p hp
  have e10 : qv_aI (mk σ) false 10 (nI p) = some (nI (L.2 6 p)) := by
    rw [show qv_aI (mk σ) false 10 (nI p) = some (σ.2.1 10 p) from a_I (Or.inl (by decide)) (show tb[10]? = some (.inl (false, 6)) from rfl) (by decide) rfl hp6', hL.2.2.2.2.2.2.2.2.2.2 p hp6']
  have e39 : ∀ q, q < 6 → qv_aI (mk σ) false 39 (nI (ix q (L.2 6 p) (w &&& L.2 6 p))) = some (σ.2.1 39 (ix q (L.2 6 p) (w &&& L.2 6 p))) := fun q hq => a_I (Or.inl (by decide)) (show tb[39]? = some (.inl (false, 1536)) from rfl) (by decide) rfl (hix q hq)
  unfold fX6_firstGoal
  rw [show qv_gR (mk σ) 2 3 10 = some 10 by simp only [c_R], o_b, e10, o_b, show qv_gR (mk σ) 5 38 0 = some 39 by simp only [c_R], o_b, n_and, c_ix, o_b, e39 p hp6', o_b, v1]
  by_cases h0 : vA (σ.2.1 39) p (L.2 6 p) (w &&& L.2 6 p) = 0
  · rw [if_pos (show nI (vA (σ.2.1 39) p (L.2 6 p) (w &&& L.2 6 p)) = 0 by rw [h0]; rfl), if_pos h0]
  · rw [if_neg (show ¬ nI (vA (σ.2.1 39) p (L.2 6 p) (w &&& L.2 6 p)) = 0 from nI_ne0 (by omega) (by omega)), if_neg h0]
    simp only [c_O, o_b, hle]
    by_cases h20 : vA (σ.2.1 39) p 0 0 ≤ 20
    · rw [if_pos h20, if_pos h20, if_neg (fun z => absurd (show nI (vA (σ.2.1 39) p 0 0) < 0 by rw [z]; decide) (nI_pos (by omega)))]
      refine lp_fb (fun q => nI q) (L.1 0) (gqf L (σ.2.1 39) p (L.2 6 p) (w &&& L.2 6 p)) (fun q => .inr (nI q)) (.inl ()) rfl ?_ ?_ ?_ ?_
      · intro q hq hb
        have hq6 : q < 6 := by omega
        obtain ⟨⟨u1, u2⟩, -⟩ := hPR q hq
        unfold gqf at hb
        simp only [c_I, c_O, l0, o_b, c_road2 hL ok hp6' hq6, c_ix, c_R, e39 q hq6, u1, nI_1]
        rw [if_neg (nI_ge hq (by omega))]
        cases ha : ajb L p q with
        | false => rw [if_pos b2i_f]
        | true =>
          rw [ha, Bool.true_and] at hb
          rw [if_neg (show ¬ b2i true = 0 from hne), if_neg (fun z => (of_decide_eq_false hb) ((nI_eq (by omega) (by omega)).mp z))]
      · intro q hq hb
        have hq6 : q < 6 := by omega
        obtain ⟨⟨u1, u2⟩, -⟩ := hPR q hq
        unfold gqf at hb
        rw [Bool.and_eq_true, decide_eq_true_iff] at hb
        simp only [c_I, c_O, l0, o_b, c_road2 hL ok hp6' hq6, c_ix, c_R, e39 q hq6, u1, nI_1]
        rw [if_neg (nI_ge hq (by omega)), hb.1, if_neg (show ¬ b2i true = 0 from hne), if_pos (by rw [hb.2])]
      · simp only [c_I, l0, o_b]
        rw [if_pos (nI_le (Nat.le_refl _) (by omega))]
      · by_cases hf : fi (gqf L (σ.2.1 39) p (L.2 6 p) (w &&& L.2 6 p)) (L.1 0) < L.1 0
        · rw [if_pos hf, if_pos hf]
        · rw [if_neg hf, if_neg hf]
    · rw [if_neg h20, if_neg h20, if_pos rfl]
end RB
