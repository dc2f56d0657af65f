/-! ===== 67: the start ===== -/
def s0_ : St := (fun o k => if (o = 3 ∨ o = 11 ∨ o = 19) ∧ k = 0 then 4 else if (o = 3 ∨ o = 11 ∨ o = 19) ∧ (k = 11 ∨ k = 12 ∨ k = 13) then -1 else if o = 45 ∧ k = 8 then 4 else if o = 45 ∧ k = 14 then -9 else 0, fun _ _ => 0, false)
set_option maxRecDepth 100000 in
theorem kh_lo : ∀ k, k < 45 → kh33 k = mk s0_ k := by
  intro k hk
  rcases (show k = 0 ∨ k = 1 ∨ k = 2 ∨ k = 3 ∨ k = 4 ∨ k = 5 ∨ k = 6 ∨ k = 7 ∨ k = 8 ∨ k = 9 ∨ k = 10 ∨ k = 11 ∨ k = 12 ∨ k = 13 ∨ k = 14 ∨ k = 15 ∨ k = 16 ∨ k = 17 ∨ k = 18 ∨ k = 19 ∨ k = 20 ∨ k = 21 ∨ k = 22 ∨ k = 23 ∨ k = 24 ∨ k = 25 ∨ k = 26 ∨ k = 27 ∨ k = 28 ∨ k = 29 ∨ k = 30 ∨ k = 31 ∨ k = 32 ∨ k = 33 ∨ k = 34 ∨ k = 35 ∨ k = 36 ∨ k = 37 ∨ k = 38 ∨ k = 39 ∨ k = 40 ∨ k = 41 ∨ k = 42 ∨ k = 43 ∨ k = 44 by omega) with rfl | rfl | rfl | rfl | rfl | rfl | rfl | rfl | rfl | rfl | rfl | rfl | rfl | rfl | rfl | rfl | rfl | rfl | rfl | rfl | rfl | rfl | rfl | rfl | rfl | rfl | rfl | rfl | rfl | rfl | rfl | rfl | rfl | rfl | rfl | rfl | rfl | rfl | rfl | rfl | rfl | rfl | rfl | rfl | rfl <;> rfl
set_option maxRecDepth 100000 in
theorem kh_hi {k : Nat} (hk : 45 ≤ k) : kh33 k = .inr (99, []) := by
  simp only [kh33, kh32, kh31, kh30, kh29, kh28, kh27, kh26, kh25, kh24, kh23, kh22, kh21, kh20, kh19, kh18, kh17, kh16, kh15, kh14, kh13, kh12, kh11, kh10, kh9, kh8, kh7, kh6, kh5, kh4, kh3, kh2, kh1, kh0, kX1, kX2, kX3, kX4, kX5, kX6, kX7, qv_set]
  repeat rw [if_neg (by omega)]
theorem kh_eq : kh33 = mk s0_ := by
  funext k
  by_cases hk : k < 45
  · exact kh_lo k hk
  · rw [kh_hi (by omega)]
    unfold mk
    rw [if_neg (fun z => by
      rcases z with z | z
      · exact hk z
      · cases z)]
def l0_ : Ld := (fun j => if j = 0 then 4 else 0, fun _ _ => 0)
theorem l0_ok : LdOK l0_ := by
  refine ⟨⟨by decide, by decide⟩, by decide, by decide, by decide, fun k hk => absurd hk (Nat.not_lt_zero k), fun k hk => absurd hk (Nat.not_lt_zero k), fun p hp => by show 0 < 2 ^ 0; decide, fun p hp hp2 => rfl, Or.inl rfl⟩
theorem l0_c : LC s0_ l0_ := ⟨rfl, rfl, rfl, rfl, fun _ _ => rfl, fun _ _ => rfl, fun _ _ => rfl, fun _ _ => rfl, fun _ _ => rfl, fun _ _ => rfl, fun _ _ => rfl⟩
noncomputable def kM : qv_C := .inr (8, [.null, .null, .null, .null, .null, .null, .null, .null, .int 0, .int 0, .int 0, .int 0, .int 0, .int 0, .int 0, .null, .null, .int 0, .null, .null, .null, .null, .null, .null, .null, .int 0, .int 0, .int 0, .null, .int 0, .int 0, .int 0, .null, .int 0, .null, .null, .null, .null, .null, .int 0])
set_option maxRecDepth 100000 in
theorem k9_out {h : qv_H} {k : Nat} (hk : k < 45 ∨ 69 < k) : kX9 (qv_set h 45 kM) k = h k := by
  unfold kX9
  simp only [qv_set]
  repeat rw [if_neg (by omega)]
set_option maxRecDepth 100000 in
theorem k9_in {h : qv_H} : ∀ k, 45 ≤ k → k < 70 → kX9 (qv_set h 45 kM) k = mk (s0_.1, s0_.2.1, true) k := by
  intro k h1 h2
  rcases (show k = 45 ∨ k = 46 ∨ k = 47 ∨ k = 48 ∨ k = 49 ∨ k = 50 ∨ k = 51 ∨ k = 52 ∨ k = 53 ∨ k = 54 ∨ k = 55 ∨ k = 56 ∨ k = 57 ∨ k = 58 ∨ k = 59 ∨ k = 60 ∨ k = 61 ∨ k = 62 ∨ k = 63 ∨ k = 64 ∨ k = 65 ∨ k = 66 ∨ k = 67 ∨ k = 68 ∨ k = 69 by omega) with rfl | rfl | rfl | rfl | rfl | rfl | rfl | rfl | rfl | rfl | rfl | rfl | rfl | rfl | rfl | rfl | rfl | rfl | rfl | rfl | rfl | rfl | rfl | rfl | rfl <;> rfl
theorem mk_out {σ : St} {k : Nat} (hk : 69 < k) : mk σ k = .inr (99, []) := by
  unfold mk
  have hl : tb.length = 70 := by decide +kernel
  have : tb[k]? = none := List.getElem?_eq_none (by omega)
  rw [this]
  split <;> rfl
theorem start_inv : ∃ h1 h2 : qv_H, fX7_reckon 33 3 kh33 = some h1 ∧ qv_gR h1 7 0 6 = some 33 ∧ qv_gR h1 7 0 4 = some 27 ∧ qv_ob h1 6 33 = some () ∧ fX7_sift 33 27 h1 = some h2 ∧ Inv (kX9 (qv_set h2 45 kM)) := by
  have er := c_reckon l0_c l0_ok
  rw [← kh_eq] at er
  have rr := rk_of (σ := s0_) (L := l0_)
  generalize hU : fS (fS (wS s0_ 35 (rA l0_ (s0_.2.1 35) (msk l0_ + 1))) 33 0 (nI (msk l0_))) 33 1 (nI (ct (fq l0_) (msk l0_ + 1))) = υ at er rr
  have u6 : FC υ 0 (fun _ => 0) (fun _ => false) := by
    rw [← hU]
    exact ⟨rfl, by decide, fun i hi => absurd hi (Nat.not_lt_zero i)⟩
  have es := c_sift l0_ok rr u6
  have rs := sf_of (σ := υ) (L := l0_) (k := 0) (B := fun _ => 0) (S := fun _ => false)
  generalize hV : fS (wS (fS (fS υ 33 4 (nI (orb (fun i => (fun _ => false) i == true) (fun _ => 0) 0))) 33 5 (nI (orb (fun i => (fun _ => false) i == false) (fun _ => 0) 0))) 34 (lA (gl l0_ 0 (fun _ => 0) (fun _ => false) 0 1024) (υ.2.1 34))) 33 2 (nI (gl l0_ 0 (fun _ => 0) (fun _ => false) 0 1024).length) = ν at es rs
  have v2 : LC ν l0_ := by rw [← hV, ← hU]; exact l0_c
  have v3 : InnC (ν.1 3 11) (ν.1 3 12) (ν.1 3 13) l0_ := by rw [← hV, ← hU]; exact Or.inl ⟨rfl, rfl, rfl, rfl⟩
  have v6 : FC ν 0 (fun _ => 0) (fun _ => false) := by rw [← hV]; exact u6
  have v8 : RK ν l0_ := by rw [← hV]; exact rr
  have v1 : ν.1 1 0 = 0 := by rw [← hV, ← hU]; rfl
  have v41 : ν.1 41 0 = 0 := by rw [← hV, ← hU]; rfl
  have v0 : ν.1 0 11 = 0 := by rw [← hV, ← hU]; rfl
  have v44 : ν.2.1 44 = fun _ => 0 := by rw [← hV, ← hU]; rfl
  have v45 : ν.1 45 = s0_.1 45 := by rw [← hV, ← hU]; rfl
  have vA : ∀ o, 45 ≤ o → ν.2.1 o = fun _ => 0 := fun o ho => by
    rw [← hV, ← hU, fS_a, wS_a, if_neg (by omega), fS_a, fS_a, fS_a, fS_a, wS_a, if_neg (by omega)]
    rfl
  have vz : ν.2.2 = false := by rw [← hV, ← hU]; rfl
  refine ⟨mk υ, mk ν, er, by simp only [c_R], by simp only [c_R], by simp only [c_O], es, (ν.1, ν.2.1, true), ?_, l0_, 0, fun _ => 0, fun _ => false, ?_⟩
  · funext k
    by_cases h1 : k < 45
    · rw [k9_out (Or.inl h1)]
      unfold mk
      rw [if_pos (Or.inl h1), if_pos (Or.inl h1)]
    · by_cases h2 : k < 70
      · rw [k9_in k (by omega) h2]
        unfold mk
        rw [if_pos (Or.inr rfl), if_pos (Or.inr rfl)]
        by_cases h3 : k = 45
        · rw [h3]
          show ce _ _ _ = ce _ (ν.1 45) _
          rw [v45]
          rfl
        · have h4 : ∃ z n, tb[k]? = some (.inl (z, n)) := by
            rcases (show k = 46 ∨ k = 47 ∨ k = 48 ∨ k = 49 ∨ k = 50 ∨ k = 51 ∨ k = 52 ∨ k = 53 ∨ k = 54 ∨ k = 55 ∨ k = 56 ∨ k = 57 ∨ k = 58 ∨ k = 59 ∨ k = 60 ∨ k = 61 ∨ k = 62 ∨ k = 63 ∨ k = 64 ∨ k = 65 ∨ k = 66 ∨ k = 67 ∨ k = 68 ∨ k = 69 by omega) with rfl | rfl | rfl | rfl | rfl | rfl | rfl | rfl | rfl | rfl | rfl | rfl | rfl | rfl | rfl | rfl | rfl | rfl | rfl | rfl | rfl | rfl | rfl | rfl <;> exact ⟨_, _, rfl⟩
          obtain ⟨z, n, h4⟩ := h4
          rw [h4]
          show ce (.inl (z, n)) _ (fun _ => 0) = ce (.inl (z, n)) _ (ν.2.1 k)
          rw [vA k (by omega)]
          rfl
      · rw [k9_out (Or.inr (by omega)), mk_out (by omega), mk_out (by omega)]
  · refine ⟨l0_ok, v2, v3, ?_, ?_, v6, ?_, v8, rs, ⟨0, by decide, v1, ?_, fun i hi => absurd hi (Nat.not_lt_zero i)⟩, ⟨0, by decide, v41, ?_, fun i hi => absurd hi (Nat.not_lt_zero i)⟩, ?_, Or.inl ⟨v0, ?_⟩, rfl⟩
    · show LdA (ν.1 45 8) (ν.1 45 9) (ν.1 45 10) (ν.1 45 11) (ν.2.1 47) (ν.2.1 48) (ν.2.1 49) (ν.2.1 50) (ν.2.1 51) (ν.2.1 52) (ν.2.1 53) l0_
      rw [v45, vA 47 (by decide), vA 48 (by decide), vA 49 (by decide), vA 50 (by decide), vA 51 (by decide), vA 52 (by decide), vA 53 (by decide)]
      exact ⟨rfl, rfl, rfl, rfl, fun _ _ => rfl, fun _ _ => rfl, fun _ _ => rfl, fun _ _ => rfl, fun _ _ => rfl, fun _ _ => rfl, fun _ _ => rfl⟩
    · show InnM (ν.1 45 12) (ν.1 45 13) (ν.1 45 14) l0_
      rw [v45]
      exact Or.inl ⟨rfl, rfl⟩
    · show FdA (ν.1 45 17) (ν.2.1 54) (ν.2.1 55) 0 (fun _ => 0) (fun _ => false)
      rw [v45]
      exact ⟨rfl, by decide, fun i hi => absurd hi (Nat.not_lt_zero i)⟩
    · show ν.1 45 25 = nI 0
      rw [v45]
      rfl
    · show ν.1 45 39 = nI 0
      rw [v45]
      rfl
    · intro i hi
      show ν.2.1 44 i = ν.2.1 46 i
      rw [v44, vA 46 (by decide)]
    · show ν.1 45 29 = 0
      rw [v45]
      rfl
