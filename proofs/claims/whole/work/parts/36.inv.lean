/-! ===== 36: what holds between the calls; refusals ===== -/
def TxA (a b : Int32) (x y : Nat → Int32) : Prop := ∃ t, t ≤ 80 ∧ a = nI t ∧ b = nI t ∧ ∀ i, i < t → ∃ c, c < 256 ∧ x i = nI c ∧ y i = nI c
def RdA (a b : Int32) (x y : Nat → Int32) : Prop := ∃ t, t ≤ 10 ∧ a = nI t ∧ b = nI t ∧ ∀ i, i < t → ∃ s, s < 6 ∧ x i = nI s ∧ y i = nI s
def RfA (x y : Nat → Int32) : Prop := ∀ i, i < 7 → x i = y i
def KpA (a : Nat → Int32) (L : Ld) (k : Nat) (B : Nat → Nat) (S : Nat → Bool) : Prop := (∀ i, i < 8 → a i = nI (L.2 0 i)) ∧ (∀ i, i < 8 → a (8 + i) = nI (L.2 1 i)) ∧ (∀ i, i < 6 → a (16 + i) = nI (L.2 2 i)) ∧ (∀ i, i < 6 → a (22 + i) = nI (L.2 3 i)) ∧ (∀ i, i < 6 → a (28 + i) = nI (L.2 4 i)) ∧ (∀ i, i < 6 → a (34 + i) = nI (L.2 5 i)) ∧ (∀ i, i < 6 → a (40 + i) = nI (L.2 6 i)) ∧ (∀ i, i < k → a (46 + i) = nI (B i) ∧ a (58 + i) = b2i (S i)) ∧ a 70 = nI (L.1 0) ∧ a 71 = nI (L.1 1) ∧ a 72 = nI (L.1 2) ∧ a 73 = nI (L.1 3) ∧ InnM (a 74) (a 75) (a 76) L ∧ a 77 = nI k
def ImA (t u p r f s i1 i2 i3 fn : Int32) (a0 a1 a2 a3 a4 a5 a6 fb fs kp : Nat → Int32) : Prop := (t = 0 ∧ u = 0) ∨ (t = 1 ∧ u = 1 ∧ ∃ (L : Ld) (k : Nat) (B : Nat → Nat) (S : Nat → Bool), LdOK L ∧ LdA p r f s a0 a1 a2 a3 a4 a5 a6 L ∧ InnC i1 i2 i3 L ∧ FdA fn fb fs k B S ∧ KpA kp L k B S)
abbrev IM (σ : St) : Prop := ImA (σ.1 0 11) (σ.1 45 29) (σ.1 19 0) (σ.1 19 1) (σ.1 19 2) (σ.1 19 3) (σ.1 19 11) (σ.1 19 12) (σ.1 19 13) (σ.1 30 0) (σ.2.1 20) (σ.2.1 21) (σ.2.1 22) (σ.2.1 23) (σ.2.1 24) (σ.2.1 25) (σ.2.1 26) (σ.2.1 31) (σ.2.1 32) (σ.2.1 63)
def Iw (σ : St) (L : Ld) (k : Nat) (B : Nat → Nat) (S : Nat → Bool) : Prop := LdOK L ∧ LC σ L ∧ InnC (σ.1 3 11) (σ.1 3 12) (σ.1 3 13) L ∧ LM σ L ∧ InnM (σ.1 45 12) (σ.1 45 13) (σ.1 45 14) L ∧ FC σ k B S ∧ FM σ k B S ∧ RK σ L ∧ SF σ L k B S ∧ TxA (σ.1 1 0) (σ.1 45 25) (σ.2.1 2) (σ.2.1 56) ∧ RdA (σ.1 41 0) (σ.1 45 39) (σ.2.1 42) (σ.2.1 68) ∧ RfA (σ.2.1 44) (σ.2.1 46) ∧ IM σ ∧ σ.2.2 = true
def Iv (σ : St) : Prop := ∃ (L : Ld) (k : Nat) (B : Nat → Nat) (S : Nat → Bool), Iw σ L k B S
def Inv (h : qv_H) : Prop := ∃ σ, h = mk σ ∧ Iv σ
theorem iw_z {σ : St} {L : Ld} {k : Nat} {B : Nat → Nat} {S : Nat → Bool} (h : Iw σ L k B S) : σ.2.2 = true := h.2.2.2.2.2.2.2.2.2.2.2.2.2
theorem fin {f8 : Option (Int32 × qv_H)} {f9 : qv_H → Option (Int32 × qv_H)} {r : Int32} {σ1 σ2 : St} (e8 : f8 = some (r, mk σ1)) (z1 : σ1.2.2 = true) (e9 : f9 (mk σ1) = some (r, mk σ2)) (hI : Iv σ2) : ∃ (r : Int32) (h1 h2 : qv_H), f8 = some (r, h1) ∧ qv_ob h1 8 45 = some () ∧ f9 h1 = some (r, h2) ∧ Inv h2 :=
  ⟨r, mk σ1, mk σ2, e8, m_O z1, e9, σ2, rfl, hI⟩
theorem c_ref {σ : St} {j : Nat} (h1 : 1 ≤ j) (h7 : j < 7) {x : Int32} (hx : -x = nI j) : fX8_refuse 0 x (mk σ) = some (x, mk (aS σ 44 j (σ.2.1 44 j + 1))) := by
  unfold fX8_refuse
  simp only [hx, c_R, c_L, o_b, c_A, c_S, h7]
  rw [if_neg (show ¬ nI j < 1 from nI_nlt (a := j) (b := 1) h1 (by omega)), if_neg (show ¬ nI 7 ≤ nI j from nI_ge h7 (by decide))]
  rfl
theorem m_no {σ : St} (hz : σ.2.2 = true) {j : Nat} (h7 : j < 7) {x : Int32} (hx : -x = nI j) : fX9_no 45 x (mk σ) = some (x, mk (aS σ 46 j (σ.2.1 46 j + 1))) := by
  unfold fX9_no
  simp only [hx, m_R hz, o_b, m_A hz, m_S hz, h7]
theorem c_ref1 {σ : St} : fX8_refuse 0 (-1) (mk σ) = some (-1, mk (aS σ 44 1 (σ.2.1 44 1 + 1))) := c_ref (by decide) (by decide) (by decide)
theorem c_ref2 {σ : St} : fX8_refuse 0 (-2) (mk σ) = some (-2, mk (aS σ 44 2 (σ.2.1 44 2 + 1))) := c_ref (by decide) (by decide) (by decide)
theorem c_ref3 {σ : St} : fX8_refuse 0 (-3) (mk σ) = some (-3, mk (aS σ 44 3 (σ.2.1 44 3 + 1))) := c_ref (by decide) (by decide) (by decide)
theorem c_ref4 {σ : St} : fX8_refuse 0 (-4) (mk σ) = some (-4, mk (aS σ 44 4 (σ.2.1 44 4 + 1))) := c_ref (by decide) (by decide) (by decide)
theorem c_ref6 {σ : St} : fX8_refuse 0 (-6) (mk σ) = some (-6, mk (aS σ 44 6 (σ.2.1 44 6 + 1))) := c_ref (by decide) (by decide) (by decide)
theorem m_no1 {σ : St} (hz : σ.2.2 = true) : fX9_no 45 (-1) (mk σ) = some (-1, mk (aS σ 46 1 (σ.2.1 46 1 + 1))) := m_no hz (by decide) (by decide)
theorem m_no2 {σ : St} (hz : σ.2.2 = true) : fX9_no 45 (-2) (mk σ) = some (-2, mk (aS σ 46 2 (σ.2.1 46 2 + 1))) := m_no hz (by decide) (by decide)
theorem m_no3 {σ : St} (hz : σ.2.2 = true) : fX9_no 45 (-3) (mk σ) = some (-3, mk (aS σ 46 3 (σ.2.1 46 3 + 1))) := m_no hz (by decide) (by decide)
theorem m_no4 {σ : St} (hz : σ.2.2 = true) : fX9_no 45 (-4) (mk σ) = some (-4, mk (aS σ 46 4 (σ.2.1 46 4 + 1))) := m_no hz (by decide) (by decide)
theorem m_no6 {σ : St} (hz : σ.2.2 = true) : fX9_no 45 (-6) (mk σ) = some (-6, mk (aS σ 46 6 (σ.2.1 46 6 + 1))) := m_no hz (by decide) (by decide)
theorem iw_ref {σ : St} {L : Ld} {k : Nat} {B : Nat → Nat} {S : Nat → Bool} (h : Iw σ L k B S) (j : Nat) : Iw (aS (aS σ 44 j (σ.2.1 44 j + 1)) 46 j (σ.2.1 46 j + 1)) L k B S := by
  obtain ⟨h1, h2, h3, h4, h5, h6, h7, h8, h9, h10, h11, h12, h13, h14⟩ := h
  refine ⟨h1, h2, h3, h4, h5, h6, h7, h8, h9, h10, h11, ?_, h13, h14⟩
  intro i hi
  show upd (σ.2.1 44) j (σ.2.1 44 j + 1) i = upd (σ.2.1 46) j (σ.2.1 46 j + 1) i
  have := h12 i hi
  unfold upd
  by_cases hij : i = j
  · subst hij; simp [this]
  · simp [hij, this]
/-- both refuse -/
theorem fin_r {σ : St} {L : Ld} {k : Nat} {B : Nat → Nat} {S : Nat → Bool} (hI : Iw σ L k B S) (j : Nat) {x : Int32} {f8 : Option (Int32 × qv_H)} {f9 : qv_H → Option (Int32 × qv_H)} (e8 : f8 = some (x, mk (aS σ 44 j (σ.2.1 44 j + 1)))) (e9 : f9 (mk (aS σ 44 j (σ.2.1 44 j + 1))) = some (x, mk (aS (aS σ 44 j (σ.2.1 44 j + 1)) 46 j (σ.2.1 46 j + 1)))) : ∃ (r : Int32) (h1 h2 : qv_H), f8 = some (r, h1) ∧ qv_ob h1 8 45 = some () ∧ f9 h1 = some (r, h2) ∧ Inv h2 :=
  fin e8 (show σ.2.2 = true from iw_z hI) e9 ⟨L, k, B, S, iw_ref hI j⟩
/-- both answer, nothing changes -/
theorem fin_v {σ : St} {L : Ld} {k : Nat} {B : Nat → Nat} {S : Nat → Bool} (hI : Iw σ L k B S) {x : Int32} {f8 : Option (Int32 × qv_H)} {f9 : qv_H → Option (Int32 × qv_H)} (e8 : f8 = some (x, mk σ)) (e9 : f9 (mk σ) = some (x, mk σ)) : ∃ (r : Int32) (h1 h2 : qv_H), f8 = some (r, h1) ∧ qv_ob h1 8 45 = some () ∧ f9 h1 = some (r, h2) ∧ Inv h2 :=
  fin e8 (iw_z hI) e9 ⟨L, k, B, S, hI⟩
theorem n_in (x a b : Int32) : fX9_isIn x a b = some (b2i (decide (¬ x < a ∧ ¬ b < x))) := by
  unfold fX9_isIn
  by_cases h1 : x < a
  · simp [h1]; rfl
  · by_cases h2 : b < x
    · simp [h1, h2]; rfl
    · simp [h1, h2]; rfl
theorem in_inr {x : Int32} {n : Nat} (hn : n < 2 ^ 31) : decide (¬ x < 0 ∧ ¬ (nI n - 1) < x) = inr_ x (nI n) := by
  unfold inr_
  congr 1
  apply propext
  rcases n_cases x with h | ⟨j, hj, rfl⟩
  · simp [h]
  · have h0 := nI_pos hj
    simp only [h0, not_false_eq_true, true_and]
    rw [nI_leI hn hj, Int32.lt_iff_toInt_lt, nI_toInt hj]
    cases n with
    | zero => rw [show (nI 0 - 1 : Int32).toInt = -1 by decide]; omega
    | succ n => rw [nI_pred, nI_toInt (by omega)]; omega
/-- what is asked is one of a few -/
theorem in_few {x : Int32} {n : Nat} (hn : n < 2 ^ 31) : (decide (¬ x < 0 ∧ ¬ nI n < x) = true) ↔ ∃ j, j ≤ n ∧ x = nI j := by
  rw [decide_eq_true_iff]
  constructor
  · rintro ⟨h1, h2⟩
    obtain ⟨j, hj, rfl⟩ := nI_of h1
    refine ⟨j, ?_, rfl⟩
    rw [nI_ltI hn hj] at h2
    omega
  · rintro ⟨j, hj, rfl⟩
    exact ⟨nI_pos (by omega), nI_nlt hj (by omega)⟩
section OB
theorem ob_hd : ∀ h, Inv h → qv_ob h 7 0 = some () := by
  rintro h ⟨σ, rfl, -⟩
  exact c_O.1
theorem ok3 : ql_o3 Inv := by
  rintro a1 a2 h ⟨σ, rfl, L, k, B, S, hI⟩
  have hz := iw_z hI
  obtain ⟨h1, h2, h3, h4, h5, h6, h7, h8, h9, h10, h11, h12, h13, h14⟩ := id hI
  have c3 : σ.1 3 3 = nI (L.1 3) := h2.2.2.2.1
  have m3 : σ.1 45 11 = nI (L.1 3) := h4.2.2.2.1
  have hsc := h1.2.2.2.1
  cases hs : inr_ a1 (nI (L.1 3)) with
  | false =>
    refine fin_r (f9 := fun h => fX9_sign 45 a1 a2 h) hI 1 (x := -1) ?_ ?_
    · unfold fX8_sign
      simp only [c_R, c_O, o_b, c_sign, c3, hs, b2i_f, if_true, c_ref1]
    · show fX9_sign 45 a1 a2 _ = _
      unfold fX9_sign
      have hz1 : (aS σ 44 1 (σ.2.1 44 1 + 1)).2.2 = true := hz
      simp only [m_O hz1, o_b, m_sign hz1, aS_f, m3, hs, b2i_f, if_true, m_no1 hz1]
      rfl
  | true =>
    obtain ⟨s, hs2, rfl⟩ := inr_of (by omega) hs
    have hs6 : s < 6 := by omega
    have hne : ¬ ((1 : Int32) = 0) := by decide
    cases hw : decide (¬ a2 < 0 ∧ ¬ nI 3 < a2) with
    | false =>
      have n0 : ¬ a2 = 0 := fun q => absurd hw (by rw [(in_few (by decide)).mpr ⟨0, by decide, q⟩]; decide)
      have n1 : ¬ a2 = 1 := fun q => absurd hw (by rw [(in_few (by decide)).mpr ⟨1, by decide, q⟩]; decide)
      have n2 : ¬ a2 = 2 := fun q => absurd hw (by rw [(in_few (by decide)).mpr ⟨2, by decide, q⟩]; decide)
      have n3 : ¬ a2 = 3 := fun q => absurd hw (by rw [(in_few (by decide)).mpr ⟨3, by decide, q⟩]; decide)
      refine fin_r (f9 := fun h => fX9_sign 45 (nI s) a2 h) hI 2 (x := -2) ?_ ?_
      · unfold fX8_sign
        simp only [c_R, c_O, o_b, c_sign, c3, hs, b2i_t, hne, if_false, n0, n1, n2, n3, c_ref2]
      · show fX9_sign 45 (nI s) a2 _ = _
        unfold fX9_sign
        have hz1 : (aS σ 44 2 (σ.2.1 44 2 + 1)).2.2 = true := hz
        have e3 : (3 : Int32) = nI 3 := rfl
        simp only [m_O hz1, o_b, m_sign hz1, aS_f, m3, hs, b2i_t, hne, if_false, n_in, e3, hw, b2i_f, if_true, m_no2 hz1]
        rfl
    | true =>
      obtain ⟨w, hw4, rfl⟩ := (in_few (by decide)).mp hw
      have e3 : (3 : Int32) = nI 3 := rfl
      rcases (show w = 0 ∨ w = 1 ∨ w = 2 ∨ w = 3 by omega) with rfl | rfl | rfl | rfl
      · refine fin_v (f9 := fun h => fX9_sign 45 (nI s) (nI 0) h) hI (x := nI (L.2 2 s)) ?_ ?_
        · unfold fX8_sign
          simp only [c_R, c_O, o_b, c_sign, c3, hs, b2i_t, hne, if_false, c_A, hs6, h2.2.2.2.2.2.2.1 s hs6]
          rfl
        · show fX9_sign 45 (nI s) (nI 0) _ = _
          unfold fX9_sign
          simp only [m_O hz, o_b, m_sign hz, m3, hs, b2i_t, hne, if_false, n_in, e3, hw, m_R hz, m_A hz, hs6, h4.2.2.2.2.2.2.1 s hs6]
          rfl
      · refine fin_v (f9 := fun h => fX9_sign 45 (nI s) (nI 1) h) hI (x := nI (L.2 3 s)) ?_ ?_
        · unfold fX8_sign
          simp only [c_R, c_O, o_b, c_sign, c3, hs, b2i_t, hne, if_false, c_A, hs6, h2.2.2.2.2.2.2.2.1 s hs6]
          rfl
        · show fX9_sign 45 (nI s) (nI 1) _ = _
          unfold fX9_sign
          simp only [m_O hz, o_b, m_sign hz, m3, hs, b2i_t, hne, if_false, n_in, e3, hw, m_R hz, m_A hz, hs6, h4.2.2.2.2.2.2.2.1 s hs6]
          rfl
      · refine fin_v (f9 := fun h => fX9_sign 45 (nI s) (nI 2) h) hI (x := nI (L.2 4 s)) ?_ ?_
        · unfold fX8_sign
          simp only [c_R, c_O, o_b, c_sign, c3, hs, b2i_t, hne, if_false, c_A, hs6, h2.2.2.2.2.2.2.2.2.1 s hs6]
          rfl
        · show fX9_sign 45 (nI s) (nI 2) _ = _
          unfold fX9_sign
          simp only [m_O hz, o_b, m_sign hz, m3, hs, b2i_t, hne, if_false, n_in, e3, hw, m_R hz, m_A hz, hs6, h4.2.2.2.2.2.2.2.2.1 s hs6]
          rfl
      · refine fin_v (f9 := fun h => fX9_sign 45 (nI s) (nI 3) h) hI (x := nI (L.2 5 s)) ?_ ?_
        · unfold fX8_sign
          simp only [c_R, c_O, o_b, c_sign, c3, hs, b2i_t, hne, if_false, c_A, hs6, h2.2.2.2.2.2.2.2.2.2.1 s hs6]
          rfl
        · show fX9_sign 45 (nI s) (nI 3) _ = _
          unfold fX9_sign
          simp only [m_O hz, o_b, m_sign hz, m3, hs, b2i_t, hne, if_false, n_in, e3, hw, m_R hz, m_A hz, hs6, h4.2.2.2.2.2.2.2.2.2.1 s hs6]
          rfl
end OB
