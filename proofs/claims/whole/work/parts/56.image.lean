/-! ===== 56: obligations: image, on ===== -/
theorem cpy_at {f g : Nat → Int32} {n i : Nat} (h : i < n) : va_cpy f g 0 0 n i = f i := by
  unfold va_cpy
  rw [if_pos ⟨Nat.zero_le _, by omega⟩, Nat.zero_add, Nat.sub_zero]
theorem cpj_at {f g : Nat → Int32} {n i : Nat} (h : i < n) : cpj f g n i = f i := if_pos h
theorem mx_at {σ : St} {c m i : Nat} (h : i < m) : mx_ σ c m (c + i) = KK σ i := by
  unfold mx_
  rw [if_pos ⟨by omega, by omega⟩, Nat.add_sub_cancel_left]
theorem mx_out {σ : St} {c m i : Nat} (h : i < c) : mx_ σ c m i = σ.2.1 63 i := by
  unfold mx_
  rw [if_neg (by omega)]
theorem KK_47 {σ : St} {i : Nat} (hi : i < 8) : KK σ i = σ.2.1 47 i := by
  unfold KK
  rw [if_pos (show i < 8 by omega)]
theorem KK_48 {σ : St} {i : Nat} (hi : i < 8) : KK σ (8 + i) = σ.2.1 48 i := by
  unfold KK
  rw [if_neg (show ¬ (8 + i) < 8 by omega), if_pos (show (8 + i) < 16 by omega), Nat.add_sub_cancel_left]
theorem KK_49 {σ : St} {i : Nat} (hi : i < 6) : KK σ (16 + i) = σ.2.1 49 i := by
  unfold KK
  rw [if_neg (show ¬ (16 + i) < 8 by omega), if_neg (show ¬ (16 + i) < 16 by omega), if_pos (show (16 + i) < 22 by omega), Nat.add_sub_cancel_left]
theorem KK_50 {σ : St} {i : Nat} (hi : i < 6) : KK σ (22 + i) = σ.2.1 50 i := by
  unfold KK
  rw [if_neg (show ¬ (22 + i) < 8 by omega), if_neg (show ¬ (22 + i) < 16 by omega), if_neg (show ¬ (22 + i) < 22 by omega), if_pos (show (22 + i) < 28 by omega), Nat.add_sub_cancel_left]
theorem KK_51 {σ : St} {i : Nat} (hi : i < 6) : KK σ (28 + i) = σ.2.1 51 i := by
  unfold KK
  rw [if_neg (show ¬ (28 + i) < 8 by omega), if_neg (show ¬ (28 + i) < 16 by omega), if_neg (show ¬ (28 + i) < 22 by omega), if_neg (show ¬ (28 + i) < 28 by omega), if_pos (show (28 + i) < 34 by omega), Nat.add_sub_cancel_left]
theorem KK_52 {σ : St} {i : Nat} (hi : i < 6) : KK σ (34 + i) = σ.2.1 52 i := by
  unfold KK
  rw [if_neg (show ¬ (34 + i) < 8 by omega), if_neg (show ¬ (34 + i) < 16 by omega), if_neg (show ¬ (34 + i) < 22 by omega), if_neg (show ¬ (34 + i) < 28 by omega), if_neg (show ¬ (34 + i) < 34 by omega), if_pos (show (34 + i) < 40 by omega), Nat.add_sub_cancel_left]
theorem KK_53 {σ : St} {i : Nat} (hi : i < 6) : KK σ (40 + i) = σ.2.1 53 i := by
  unfold KK
  rw [if_neg (show ¬ (40 + i) < 8 by omega), if_neg (show ¬ (40 + i) < 16 by omega), if_neg (show ¬ (40 + i) < 22 by omega), if_neg (show ¬ (40 + i) < 28 by omega), if_neg (show ¬ (40 + i) < 34 by omega), if_neg (show ¬ (40 + i) < 40 by omega), if_pos (show (40 + i) < 46 by omega), Nat.add_sub_cancel_left]
theorem KK_54 {σ : St} {i : Nat} (hi : i < 12) : KK σ (46 + i) = σ.2.1 54 i := by
  unfold KK
  rw [if_neg (show ¬ (46 + i) < 8 by omega), if_neg (show ¬ (46 + i) < 16 by omega), if_neg (show ¬ (46 + i) < 22 by omega), if_neg (show ¬ (46 + i) < 28 by omega), if_neg (show ¬ (46 + i) < 34 by omega), if_neg (show ¬ (46 + i) < 40 by omega), if_neg (show ¬ (46 + i) < 46 by omega), if_pos (show (46 + i) < 58 by omega), Nat.add_sub_cancel_left]
theorem KK_55 {σ : St} {i : Nat} (hi : i < 12) : KK σ (58 + i) = σ.2.1 55 i := by
  unfold KK
  rw [if_neg (show ¬ (58 + i) < 8 by omega), if_neg (show ¬ (58 + i) < 16 by omega), if_neg (show ¬ (58 + i) < 22 by omega), if_neg (show ¬ (58 + i) < 28 by omega), if_neg (show ¬ (58 + i) < 34 by omega), if_neg (show ¬ (58 + i) < 40 by omega), if_neg (show ¬ (58 + i) < 46 by omega), if_neg (show ¬ (58 + i) < 58 by omega), if_pos (show (58 + i) < 70 by omega), Nat.add_sub_cancel_left]
theorem KK_kp {σ : St} {L : Ld} {k : Nat} {B : Nat → Nat} {S : Nat → Bool} {a : Nat → Int32} (h : ∀ i, i < 78 → a i = KK σ i) (hL : LM σ L) (hN : InnM (σ.1 45 12) (σ.1 45 13) (σ.1 45 14) L) (hF : FM σ k B S) : KpA a L k B S := by
  obtain ⟨l0, l1, l2, l3, l4, l5, l6, l7, l8, l9, l10⟩ := hL
  have hk := hF.2.1
  refine ⟨fun i hi => ?_, fun i hi => ?_, fun i hi => ?_, fun i hi => ?_, fun i hi => ?_, fun i hi => ?_, fun i hi => ?_, fun i hi => ⟨?_, ?_⟩, ?_, ?_, ?_, ?_, ?_, ?_⟩
  · rw [h _ (by omega), KK_47 hi]; exact l4 i hi
  · rw [h _ (by omega), KK_48 hi]; exact l5 i hi
  · rw [h _ (by omega), KK_49 hi]; exact l6 i hi
  · rw [h _ (by omega), KK_50 hi]; exact l7 i hi
  · rw [h _ (by omega), KK_51 hi]; exact l8 i hi
  · rw [h _ (by omega), KK_52 hi]; exact l9 i hi
  · rw [h _ (by omega), KK_53 hi]; exact l10 i hi
  · rw [h _ (by omega), KK_54 (show i < 12 by omega)]; exact (hF.2.2 i hi).1
  · rw [h _ (by omega), KK_55 (show i < 12 by omega)]; exact (hF.2.2 i hi).2.1
  · rw [h 70 (by omega)]; exact l0
  · rw [h 71 (by omega)]; exact l1
  · rw [h 72 (by omega)]; exact l2
  · rw [h 73 (by omega)]; exact l3
  · rw [h 74 (by omega), h 75 (by omega), h 76 (by omega)]; exact hN
  · rw [h 77 (by omega)]; exact hF.1
theorem bst_at {σ : St} {c a i : Nat} (a1 : 47 ≤ a) (a2 : a ≤ 55) (hi : i < ln_ a) : (bst σ c 78).2.1 a i = σ.2.1 63 (c + (of_ a + i)) := by
  have := of_70 a1 a2 hi
  unfold bst
  dsimp only
  rw [if_pos ⟨a1, a2, hi, by omega⟩]
theorem bst_L {σ : St} {c : Nat} {L : Ld} {k : Nat} {B : Nat → Nat} {S : Nat → Bool} (h : KpA (fun i => σ.2.1 63 (c + i)) L k B S) (hk : k ≤ 12) (hB : ∀ i, i < k → B i < 10) : LM (bst σ c 78) L ∧ InnM ((bst σ c 78).1 45 12) ((bst σ c 78).1 45 13) ((bst σ c 78).1 45 14) L ∧ FM (bst σ c 78) k B S := by
  obtain ⟨k0, k1, k2, k3, k4, k5, k6, k7, k8, k9, k10, k11, k12, k13⟩ := h
  refine ⟨⟨k8, k9, k10, k11, fun i hi => ?_, fun i hi => ?_, fun i hi => ?_, fun i hi => ?_, fun i hi => ?_, fun i hi => ?_, fun i hi => ?_⟩, k12, ⟨k13, hk, fun i hi => ⟨?_, ?_, hB i hi⟩⟩⟩
  · rw [bst_at (by decide) (by decide) (show i < ln_ 47 from hi), show of_ 47 = 0 from rfl, Nat.zero_add]; exact k0 i hi
  · rw [bst_at (by decide) (by decide) (show i < ln_ 48 from hi)]; exact k1 i hi
  · rw [bst_at (by decide) (by decide) (show i < ln_ 49 from hi)]; exact k2 i hi
  · rw [bst_at (by decide) (by decide) (show i < ln_ 50 from hi)]; exact k3 i hi
  · rw [bst_at (by decide) (by decide) (show i < ln_ 51 from hi)]; exact k4 i hi
  · rw [bst_at (by decide) (by decide) (show i < ln_ 52 from hi)]; exact k5 i hi
  · rw [bst_at (by decide) (by decide) (show i < ln_ 53 from hi)]; exact k6 i hi
  · rw [bst_at (by decide) (by decide) (show i < ln_ 54 from (show i < 12 by omega))]; exact (k7 i hi).1
  · rw [bst_at (by decide) (by decide) (show i < ln_ 55 from (show i < 12 by omega))]; exact (k7 i hi).2
theorem lda_cpy {σ : St} {L : Ld} {p r f s : Int32} {a0 a1 a2 a3 a4 a5 a6 b0 b1 b2 b3 b4 b5 b6 : Nat → Int32} (h : LdA p r f s a0 a1 a2 a3 a4 a5 a6 L) : LdA p r f s (va_cpy a0 b0 0 0 8) (va_cpy a1 b1 0 0 8) (va_cpy a2 b2 0 0 6) (va_cpy a3 b3 0 0 6) (va_cpy a4 b4 0 0 6) (va_cpy a5 b5 0 0 6) (va_cpy a6 b6 0 0 6) L := by
  obtain ⟨l0, l1, l2, l3, l4, l5, l6, l7, l8, l9, l10⟩ := h
  exact ⟨l0, l1, l2, l3, fun i hi => by rw [cpy_at hi]; exact l4 i hi, fun i hi => by rw [cpy_at hi]; exact l5 i hi, fun i hi => by rw [cpy_at hi]; exact l6 i hi, fun i hi => by rw [cpy_at hi]; exact l7 i hi, fun i hi => by rw [cpy_at hi]; exact l8 i hi, fun i hi => by rw [cpy_at hi]; exact l9 i hi, fun i hi => by rw [cpy_at hi]; exact l10 i hi⟩
theorem fda_cpj {n : Int32} {a b c d : Nat → Int32} {k : Nat} {B : Nat → Nat} {S : Nat → Bool} (h : FdA n a b k B S) : FdA n (cpj a c k) (cpj b d k) k B S := ⟨h.1, h.2.1, fun i hi => by rw [cpj_at hi, cpj_at hi]; exact h.2.2 i hi⟩
theorem ok26 : ql_o26 Inv := by
  rintro h ⟨σ, rfl, L, k, B, S, hI⟩
  have hz := iw_z hI
  obtain ⟨h1, h2, h3, h4, h5, h6, h7, h8, h9, h10, h11, h12, h13, h14⟩ := id hI
  have eb := c_bef_30_27 (σ := bec_19_3 σ) (k := k) (B := B) (S := S) h6
  have sL : LdA ((fS (bef_30_27 (bec_19_3 σ) k) 0 11 1).1 19 0) ((fS (bef_30_27 (bec_19_3 σ) k) 0 11 1).1 19 1) ((fS (bef_30_27 (bec_19_3 σ) k) 0 11 1).1 19 2) ((fS (bef_30_27 (bec_19_3 σ) k) 0 11 1).1 19 3) ((fS (bef_30_27 (bec_19_3 σ) k) 0 11 1).2.1 20) ((fS (bef_30_27 (bec_19_3 σ) k) 0 11 1).2.1 21) ((fS (bef_30_27 (bec_19_3 σ) k) 0 11 1).2.1 22) ((fS (bef_30_27 (bec_19_3 σ) k) 0 11 1).2.1 23) ((fS (bef_30_27 (bec_19_3 σ) k) 0 11 1).2.1 24) ((fS (bef_30_27 (bec_19_3 σ) k) 0 11 1).2.1 25) ((fS (bef_30_27 (bec_19_3 σ) k) 0 11 1).2.1 26) L := lda_cpy (σ := σ) (b0 := σ.2.1 20) (b1 := σ.2.1 21) (b2 := σ.2.1 22) (b3 := σ.2.1 23) (b4 := σ.2.1 24) (b5 := σ.2.1 25) (b6 := σ.2.1 26) h2
  have sN : InnC ((fS (bef_30_27 (bec_19_3 σ) k) 0 11 1).1 19 11) ((fS (bef_30_27 (bec_19_3 σ) k) 0 11 1).1 19 12) ((fS (bef_30_27 (bec_19_3 σ) k) 0 11 1).1 19 13) L := h3
  have sF : FdA ((fS (bef_30_27 (bec_19_3 σ) k) 0 11 1).1 30 0) ((fS (bef_30_27 (bec_19_3 σ) k) 0 11 1).2.1 31) ((fS (bef_30_27 (bec_19_3 σ) k) 0 11 1).2.1 32) k B S := fda_cpj (c := σ.2.1 31) (d := σ.2.1 32) h6
  have e8 : fX8_image 0 (mk σ) = some (nI k, mk (fS (bef_30_27 (bec_19_3 σ) k) 0 11 1)) := by
    unfold fX8_image
    simp only [c_R, c_O, o_b, c_bec_19_3, eb, c_Z, c_I]
    rw [show (fS (bef_30_27 (bec_19_3 σ) k) 0 11 1).1 27 0 = nI k from h6.1]
  have g2 : LC (fS (bef_30_27 (bec_19_3 σ) k) 0 11 1) L := h2
  have g3 : InnC ((fS (bef_30_27 (bec_19_3 σ) k) 0 11 1).1 3 11) ((fS (bef_30_27 (bec_19_3 σ) k) 0 11 1).1 3 12) ((fS (bef_30_27 (bec_19_3 σ) k) 0 11 1).1 3 13) L := h3
  have g4 : LM (fS (bef_30_27 (bec_19_3 σ) k) 0 11 1) L := h4
  have g5 : InnM ((fS (bef_30_27 (bec_19_3 σ) k) 0 11 1).1 45 12) ((fS (bef_30_27 (bec_19_3 σ) k) 0 11 1).1 45 13) ((fS (bef_30_27 (bec_19_3 σ) k) 0 11 1).1 45 14) L := h5
  have g6 : FC (fS (bef_30_27 (bec_19_3 σ) k) 0 11 1) k B S := h6
  have g7 : FM (fS (bef_30_27 (bec_19_3 σ) k) 0 11 1) k B S := h7
  have g8 : RK (fS (bef_30_27 (bec_19_3 σ) k) 0 11 1) L := h8
  have g9 : SF (fS (bef_30_27 (bec_19_3 σ) k) 0 11 1) L k B S := h9
  have g10 : TxA ((fS (bef_30_27 (bec_19_3 σ) k) 0 11 1).1 1 0) ((fS (bef_30_27 (bec_19_3 σ) k) 0 11 1).1 45 25) ((fS (bef_30_27 (bec_19_3 σ) k) 0 11 1).2.1 2) ((fS (bef_30_27 (bec_19_3 σ) k) 0 11 1).2.1 56) := h10
  have g11 : RdA ((fS (bef_30_27 (bec_19_3 σ) k) 0 11 1).1 41 0) ((fS (bef_30_27 (bec_19_3 σ) k) 0 11 1).1 45 39) ((fS (bef_30_27 (bec_19_3 σ) k) 0 11 1).2.1 42) ((fS (bef_30_27 (bec_19_3 σ) k) 0 11 1).2.1 68) := h11
  have g12 : RfA ((fS (bef_30_27 (bec_19_3 σ) k) 0 11 1).2.1 44) ((fS (bef_30_27 (bec_19_3 σ) k) 0 11 1).2.1 46) := h12
  have g14 : (fS (bef_30_27 (bec_19_3 σ) k) 0 11 1).2.2 = true := hz
  have g0 : (fS (bef_30_27 (bec_19_3 σ) k) 0 11 1).1 0 11 = 1 := rfl
  generalize fS (bef_30_27 (bec_19_3 σ) k) 0 11 1 = τ at *
  have z1 : (fS τ 45 29 1).2.2 = true := g14
  have z2 : (kst (fS τ 45 29 1) (100 * 0) 78).2.2 = true := g14
  have ek : fX9_passesAll 45 0 1 (mk (fS τ 45 29 1)) = _ := m_keepAll z1 (w := 0) (by decide)
  have e17 : (kst (fS τ 45 29 1) (100 * 0) 78).1 45 17 = nI k := g7.1
  have e9 : fX9_image 45 (mk τ) = some (nI k, mk (kst (fS τ 45 29 1) (100 * 0) 78)) := by
    unfold fX9_image
    simp only [m_Z g14, o_b, m_O z1, ek, m_I z2, e17]
  refine fin (f9 := fun h => fX9_image 45 h) e8 g14 e9 ⟨L, k, B, S, h1, g2, g3, g4, g5, g6, g7, g8, g9, g10, g11, g12, ?_, g14⟩
  refine Or.inr ⟨g0, rfl, L, k, B, S, h1, sL, sN, sF, ?_⟩
  refine KK_kp (σ := fS τ 45 29 1) (fun i hi => ?_) g4 g5 g7
  have := mx_at (σ := fS τ 45 29 1) (c := 100 * 0) (m := 78) hi
  rw [show 100 * 0 + i = i by omega] at this
  exact this
theorem ok27 : ql_o27 Inv := by
  rintro h ⟨σ, rfl, L, k, B, S, hI⟩
  have hz := iw_z hI
  obtain ⟨h1, h2, h3, h4, h5, h6, h7, h8, h9, h10, h11, h12, h13, h14⟩ := id hI
  rcases id h13 with ⟨t0, u0⟩ | ⟨t1, u1, M, n, C, T, i1, i2, i3, i4, i5⟩
  · have hz1 : (aS σ 44 3 (σ.2.1 44 3 + 1)).2.2 = true := hz
    refine fin_r (f9 := fun h => fX9_on 45 h) hI 3 (x := -3) ?_ ?_
    · unfold fX8_on
      simp only [c_I, t0, o_b, if_true, c_O, c_ref3]
    · show fX9_on 45 _ = _
      unfold fX9_on
      simp only [m_I hz1, aS_f, u0, o_b, if_true, m_O hz1, m_no3 hz1]
      rfl
  · have eb := c_bef_27_30 (σ := bec_3_19 σ) (k := n) (B := C) (S := T) i4
    have g2 : LC (fS (bef_27_30 (bec_3_19 σ) n) 41 0 0) M := lda_cpy (σ := σ) (b0 := σ.2.1 4) (b1 := σ.2.1 5) (b2 := σ.2.1 6) (b3 := σ.2.1 7) (b4 := σ.2.1 8) (b5 := σ.2.1 9) (b6 := σ.2.1 10) i2
    have g3 : InnC ((fS (bef_27_30 (bec_3_19 σ) n) 41 0 0).1 3 11) ((fS (bef_27_30 (bec_3_19 σ) n) 41 0 0).1 3 12) ((fS (bef_27_30 (bec_3_19 σ) n) 41 0 0).1 3 13) M := i3
    have g6 : FC (fS (bef_27_30 (bec_3_19 σ) n) 41 0 0) n C T := fda_cpj (c := σ.2.1 28) (d := σ.2.1 29) i4
    have g10 : TxA ((fS (bef_27_30 (bec_3_19 σ) n) 41 0 0).1 1 0) ((fS (bef_27_30 (bec_3_19 σ) n) 41 0 0).1 45 25) ((fS (bef_27_30 (bec_3_19 σ) n) 41 0 0).2.1 2) ((fS (bef_27_30 (bec_3_19 σ) n) 41 0 0).2.1 56) := h10
    have g12 : RfA ((fS (bef_27_30 (bec_3_19 σ) n) 41 0 0).2.1 44) ((fS (bef_27_30 (bec_3_19 σ) n) 41 0 0).2.1 46) := h12
    have g13 : IM (fS (bef_27_30 (bec_3_19 σ) n) 41 0 0) := h13
    have g14 : (fS (bef_27_30 (bec_3_19 σ) n) 41 0 0).2.2 = true := hz
    have g41 : (fS (bef_27_30 (bec_3_19 σ) n) 41 0 0).1 41 0 = 0 := rfl
    have gk : KpA (fun i => (fS (bef_27_30 (bec_3_19 σ) n) 41 0 0).2.1 63 (100 * 0 + i)) M n C T := by
      have e : (fun i => (fS (bef_27_30 (bec_3_19 σ) n) 41 0 0).2.1 63 (100 * 0 + i)) = σ.2.1 63 := by
        funext i
        rw [show 100 * 0 + i = i by omega]
        rfl
      rw [e]
      exact i5
    have g29 : (fS (bef_27_30 (bec_3_19 σ) n) 41 0 0).1 45 29 = 1 := u1
    have ecl : fX4_clear 41 (mk (bef_27_30 (bec_3_19 σ) n)) = some (mk (fS (bef_27_30 (bec_3_19 σ) n) 41 0 0)) := by
      unfold fX4_clear
      simp only [c_P, o_b]
    have e8 : ∀ τ1 τ2 : St, fX7_reckon 33 3 (mk (fS (bef_27_30 (bec_3_19 σ) n) 41 0 0)) = some (mk τ1) → fX7_sift 33 27 (mk τ1) = some (mk τ2) → fX8_on 0 (mk σ) = some (τ2.1 27 0, mk τ2) := by
      intro τ1 τ2 q1 q2
      unfold fX8_on
      simp only [c_I, t1, hne, if_false, c_R, c_O, o_b, c_bec_3_19, eb, ecl, q1, q2]
    generalize fS (bef_27_30 (bec_3_19 σ) n) 41 0 0 = τ at *
    have er := c_reckon g2 i1
    have rr := rk_of (σ := τ) (L := M)
    generalize hU : fS (fS (wS τ 35 (rA M (τ.2.1 35) (msk M + 1))) 33 0 (nI (msk M))) 33 1 (nI (ct (fq M) (msk M + 1))) = υ at er rr
    have u6 : FC υ n C T := by rw [← hU]; exact g6
    have es := c_sift i1 rr u6
    have rs := sf_of (σ := υ) (L := M) (k := n) (B := C) (S := T)
    generalize hV : fS (wS (fS (fS υ 33 4 (nI (orb (fun i => T i == true) C n))) 33 5 (nI (orb (fun i => T i == false) C n))) 34 (lA (gl M n C T 0 1024) (υ.2.1 34))) 33 2 (nI (gl M n C T 0 1024).length) = ν at es rs
    have v2 : LC ν M := by rw [← hV, ← hU]; exact g2
    have v3 : InnC (ν.1 3 11) (ν.1 3 12) (ν.1 3 13) M := by rw [← hV, ← hU]; exact g3
    have v6 : FC ν n C T := by rw [← hV, ← hU]; exact g6
    have v8 : RK ν M := by rw [← hV]; exact rr
    have v10 : TxA (ν.1 1 0) (ν.1 45 25) (ν.2.1 2) (ν.2.1 56) := by rw [← hV, ← hU]; exact g10
    have v12 : RfA (ν.2.1 44) (ν.2.1 46) := by rw [← hV, ← hU]; exact g12
    have v13 : IM ν := by rw [← hV, ← hU]; exact g13
    have v14 : ν.2.2 = true := by rw [← hV, ← hU]; exact g14
    have v41 : ν.1 41 0 = 0 := by rw [← hV, ← hU]; exact g41
    have vk : KpA (fun i => ν.2.1 63 (100 * 0 + i)) M n C T := by rw [← hV, ← hU]; exact gk
    have v29 : ν.1 45 29 = 1 := by rw [← hV, ← hU]; exact g29
    have e8 := e8 υ ν er es
    have hB : ∀ i, i < n → C i < 10 := fun i hi => (i4.2.2 i hi).2.2
    obtain ⟨w4, w5, w7⟩ := bst_L vk i4.2.1 hB
    have eb9 : fX9_passesAll 45 0 0 (mk ν) = _ := m_backAll v14 (w := 0) (by decide)
    have z1 : (bst ν (100 * 0) 78).2.2 = true := v14
    have z2 : (fS (bst ν (100 * 0) 78) 45 39 0).2.2 = true := v14
    have e17 : (fS (bst ν (100 * 0) 78) 45 39 0).1 45 17 = nI n := w7.1
    have e9 : fX9_on 45 (mk ν) = some (ν.1 27 0, mk (fS (bst ν (100 * 0) 78) 45 39 0)) := by
      unfold fX9_on
      simp only [m_I v14, v29, hne, if_false, o_b, m_O v14, eb9, m_P z1, m_I z2, e17]
      rw [v6.1]
    exact fin (f9 := fun h => fX9_on 45 h) e8 v14 e9 ⟨M, n, C, T, i1, v2, v3, w4, w5, v6, w7, v8, rs, v10, ⟨0, by decide, v41, rfl, fun i hi => absurd hi (Nat.not_lt_zero i)⟩, v12, v13, v14⟩
