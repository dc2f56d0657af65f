/-! ===== 33: worlds: which there are, which fit, which are good ===== -/
def msk (L : Ld) : Nat := (2 ^ L.1 2 - 1) ||| ((2 ^ L.1 3 - 1) <<< 4)
def isW (L : Ld) (w : Nat) : Bool := decide (w &&& msk L = w)
theorem sub_iff (w m : Nat) : w &&& m = w ↔ ∀ i, w.testBit i = true → m.testBit i = true := by
  constructor
  · intro h i hi
    have h1 : (w &&& m).testBit i = true := by rw [h]; exact hi
    rw [Nat.testBit_and, hi] at h1
    simpa using h1
  · intro h
    apply Nat.eq_of_testBit_eq
    intro i
    rw [Nat.testBit_and]
    cases hw : w.testBit i with
    | false => rfl
    | true => rw [h i hw]; rfl
theorem msk_bit (L : Ld) (i : Nat) : (msk L).testBit i = (decide (i < L.1 2) || (decide (4 ≤ i) && decide (i - 4 < L.1 3))) := by
  unfold msk
  rw [Nat.testBit_or, Nat.testBit_two_pow_sub_one, Nat.testBit_shiftLeft, Nat.testBit_two_pow_sub_one]
theorem bit_lt {w i n : Nat} (hw : w < 2 ^ n) (h : w.testBit i = true) : i < n := by
  rcases Nat.lt_or_ge i n with q | q
  · exact q
  · have h2 : w < 2 ^ i := Nat.lt_of_lt_of_le hw (Nat.pow_le_pow_right (by decide) q)
    rw [Nat.testBit_lt_two_pow h2] at h
    cases h
theorem lt_of_bits {w n : Nat} (h : ∀ i, w.testBit i = true → i < n) : w < 2 ^ n := by
  apply Nat.lt_pow_two_of_testBit
  intro i hi
  cases hq : w.testBit i with
  | false => rfl
  | true => exact absurd (h i hq) (by omega)
theorem msk_lt {L : Ld} (ok : LdOK L) : msk L < 1024 := by
  have h2 := ok.2.2.1
  have h3 := ok.2.2.2.1
  have : msk L < 2 ^ 10 := lt_of_bits (fun i hi => by
    rw [msk_bit] at hi
    simp at hi
    omega)
  exact this
theorem isW_lt {L : Ld} {w : Nat} (h : isW L w = true) : w ≤ msk L := by
  have h1 : w &&& msk L = w := by simpa [isW] using h
  rw [← h1]
  exact Nat.and_le_right
theorem fs_cases {f s : Nat} (hf : f ≤ 4) (hs : s ≤ 6) (P : Nat → Nat → Prop) (h : ∀ f, f < 5 → ∀ s, s < 7 → P f s) : P f s := h f (by omega) s (by omega)
theorem c_mask {σ : St} {L : Ld} (hL : LC σ L) (ok : LdOK L) : fX3_worldMask 3 (mk σ) = some (nI (msk L)) := by
  have h2 : σ.1 3 2 = nI (L.1 2) := hL.2.2.1
  have h3 : σ.1 3 3 = nI (L.1 3) := hL.2.2.2.1
  unfold fX3_worldMask fX3_signMask
  simp only [c_I, c_O, o_b, h2, h3]
  unfold msk
  exact fs_cases ok.2.2.1 ok.2.2.2.1 (fun f s => some (((1 : Int32) <<< (nI f &&& 31) - 1) ||| (((1 : Int32) <<< (nI s &&& 31) - 1) <<< ((4 : Int32) &&& 31))) = some (nI ((2 ^ f - 1) ||| ((2 ^ s - 1) <<< 4)))) (by decide +kernel)
theorem p_1 : ∀ f, f < 13 → ((1 : Int32) <<< (nI f &&& 31) - 1) = nI (2 ^ f - 1) := by decide +kernel
theorem m_allF {σ : St} (hz : σ.2.2 = true) {L : Ld} (hL : LM σ L) (ok : LdOK L) : fX9_allFacts 45 (mk σ) = some (nI (2 ^ L.1 2 - 1)) := by
  have h2 : σ.1 45 10 = nI (L.1 2) := hL.2.2.1
  have := ok.2.2.1
  unfold fX9_allFacts
  simp only [m_I hz, o_b, h2, p_1 (L.1 2) (by omega)]
theorem m_allS {σ : St} (hz : σ.2.2 = true) {L : Ld} (hL : LM σ L) (ok : LdOK L) : fX9_allSigns 45 (mk σ) = some (nI (2 ^ L.1 3 - 1)) := by
  have h2 : σ.1 45 11 = nI (L.1 3) := hL.2.2.2.1
  have := ok.2.2.2.1
  unfold fX9_allSigns
  simp only [m_I hz, o_b, h2, p_1 (L.1 3) (by omega)]
theorem n_sub {w m : Nat} (hw : w < 2 ^ 31) (hm : m < 2 ^ 31) : (nI w &&& (nI m ^^^ (-1)) = 0) ↔ w &&& m = w := by
  rw [n_andn hw, Nat.mod_eq_of_lt (show m < 2 ^ 32 by omega), sub_iff]
  have e0 : (0 : Int32) = nI 0 := rfl
  rw [e0, nI_eq (Nat.lt_of_le_of_lt Nat.and_le_left hw) (by decide), n_sub0 (by omega)]
  constructor
  · intro h i hi
    exact h i (by have := bit_lt hw hi; omega) hi
  · intro h i _ hi
    exact h i hi
theorem isW_iff {L : Ld} (ok : LdOK L) (w : Nat) : isW L w = true ↔ w < 1024 ∧ (w % 16) &&& (2 ^ L.1 2 - 1) = w % 16 ∧ (w / 16) &&& (2 ^ L.1 3 - 1) = w / 16 := by
  have h2 := ok.2.2.1
  have h3 := ok.2.2.2.1
  have e16 : w % 16 = w % 2 ^ 4 := rfl
  have d16 : w / 16 = w >>> 4 := (Nat.shiftRight_eq_div_pow w 4).symm
  rw [show isW L w = true ↔ w &&& msk L = w by simp [isW], sub_iff, sub_iff, sub_iff]
  constructor
  · intro h
    refine ⟨?_, fun i hi => ?_, fun i hi => ?_⟩
    · exact lt_of_bits (n := 10) (fun i hi => by
        have := h i hi
        rw [msk_bit] at this
        simp at this
        omega)
    · rw [e16, Nat.testBit_mod_two_pow] at hi
      simp at hi
      have := h i hi.2
      rw [msk_bit] at this
      rw [Nat.testBit_two_pow_sub_one]
      simp at this ⊢
      omega
    · rw [d16, Nat.testBit_shiftRight] at hi
      have := h (4 + i) hi
      rw [msk_bit] at this
      rw [Nat.testBit_two_pow_sub_one]
      simp at this ⊢
      omega
  · rintro ⟨h1, h4, h5⟩ i hi
    rw [msk_bit]
    rcases Nat.lt_or_ge i 4 with q | q
    · have := h4 i (by rw [e16, Nat.testBit_mod_two_pow]; simp [q, hi])
      rw [Nat.testBit_two_pow_sub_one] at this
      simp at this ⊢
      omega
    · have := h5 (i - 4) (by rw [d16, Nat.testBit_shiftRight, show 4 + (i - 4) = i by omega]; exact hi)
      rw [Nat.testBit_two_pow_sub_one] at this
      simp at this ⊢
      omega
/-- a world that is told: below 0, or a number -/
def isWx (L : Ld) (x : Int32) : Bool := decide (¬ x < 0) && isW L x.toNatClampNeg
theorem isWx_n {L : Ld} {w : Nat} (hw : w < 2 ^ 31) : isWx L (nI w) = isW L w := by
  unfold isWx
  rw [nI_clamp hw]
  simp [nI_pos hw]
theorem isWx_neg {L : Ld} {x : Int32} (h : x < 0) : isWx L x = false := by simp [isWx, h]
theorem isWx_of {L : Ld} (ok : LdOK L) {x : Int32} (h : isWx L x = true) : ∃ w, w < 1024 ∧ x = nI w ∧ isW L w = true := by
  rcases n_cases x with h1 | ⟨j, hj, rfl⟩
  · rw [isWx_neg h1] at h; cases h
  · rw [isWx_n hj] at h
    exact ⟨j, Nat.lt_of_le_of_lt (isW_lt h) (msk_lt ok), rfl, h⟩
theorem c_hasw {σ : St} {L : Ld} (ok : LdOK L) (hm : σ.1 33 0 = nI (msk L)) (x : Int32) : fX7_has 33 x (mk σ) = some (b2i (isWx L x)) := by
  have hml := msk_lt ok
  unfold fX7_has
  simp only [c_I, o_b, hm]
  rcases n_cases x with h1 | ⟨j, hj, rfl⟩
  · rw [if_pos h1, isWx_neg h1]; rfl
  · rw [if_neg (nI_pos hj), isWx_n hj]
    have := n_sub hj (show msk L < 2 ^ 31 by omega)
    unfold isW
    by_cases q : j &&& msk L = j
    · rw [if_pos (this.mpr q)]; simp [q]; rfl
    · rw [if_neg (fun z => q (this.mp z))]; simp [q]; rfl
theorem m_isW {σ : St} (hz : σ.2.2 = true) {L : Ld} (hL : LM σ L) (ok : LdOK L) (x : Int32) : fX9_isWorld 45 x (mk σ) = some (b2i (isWx L x)) := by
  have h2 := ok.2.2.1
  have h3 := ok.2.2.2.1
  have p2 : 2 ^ L.1 2 ≤ 2 ^ 4 := Nat.pow_le_pow_right (by decide) h2
  have p3 : 2 ^ L.1 3 ≤ 2 ^ 6 := Nat.pow_le_pow_right (by decide) h3
  unfold fX9_isWorld
  simp only [m_O hz, o_b, m_allF hz hL ok, m_allS hz hL ok]
  rcases n_cases x with h1 | ⟨j, hj, rfl⟩
  · rw [if_pos h1, isWx_neg h1]; rfl
  · rw [if_neg (nI_pos hj), isWx_n hj]
    by_cases hk : 1024 ≤ j
    · have e1 : isW L j = false := by
        cases hq : isW L j with
        | false => rfl
        | true => exact absurd ((isW_iff ok j).mp hq).1 (by omega)
      rw [if_pos (show (1024 : Int32) ≤ nI j from nI_le (a := 1024) hk hj), e1]; rfl
    · rw [if_neg (show ¬ (1024 : Int32) ≤ nI j from nI_ge (b := 1024) (by omega) (by decide))]
      have e15 : nI j &&& (15 : Int32) = nI (j % 16) := pk_andN (by omega) 4 (by decide)
      have e4 : nI j >>> ((4 : Int32) &&& 31) = nI (j / 16) := n_shr (i := 4) hj (by decide)
      rw [e15, e4]
      have q1 := n_sub (w := j % 16) (m := 2 ^ L.1 2 - 1) (by omega) (by omega)
      have q2 := n_sub (w := j / 16) (m := 2 ^ L.1 3 - 1) (by omega) (by omega)
      have q3 := isW_iff ok j
      by_cases a1 : j % 16 &&& (2 ^ L.1 2 - 1) = j % 16
      · rw [if_pos (q1.mpr a1)]
        by_cases a2 : j / 16 &&& (2 ^ L.1 3 - 1) = j / 16
        · rw [if_pos (q2.mpr a2), q3.mpr ⟨by omega, a1, a2⟩]; rfl
        · rw [if_neg (fun z => a2 (q2.mp z))]
          have e1 : isW L j = false := by
            cases hq : isW L j with
            | false => rfl
            | true => exact absurd (q3.mp hq).2.2 a2
          rw [e1]; rfl
      · rw [if_neg (fun z => a1 (q1.mp z))]
        have e1 : isW L j = false := by
          cases hq : isW L j with
          | false => rfl
          | true => exact absurd (q3.mp hq).2.1 a1
        rw [e1]; rfl
