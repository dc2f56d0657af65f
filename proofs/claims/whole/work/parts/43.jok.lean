/-! ===== 43: obligation: joking ===== -/
/-- and over numbers in order -/
def aR (p : Nat → Bool) (x : Int32) : Nat → Int32
  | 0 => x
  | j + 1 => if p j then aR p x j &&& nI j else aR p x j
theorem aR_b (p : Nat → Bool) (x : Int32) {i : Nat} (hi : i < 32) : ∀ j, bt (aR p x j) i = (bt x i && decide (∀ w, w < j → p w = true → w.testBit i = true))
  | 0 => by simp [aR]
  | j + 1 => by
    have ih := aR_b p x hi j
    have e : decide (∀ w, w < j + 1 → p w = true → w.testBit i = true) = (decide (∀ w, w < j → p w = true → w.testBit i = true) && (!p j || j.testBit i)) := by
      rw [Bool.eq_iff_iff]
      simp only [Bool.and_eq_true, decide_eq_true_iff, Bool.or_eq_true, Bool.not_eq_true']
      constructor
      · intro h
        refine ⟨fun t ht hp => h t (by omega) hp, ?_⟩
        cases hp : p j with
        | false => exact Or.inl rfl
        | true => exact Or.inr (h j (by omega) hp)
      · rintro ⟨h1, h2⟩ t ht hp
        by_cases htj : t = j
        · subst htj
          rcases h2 with h2 | h2
          · rw [h2] at hp; cases hp
          · exact h2
        · exact h1 t (by omega) hp
    rw [e]
    show bt (if p j then aR p x j &&& nI j else aR p x j) i = _
    cases hp : p j with
    | false => simp [ih]
    | true =>
      rw [if_pos rfl, b_and, ih, b_n hi]
      cases bt x i <;> simp
theorem al_mem (p : Nat → Bool) (l : List Nat) (i : Nat) : al_ p l i l.length = decide (∀ w, w ∈ l → p w = true → w.testBit i = true) := by
  unfold al_
  rw [Bool.eq_iff_iff, decide_eq_true_iff, decide_eq_true_iff]
  constructor
  · intro h w hw
    obtain ⟨t, ht, rfl⟩ := List.mem_iff_getElem.mp hw
    have := h t ht
    rw [List.getD_eq_getElem?_getD, List.getElem?_eq_getElem ht] at this
    exact this
  · intro h t ht
    rw [List.getD_eq_getElem?_getD, List.getElem?_eq_getElem ht]
    exact h _ (List.getElem_mem ht)
theorem no_mem (p : Nat → Bool) (l : List Nat) (i : Nat) : no_ p l i l.length = decide (∀ w, w ∈ l → p w = true → w.testBit i = false) := by
  unfold no_
  rw [Bool.eq_iff_iff, decide_eq_true_iff, decide_eq_true_iff]
  constructor
  · intro h w hw
    obtain ⟨t, ht, rfl⟩ := List.mem_iff_getElem.mp hw
    have := h t ht
    rw [List.getD_eq_getElem?_getD, List.getElem?_eq_getElem ht] at this
    exact this
  · intro h t ht
    rw [List.getD_eq_getElem?_getD, List.getElem?_eq_getElem ht]
    exact h _ (List.getElem_mem ht)
theorem al_gl {L : Ld} (ok : LdOK L) {k : Nat} {B : Nat → Nat} {S : Nat → Bool} {m i : Nat} : al_ (fun _ => true) (gl L k B S m 1024) i (gl L k B S m 1024).length = decide (∀ w, w < msk L + 1 → gq L k B S m w = true → w.testBit i = true) := by
  have hml := msk_lt ok
  rw [al_mem, Bool.eq_iff_iff, decide_eq_true_iff, decide_eq_true_iff]
  constructor
  · intro h w hw hg
    exact h w (gl_mem.mpr ⟨by omega, hg⟩) rfl
  · intro h w hw _
    obtain ⟨q1, q2⟩ := gl_mem.mp hw
    have : isW L w = true := by unfold gq at q2; simp at q2; exact q2.1
    exact h w (by have := isW_lt this; omega) q2
theorem c_jok {σ : St} {L : Ld} (ok : LdOK L) (hR : RK σ L) {k : Nat} {B : Nat → Nat} {S : Nat → Bool} (hB : ∀ i, i < k → B i < 10) (hS : SF σ L k B S) {m : Nat} (hm : m ≤ 3) : fX7_sureWithJokers 33 (nI m) (mk σ) = some (aR (gq L k B S m) (nI (msk L) &&& 15) (msk L + 1)) := by
  have hml := msk_lt ok
  unfold fX7_sureWithJokers
  simp only [c_I, o_b, hR.1]
  refine lp_b (fun j => (aR (gq L k B S m) (nI (msk L) &&& 15) j, nI j)) (msk L + 1) (r := aR (gq L k B S m) (nI (msk L) &&& 15) (msk L + 1)) rfl ?_ ?_ rfl
  · intro j hj
    have hj4 : j < 1024 := by omega
    have hwl := wr_le L j
    have hsc := ok.2.2.2.1
    dsimp only
    simp only [c_R, c_O, c_A, hj4, o_b, hR.2.2 j (by omega), c_asFound hB hS.2.1 hS.2.2.1 (show j < 2 ^ 31 by omega)]
    rw [if_neg (show ¬ nI (msk L) < nI j from nI_nlt (by omega) (by omega)), show nI j + 1 = nI (j + 1) from nI_1 j]
    have e5 : gq L k B S m j = (isW L j && (decide (wr L j ≤ m) && fok k B S j)) := rfl
    have e6 : aR (gq L k B S m) (nI (msk L) &&& 15) (j + 1) = if gq L k B S m j then aR (gq L k B S m) (nI (msk L) &&& 15) j &&& nI j else aR (gq L k B S m) (nI (msk L) &&& 15) j := rfl
    rw [e6, e5]
    cases h5 : isW L j with
    | false =>
      rw [if_neg (show ¬ false = true by decide), if_pos (show nI m < 7 from nI_lt (b := 7) (by omega) (by decide))]
      rfl
    | true =>
      rw [if_pos (show true = true from rfl)]
      by_cases q : wr L j ≤ m
      · rw [if_neg (show ¬ nI m < nI (wr L j) from nI_nlt q (by omega))]
        cases fok k B S j with
        | false => simp [q]; rfl
        | true => simp [q]; rfl
      · rw [if_pos (show nI m < nI (wr L j) from nI_lt (by omega) (by omega))]
        simp [q]
  · dsimp only
    rw [if_pos (show nI (msk L) < nI (msk L + 1) from nI_lt (by omega) (by omega))]
theorem ok16 : ql_o16 Inv := by
  rintro a1 h ⟨σ, rfl, L, k, B, S, hI⟩
  have hz := iw_z hI
  obtain ⟨h1, h2, h3, h4, h5, h6, h7, h8, h9, h10, h11, h12, h13, h14⟩ := id hI
  have hfc := h1.2.2.1
  have hB : ∀ i, i < k → B i < 10 := fun i hi => (h6.2.2 i hi).2.2
  by_cases q0 : (0 : Int32) ≤ a1
  · by_cases q3 : a1 ≤ (3 : Int32)
    · have hnn : ¬ a1 < 0 := Int32.not_lt.mpr q0
      obtain ⟨m, hm, rfl⟩ := nI_of2 (n := 3) (M := 3) (by decide) hnn q3
      have hfw := m_findWorlds hz h4 h1 h7 (m := m) (by omega)
      have hGA := ga_of (σ := σ) (gl_le L k B S m 1024)
      generalize hT : fS (wS σ 64 (lA (gl L k B S m 1024) (σ.2.1 64))) 45 33 (nI (gl L k B S m 1024).length) = τ at hfw hGA
      have hzT : τ.2.2 = true := by rw [← hT]; exact hz
      have hLT : LM τ L := by rw [← hT]; exact h4
      have hIT : Iw τ L k B S := by rw [← hT]; exact iw_goods hI _ _
      refine fin (f9 := fun h => fX9_joking 45 (nI m) h) (σ1 := σ) (σ2 := τ) (r := aR (gq L k B S m) (nI (msk L) &&& 15) (msk L + 1)) ?_ hz ?_ ⟨L, k, B, S, hIT⟩
      · unfold fX8_joking
        simp only [q0, q3, if_true, c_R, c_O, o_b, c_jok h1 h8 hB h9 hm]
      · show fX9_joking 45 (nI m) _ = _
        unfold fX9_joking
        simp only [n_bound, q0, q3, if_true, o_b, m_O hz, hfw, m_O hzT, m_inAll hzT hGA, m_allF hzT hLT h1]
        refine congrArg (fun z => some (z, mk τ)) ?_
        apply b_ext
        intro i hi
        rw [b_and, aX_b _ _ _ hi, al_gl h1, b_1023 i hi, b_pm hi, aR_b _ _ hi, b_and, b_n hi, msk_bit, b_15 i hi, Bool.eq_iff_iff]
        cases decide (∀ w, w < msk L + 1 → gq L k B S m w = true → w.testBit i = true) <;> simp <;> omega
    · have hz1 : (aS σ 44 6 (σ.2.1 44 6 + 1)).2.2 = true := hz
      refine fin_r (f9 := fun h => fX9_joking 45 a1 h) hI 6 (x := -6) ?_ ?_
      · unfold fX8_joking
        simp only [q0, q3, if_true, if_false, c_O, o_b, c_ref6]
      · show fX9_joking 45 a1 _ = _
        unfold fX9_joking
        simp only [n_bound, q0, q3, if_true, if_false, o_b, m_O hz1, m_no6 hz1]
        rfl
  · have hz1 : (aS σ 44 4 (σ.2.1 44 4 + 1)).2.2 = true := hz
    refine fin_r (f9 := fun h => fX9_joking 45 a1 h) hI 4 (x := -4) ?_ ?_
    · unfold fX8_joking
      simp only [q0, if_false, c_O, o_b, c_ref4]
    · show fX9_joking 45 a1 _ = _
      unfold fX9_joking
      simp only [n_bound, q0, if_false, o_b, m_O hz1, m_no4 hz1]
      rfl
