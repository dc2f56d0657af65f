/-! ===== 57: obligation: book ===== -/
/-- how many of the first signs are on a road -/
def cs (L : Ld) (r j : Nat) : Nat := ct (fun s => decide (L.2 3 s = r)) j
theorem cs_s (L : Ld) (r j : Nat) : cs L r (j + 1) = cs L r j + (decide (L.2 3 j = r)).toNat := rfl
theorem cs_le (L : Ld) (r j : Nat) : cs L r j ≤ j := ct_le _ j
theorem cs_yes {L : Ld} {r j : Nat} (h : L.2 3 j = r) : cs L r (j + 1) = cs L r j + 1 := by rw [cs_s, decide_eq_true h]; rfl
theorem cs_not {L : Ld} {r j : Nat} (h : ¬ L.2 3 j = r) : cs L r (j + 1) = cs L r j := by rw [cs_s, decide_eq_false h]; rfl
theorem cs_mono (L : Ld) (r : Nat) {i : Nat} : ∀ d, cs L r i ≤ cs L r (i + d)
  | 0 => Nat.le_refl _
  | d + 1 => by
    have ih := cs_mono L r (i := i) d
    have e := cs_s L r (i + d)
    rw [show i + (d + 1) = i + d + 1 by omega, e]
    omega
theorem cs_mon {L : Ld} {r i j : Nat} (h : i ≤ j) : cs L r i ≤ cs L r j := by
  have := cs_mono L r (i := i) (j - i)
  rw [show i + (j - i) = j by omega] at this
  exact this
theorem cs_lt {L : Ld} {r s j : Nat} (h : s < j) (hs : L.2 3 s = r) : cs L r s < cs L r j := by
  have h1 := cs_yes hs
  have h2 := cs_mon (L := L) (r := r) (show s + 1 ≤ j by omega)
  omega
theorem cs_nth {L : Ld} {r k : Nat} : ∀ {j : Nat}, k < cs L r j → ∃ s, s < j ∧ L.2 3 s = r ∧ cs L r s = k
  | 0, h => absurd h (Nat.not_lt_zero k)
  | j + 1, h => by
    by_cases hj : L.2 3 j = r
    · have e := cs_yes hj
      by_cases hk : k < cs L r j
      · obtain ⟨s, h1, h2⟩ := cs_nth hk
        exact ⟨s, by omega, h2⟩
      · exact ⟨j, by omega, hj, by omega⟩
    · rw [cs_not hj] at h
      obtain ⟨s, h1, h2⟩ := cs_nth h
      exact ⟨s, by omega, h2⟩
def nth (L : Ld) (r k : Nat) : Nat := fi (fun s => decide (L.2 3 s = r) && decide (cs L r s = k)) (L.1 3)
theorem nth_p {L : Ld} {r k : Nat} (h : k < cs L r (L.1 3)) : nth L r k < L.1 3 ∧ L.2 3 (nth L r k) = r ∧ cs L r (nth L r k) = k := by
  obtain ⟨s, h1, h2, h3⟩ := cs_nth h
  have hlt : nth L r k < L.1 3 := fi_all.mpr ⟨s, h1, by rw [decide_eq_true h2, decide_eq_true h3]; rfl⟩
  have hy : (decide (L.2 3 (nth L r k) = r) && decide (cs L r (nth L r k) = k)) = true := fi_yes (fun s => decide (L.2 3 s = r) && decide (cs L r s = k)) (L.1 3) hlt
  rw [Bool.and_eq_true, decide_eq_true_iff, decide_eq_true_iff] at hy
  exact ⟨hlt, hy.1, hy.2⟩
theorem nth_u {L : Ld} {r s : Nat} (h1 : s < L.1 3) (h2 : L.2 3 s = r) : nth L r (cs L r s) = s := by
  obtain ⟨a1, a2, a3⟩ := nth_p (cs_lt h1 h2)
  generalize nth L r (cs L r s) = u at a1 a2 a3
  rcases Nat.lt_trichotomy u s with q | q | q
  · have := cs_lt q a2; omega
  · exact q
  · have := cs_lt q h2; omega
/-- the row fits to a road's signs from a place on -/
def std (L : Ld) (t : Nat) (R : Nat → Nat) (fw : Bool) (r d : Nat) : Bool := decide (d + cs L r (L.1 3) ≤ t ∧ ∀ s, s < L.1 3 → L.2 3 s = r → R (d + (if fw = true then cs L r s else cs L r (L.1 3) - cs L r (s + 1))) = s)
def RdB (a : Int32) (x : Nat → Int32) (t : Nat) (R : Nat → Nat) : Prop := a = nI t ∧ t ≤ 10 ∧ ∀ i, i < t → x i = nI (R i) ∧ R i < 6
section BK
variable {σ : St} {L : Ld} {t : Nat} {R : Nat → Nat}
theorem m_signsOn (hz : σ.2.2 = true) (hL : LM σ L) (ok : LdOK L) {r : Nat} (hr : r < 8) : fX9_signsOn 45 (nI r) (mk σ) = some (nI (cs L r (L.1 3))) := by
  have m3 : σ.1 45 11 = nI (L.1 3) := hL.2.2.2.1
  have hsc := ok.2.2.2.1
  unfold fX9_signsOn
  refine lp_b (fun j => (nI (cs L r j), nI j)) (L.1 3) (r := nI (cs L r (L.1 3))) rfl ?_ ?_ rfl
  · intro j hj
    have hj6 : j < 6 := by omega
    have hso := (ok.2.2.2.2.2.1 j hj).2.1
    have hrc := ok.2.1
    dsimp only
    simp only [m_I hz, m_R hz, m_A hz, hj6, m3, o_b, hL.2.2.2.2.2.2.2.1 j hj6]
    rw [if_neg (nI_ge hj (by omega)), show nI j + 1 = nI (j + 1) from nI_1 j]
    by_cases h : L.2 3 j = r
    · rw [if_pos (by rw [h]), cs_yes h, o_b, nI_1]
    · rw [if_neg (fun z => h ((nI_eq (by omega) (by omega)).mp z)), cs_not h, o_b]
      show some (Sum.inl (nI (cs L r j) + nI 0, _)) = _
      rw [nI_add]
      rfl
  · dsimp only
    simp only [m_I hz, m3, o_b]
    rw [if_pos (nI_le (Nat.le_refl _) (by omega))]
theorem m_nth (hz : σ.2.2 = true) (hL : LM σ L) (ok : LdOK L) {r k : Nat} (hr : r < 8) (hk : k < cs L r (L.1 3)) : fX9_nthOn 45 (nI r) (nI k) (mk σ) = some (nI (nth L r k)) := by
  have hsc := ok.2.2.2.1
  have hrc := ok.2.1
  obtain ⟨n1, n2, n3⟩ := nth_p hk
  generalize nth L r k = s0 at n1 n2 n3
  have hkl := cs_le L r (L.1 3)
  unfold fX9_nthOn
  refine lp_b (fun j => (nI (k - cs L r j), nI j)) s0 (r := nI s0) ?_ ?_ ?_ rfl
  · rfl
  · intro j hj
    have hj6 : j < 6 := by omega
    have hso := (ok.2.2.2.2.2.1 j (by omega)).2.1
    dsimp only
    simp only [m_R hz, m_A hz, hj6, o_b, hL.2.2.2.2.2.2.2.1 j hj6]
    rw [show nI j + 1 = nI (j + 1) from nI_1 j]
    by_cases h : L.2 3 j = r
    · have h2 := cs_lt hj h
      rw [if_pos (show nI (L.2 3 j) = nI r by rw [h]), if_neg (show ¬ nI (k - cs L r j) ≤ 0 from nI_nle (by omega) (by omega)), if_pos (show nI (L.2 3 j) = nI r by rw [h]), o_b, cs_yes h, show k - cs L r j = k - (cs L r j + 1) + 1 by omega, nI_pred]
    · have h3 : ¬ nI (L.2 3 j) = nI r := fun z => h ((nI_eq (by omega) (by omega)).mp z)
      rw [if_neg h3, if_neg h3, o_b, cs_not h]
      show some (Sum.inl (nI (k - cs L r j) - nI 0, _)) = _
      rw [pk_sub (Nat.zero_le _)]
      rfl
  · have hj6 : s0 < 6 := by omega
    dsimp only
    simp only [m_R hz, m_A hz, hj6, o_b, hL.2.2.2.2.2.2.2.1 s0 hj6]
    rw [if_pos (show nI (L.2 3 s0) = nI r by rw [n2]), n3, Nat.sub_self, if_pos (show nI 0 ≤ 0 by decide)]
theorem m_stand (hz : σ.2.2 = true) (hL : LM σ L) (ok : LdOK L) (hR : RdB (σ.1 45 39) (σ.2.1 68) t R) {r d : Nat} (hr : r < 8) (hd : d < t) (fw : Bool) : fX9_doStand 45 (nI r) (b2i fw) (nI d) (mk σ) = some (b2i (std L t R fw r d)) := by
  obtain ⟨r1, r2, r3⟩ := hR
  have hsc := ok.2.2.2.1
  have hn := cs_le L r (L.1 3)
  unfold fX9_doStand
  simp only [m_O hz, m_signsOn hz hL ok hr, m_I hz, r1, o_b]
  rw [nI_add]
  by_cases hdn : d + cs L r (L.1 3) ≤ t
  · rw [if_pos (nI_le hdn (by omega))]
    refine lp_fb (fun k => nI k) (cs L r (L.1 3)) (fun k => !decide (R (d + k) = nth L r (if fw = true then k else cs L r (L.1 3) - 1 - k))) (fun _ => .inr 0) (.inl ()) rfl ?_ ?_ ?_ ?_
    · intro k hk hp
      have hdk : d + k < 10 := by omega
      obtain ⟨w1, w2⟩ := r3 (d + k) (by omega)
      have hm7 : (if b2i fw = 0 then some (nI (cs L r (L.1 3)) - 1 - nI k) else some (nI k)) = some (nI (if fw = true then k else cs L r (L.1 3) - 1 - k)) := by
        cases fw
        · rw [if_pos b2i_f, if_neg (by decide), show nI (cs L r (L.1 3)) - 1 = nI (cs L r (L.1 3) - 1) from pk_sub (b := 1) (by omega), pk_sub (by omega)]
        · rw [if_neg (show ¬ b2i true = 0 from hne), if_pos rfl]
      have hkk : (if fw = true then k else cs L r (L.1 3) - 1 - k) < cs L r (L.1 3) := by split <;> omega
      have hnn := (nth_p hkk).1
      rw [if_neg (nI_ge hk (by omega)), show nI k + 1 = nI (k + 1) from nI_1 k]
      simp only [m_R hz, nI_add, m_A hz, hdk, o_b, w1, hm7, m_nth hz hL ok hr hkk]
      rw [if_pos (by rw [of_decide_eq_true (show decide (R (d + k) = nth L r (if fw = true then k else cs L r (L.1 3) - 1 - k)) = true by simpa using hp)])]
    · intro k hk hp
      have hdk : d + k < 10 := by omega
      obtain ⟨w1, w2⟩ := r3 (d + k) (by omega)
      have hm7 : (if b2i fw = 0 then some (nI (cs L r (L.1 3)) - 1 - nI k) else some (nI k)) = some (nI (if fw = true then k else cs L r (L.1 3) - 1 - k)) := by
        cases fw
        · rw [if_pos b2i_f, if_neg (by decide), show nI (cs L r (L.1 3)) - 1 = nI (cs L r (L.1 3) - 1) from pk_sub (b := 1) (by omega), pk_sub (by omega)]
        · rw [if_neg (show ¬ b2i true = 0 from hne), if_pos rfl]
      have hkk : (if fw = true then k else cs L r (L.1 3) - 1 - k) < cs L r (L.1 3) := by split <;> omega
      have hnn := (nth_p hkk).1
      rw [if_neg (nI_ge hk (by omega))]
      simp only [m_R hz, nI_add, m_A hz, hdk, o_b, w1, hm7, m_nth hz hL ok hr hkk]
      have hp2 : ¬ R (d + k) = nth L r (if fw = true then k else cs L r (L.1 3) - 1 - k) := by
        rw [Bool.not_eq_true'] at hp
        exact of_decide_eq_false hp
      rw [if_neg (fun z => hp2 ((nI_eq (by omega) (by omega)).mp z))]
    · rw [if_pos (nI_le (Nat.le_refl _) (by omega))]
    · have key : (fi (fun k => !decide (R (d + k) = nth L r (if fw = true then k else cs L r (L.1 3) - 1 - k))) (cs L r (L.1 3)) < cs L r (L.1 3)) ↔ std L t R fw r d = false := by
        rw [fi_all]
        unfold std
        constructor
        · rintro ⟨k, k1, k2⟩
          rw [Bool.not_eq_true'] at k2
          have k3 := of_decide_eq_false k2
          refine decide_eq_false (fun z => k3 ?_)
          have hkk : (if fw = true then k else cs L r (L.1 3) - 1 - k) < cs L r (L.1 3) := by split <;> omega
          obtain ⟨a1, a2, a3⟩ := nth_p hkk
          have := z.2 _ a1 a2
          have e1 := cs_yes a2
          rw [e1, a3] at this
          rw [← this]
          refine congrArg (fun x => R (d + x)) ?_
          cases fw
          · simp only [Bool.false_eq_true, if_false]; omega
          · simp only [if_true]
        · intro h
          have h2 := of_decide_eq_false h
          have h3 : ¬ ∀ s, s < L.1 3 → L.2 3 s = r → R (d + (if fw = true then cs L r s else cs L r (L.1 3) - cs L r (s + 1))) = s := fun z => h2 ⟨hdn, z⟩
          simp only [Classical.not_forall] at h3
          obtain ⟨s, s1, s2, s3⟩ := h3
          have e1 := cs_yes s2
          have e2 := cs_lt s1 s2
          have e3 := nth_u s1 s2
          refine ⟨if fw = true then cs L r s else cs L r (L.1 3) - cs L r (s + 1), by split <;> omega, ?_⟩
          rw [Bool.not_eq_true']
          refine decide_eq_false (fun z => s3 (z.trans ?_))
          have : (if fw = true then (if fw = true then cs L r s else cs L r (L.1 3) - cs L r (s + 1)) else cs L r (L.1 3) - 1 - (if fw = true then cs L r s else cs L r (L.1 3) - cs L r (s + 1))) = cs L r s := by
            cases fw
            · simp only [Bool.false_eq_true, if_false]; omega
            · simp only [if_true]
          rw [this]
          exact e3
      by_cases hq : fi (fun k => !decide (R (d + k) = nth L r (if fw = true then k else cs L r (L.1 3) - 1 - k))) (cs L r (L.1 3)) < cs L r (L.1 3)
      · rw [if_pos hq, key.mp hq]; rfl
      · have h5 : std L t R fw r d = true := by
          cases h6 : std L t R fw r d with
          | true => rfl
          | false => exact absurd (key.mpr h6) hq
        rw [if_neg hq, h5]; rfl
  · rw [if_neg (nI_ge (by omega) (by omega))]
    have : std L t R fw r d = false := decide_eq_false (fun z => hdn z.1)
    rw [this]; rfl
theorem c_read (hL : LC σ L) (ok : LdOK L) (hR : RdB (σ.1 41 0) (σ.2.1 42) t R) {r d : Nat} (hr : r < 8) (hd : d < t) (hn0 : 0 < cs L r (L.1 3)) (fw : Bool) : fX4_isReadNext 41 3 (nI r) (b2i fw) (nI d) (mk σ) = some (b2i (std L t R fw r d)) := by
  obtain ⟨r1, r2, r3⟩ := hR
  have c3 : σ.1 3 3 = nI (L.1 3) := hL.2.2.2.1
  have hsc := ok.2.2.2.1
  have hrc := ok.2.1
  have hn := cs_le L r (L.1 3)
  have hsi : ∀ i, i < L.1 3 → (if fw = true then i else L.1 3 - 1 - i) < L.1 3 := fun i hi => by split <;> omega
  have hat : ∀ i, i < L.1 3 → (if fw = true then cs L r i else cs L r (L.1 3) - cs L r (L.1 3 - i)) = (if fw = true then cs L r (if fw = true then i else L.1 3 - 1 - i) else cs L r (L.1 3) - cs L r ((if fw = true then i else L.1 3 - 1 - i) + 1)) := by
    intro i hi
    cases fw
    · simp only [Bool.false_eq_true, if_false]
      rw [show L.1 3 - 1 - i + 1 = L.1 3 - i by omega]
    · simp only [if_true]
  have hm5 : ∀ i, i < L.1 3 → (if b2i fw = 0 then some (nI (L.1 3) - 1 - nI i) else some (nI i)) = some (nI (if fw = true then i else L.1 3 - 1 - i)) := by
    intro i hi
    cases fw
    · rw [if_pos b2i_f, if_neg (by decide), show nI (L.1 3) - 1 = nI (L.1 3 - 1) from pk_sub (b := 1) (by omega), pk_sub (by omega)]
    · rw [if_neg (show ¬ b2i true = 0 from hne), if_pos rfl]
  unfold fX4_isReadNext
  refine lp_fb (fun i => (nI (d + (if fw = true then cs L r i else cs L r (L.1 3) - cs L r (L.1 3 - i))), nI i)) (L.1 3) (fun i => decide (L.2 3 (if fw = true then i else L.1 3 - 1 - i) = r) && !(decide (d + (if fw = true then cs L r i else cs L r (L.1 3) - cs L r (L.1 3 - i)) < t) && decide (R (d + (if fw = true then cs L r i else cs L r (L.1 3) - cs L r (L.1 3 - i))) = (if fw = true then i else L.1 3 - 1 - i)))) (fun _ => .inr 0) (.inl ()) ?_ ?_ ?_ ?_ ?_
  · have e : (if fw = true then cs L r 0 else cs L r (L.1 3) - cs L r (L.1 3 - 0)) = 0 := by
      cases fw
      · simp only [Bool.false_eq_true, if_false, Nat.sub_zero, Nat.sub_self]
      · simp only [if_true]; rfl
    rw [e]
    rfl
  · intro i hi hp
    have hs := hsi i hi
    have hs6 : (if fw = true then i else L.1 3 - 1 - i) < 6 := by omega
    have hso := (ok.2.2.2.2.2.1 _ hs).2.1
    have hl7 := hL.2.2.2.2.2.2.2.1 _ hs6
    have hnext : (if fw = true then cs L r (i + 1) else cs L r (L.1 3) - cs L r (L.1 3 - (i + 1))) = (if fw = true then cs L r i else cs L r (L.1 3) - cs L r (L.1 3 - i)) + (decide (L.2 3 (if fw = true then i else L.1 3 - 1 - i) = r)).toNat := by
      cases fw
      · simp only [Bool.false_eq_true, if_false]
        have e1 := cs_s L r (L.1 3 - 1 - i)
        have e2 := cs_mon (L := L) (r := r) (show L.1 3 - i ≤ L.1 3 by omega)
        rw [show L.1 3 - 1 - i + 1 = L.1 3 - i by omega] at e1
        rw [show L.1 3 - (i + 1) = L.1 3 - 1 - i by omega]
        omega
      · simp only [if_true]
        exact cs_s L r i
    have hle : (if fw = true then cs L r i else cs L r (L.1 3) - cs L r (L.1 3 - i)) ≤ 6 := by
      have := cs_le L r i
      split <;> omega
    dsimp only
    rw [hnext]
    simp only [c_I, c3, o_b, hm5 i hi, c_R]
    generalize (if fw = true then i else L.1 3 - 1 - i) = s at hp hs hs6 hso hl7
    generalize (if fw = true then cs L r i else cs L r (L.1 3) - cs L r (L.1 3 - i)) = a at hp hle
    simp only [c_A, hs6, hl7, o_b, r1]
    rw [if_neg (nI_ge hi (by omega)), show nI i + 1 = nI (i + 1) from nI_1 i]
    by_cases h : L.2 3 s = r
    · rw [decide_eq_true h, Bool.true_and, Bool.not_eq_false', Bool.and_eq_true, decide_eq_true_iff, decide_eq_true_iff] at hp
      obtain ⟨p1, p2⟩ := hp
      have hda : d + a < 10 := by omega
      obtain ⟨w1, w2⟩ := r3 (d + a) p1
      rw [if_pos (show nI (L.2 3 s) = nI r by rw [h]), if_neg (nI_ge p1 (by omega)), decide_eq_true h]
      simp only [c_A, hda, w1, o_b, p2, if_true, nI_1]
      rfl
    · rw [if_neg (fun z => h ((nI_eq (by omega) (by omega)).mp z)), decide_eq_false h]
      rfl
  · intro i hi hp
    have hs := hsi i hi
    have hs6 : (if fw = true then i else L.1 3 - 1 - i) < 6 := by omega
    have hl7 := hL.2.2.2.2.2.2.2.1 _ hs6
    have hle : (if fw = true then cs L r i else cs L r (L.1 3) - cs L r (L.1 3 - i)) ≤ 6 := by
      have := cs_le L r i
      split <;> omega
    dsimp only
    simp only [c_I, c3, o_b, hm5 i hi, c_R]
    generalize (if fw = true then i else L.1 3 - 1 - i) = s at hp hs hs6 hl7
    generalize (if fw = true then cs L r i else cs L r (L.1 3) - cs L r (L.1 3 - i)) = a at hp hle
    rw [Bool.and_eq_true, decide_eq_true_iff, Bool.not_eq_true'] at hp
    obtain ⟨p1, p2⟩ := hp
    simp only [c_A, hs6, hl7, o_b, r1]
    rw [if_neg (nI_ge hi (by omega)), if_pos (show nI (L.2 3 s) = nI r by rw [p1])]
    by_cases h : d + a < t
    · have hda : d + a < 10 := by omega
      obtain ⟨w1, w2⟩ := r3 (d + a) h
      rw [decide_eq_true h, Bool.true_and] at p2
      have p3 := of_decide_eq_false p2
      rw [if_neg (nI_ge h (by omega))]
      simp only [c_A, hda, w1, o_b]
      rw [if_neg (fun z => p3 ((nI_eq (by omega) (by omega)).mp z))]
    · rw [if_pos (nI_le (by omega) (by omega))]
  · dsimp only
    simp only [c_I, c3, o_b]
    rw [if_pos (nI_le (Nat.le_refl _) (by omega))]
  · have key : (fi (fun i => decide (L.2 3 (if fw = true then i else L.1 3 - 1 - i) = r) && !(decide (d + (if fw = true then cs L r i else cs L r (L.1 3) - cs L r (L.1 3 - i)) < t) && decide (R (d + (if fw = true then cs L r i else cs L r (L.1 3) - cs L r (L.1 3 - i))) = (if fw = true then i else L.1 3 - 1 - i)))) (L.1 3) < L.1 3) ↔ std L t R fw r d = false := by
      rw [fi_all]
      unfold std
      constructor
      · rintro ⟨i, i1, i2⟩
        rw [Bool.and_eq_true, decide_eq_true_iff, Bool.not_eq_true', hat i i1] at i2
        have hs := hsi i i1
        generalize (if fw = true then i else L.1 3 - 1 - i) = s at i2 hs
        refine decide_eq_false (fun z => ?_)
        have h2 := z.2 s hs i2.1
        have e1 := cs_yes i2.1
        have e2 := cs_lt hs i2.1
        have h3 : d + (if fw = true then cs L r s else cs L r (L.1 3) - cs L r (s + 1)) < t := by
          have := z.1
          split <;> omega
        rw [decide_eq_true h3, decide_eq_true h2] at i2
        cases i2.2
      · intro h
        have h2 := of_decide_eq_false h
        have hpi : ∀ s, s < L.1 3 → L.2 3 s = r → ¬ (d + (if fw = true then cs L r s else cs L r (L.1 3) - cs L r (s + 1)) < t ∧ R (d + (if fw = true then cs L r s else cs L r (L.1 3) - cs L r (s + 1))) = s) → ∃ i, i < L.1 3 ∧ (decide (L.2 3 (if fw = true then i else L.1 3 - 1 - i) = r) && !(decide (d + (if fw = true then cs L r i else cs L r (L.1 3) - cs L r (L.1 3 - i)) < t) && decide (R (d + (if fw = true then cs L r i else cs L r (L.1 3) - cs L r (L.1 3 - i))) = (if fw = true then i else L.1 3 - 1 - i)))) = true := by
          intro s hs hsr hno
          have hi2 : (if fw = true then s else L.1 3 - 1 - s) < L.1 3 := hsi s hs
          refine ⟨if fw = true then s else L.1 3 - 1 - s, hi2, ?_⟩
          rw [hat _ hi2]
          have e1 : (if fw = true then (if fw = true then s else L.1 3 - 1 - s) else L.1 3 - 1 - (if fw = true then s else L.1 3 - 1 - s)) = s := by
            cases fw
            · simp only [Bool.false_eq_true, if_false]; omega
            · simp only [if_true]
          rw [e1, decide_eq_true hsr, Bool.true_and, Bool.not_eq_true', ← Bool.not_eq_true, Bool.and_eq_true, decide_eq_true_iff, decide_eq_true_iff]
          exact hno
        by_cases h3 : ∀ s, s < L.1 3 → L.2 3 s = r → R (d + (if fw = true then cs L r s else cs L r (L.1 3) - cs L r (s + 1))) = s
        · have h4 : ¬ d + cs L r (L.1 3) ≤ t := fun z => h2 ⟨z, h3⟩
          obtain ⟨s, s1, s2, s3⟩ := cs_nth (L := L) (r := r) (k := if fw = true then cs L r (L.1 3) - 1 else 0) (j := L.1 3) (by split <;> omega)
          have e1 := cs_yes s2
          refine hpi s s1 s2 (fun z => ?_)
          have z1 := z.1
          cases fw
          · simp only [Bool.false_eq_true, if_false] at z1 s3; omega
          · simp only [if_true] at z1 s3; omega
        · simp only [Classical.not_forall] at h3
          obtain ⟨s, s1, s2, s3⟩ := h3
          exact hpi s s1 s2 (fun z => s3 z.2)
    generalize fi (fun i => decide (L.2 3 (if fw = true then i else L.1 3 - 1 - i) = r) && !(decide (d + (if fw = true then cs L r i else cs L r (L.1 3) - cs L r (L.1 3 - i)) < t) && decide (R (d + (if fw = true then cs L r i else cs L r (L.1 3) - cs L r (L.1 3 - i))) = (if fw = true then i else L.1 3 - 1 - i)))) (L.1 3) = F at key
    by_cases hq : F < L.1 3
    · rw [if_pos hq, key.mp hq]; rfl
    · have h5 : std L t R fw r d = true := by
        cases h6 : std L t R fw r d with
        | true => rfl
        | false => exact absurd (key.mpr h6) hq
      rw [if_neg hq, h5]; rfl
end BK
