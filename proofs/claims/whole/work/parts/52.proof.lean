/-! ===== 52: obligation: proof ===== -/
theorem ct_cut {p : Nat → Bool} {n : Nat} (h : ∀ k, n ≤ k → p k = false) : ∀ d, ct p (n + d) = ct p n
  | 0 => rfl
  | d + 1 => by
    show ct p (n + d) + (p (n + d)).toNat = ct p n
    rw [ct_cut h d, h (n + d) (by omega)]
    rfl
theorem pc_12 {q : Nat} (h : q < 4096) : pc q ≤ 12 := by
  have e : ct (fun i => q.testBit i) (12 + 19) = ct (fun i => q.testBit i) 12 := ct_cut (fun k hk => Nat.testBit_lt_two_pow (Nat.lt_of_lt_of_le h (Nat.pow_le_pow_right (n := 2) (by decide) hk))) 19
  show ct (fun i => q.testBit i) 31 ≤ 12
  rw [e]
  exact ct_le _ 12
/-- which found things are so in a world -/
def kp (k : Nat) (B : Nat → Nat) (S : Nat → Bool) (w : Nat) : Nat := orb (fun i => w.testBit (B i) == S i) (fun i => i) k
theorem kp_b (k : Nat) (B : Nat → Nat) (S : Nat → Bool) (w t : Nat) : (kp k B S w).testBit t = (decide (t < k) && (w.testBit (B t) == S t)) := by
  unfold kp
  rw [Bool.eq_iff_iff, orb_bit, Bool.and_eq_true, decide_eq_true_iff]
  constructor
  · rintro ⟨j, h1, h2, h3⟩
    rw [← h3]
    exact ⟨h1, h2⟩
  · rintro ⟨h1, h2⟩
    exact ⟨t, h1, h2, rfl⟩
theorem kp_lt (k : Nat) (B : Nat → Nat) (S : Nat → Bool) (w : Nat) : kp k B S w < 2 ^ k := lt_of_bits (fun i hi => by
  rw [kp_b] at hi
  simp at hi
  exact hi.1)
theorem c_kept {σ : St} {k : Nat} {B : Nat → Nat} {S : Nat → Bool} (hF : FC σ k B S) {w : Nat} (hw : w < 2 ^ 31) : fX2_keptIn 27 (nI w) (mk σ) = some (nI (kp k B S w)) := by
  have q1 := hF.1
  have q2 := hF.2.1
  unfold fX2_keptIn
  refine lp_b (fun j => (nI (orb (fun i => w.testBit (B i) == S i) (fun i => i) j), nI j)) k (r := nI (kp k B S w)) rfl ?_ ?_ rfl
  · intro j hj
    obtain ⟨a1, a2, a3⟩ := hF.2.2 j hj
    have hj12 : j < 12 := by omega
    dsimp only
    simp only [c_I, c_R, c_A, hj12, q1, o_b, a1, a2, n_has hw (show B j < 32 by omega), n_shl1 j (show j < 31 by omega), n_or]
    rw [if_neg (nI_ge hj (by omega)), show nI j + 1 = nI (j + 1) from nI_1 j]
    show _ = some (Sum.inl (nI (if (w.testBit (B j) == S j) = true then orb (fun i => w.testBit (B i) == S i) (fun i => i) j ||| 2 ^ j else orb (fun i => w.testBit (B i) == S i) (fun i => i) j), nI (j + 1)))
    by_cases hq : w.testBit (B j) = S j
    · rw [if_pos (show b2i (w.testBit (B j)) = b2i (S j) by rw [hq]), if_pos (beq_iff_eq.mpr hq)]
      rfl
    · rw [if_neg (fun z => hq (b2i_inj.mp z)), if_neg (fun z => hq (beq_iff_eq.mp z))]
      rfl
  · dsimp only
    simp only [c_I, q1, o_b]
    rw [if_pos (nI_le (Nat.le_refl _) (by omega))]
    rfl
/-- what can be, as the class marks it -/
def mA (L : Ld) (k : Nat) (B : Nat → Nat) (S : Nat → Bool) : Nat → Nat → Bool
  | 0, _ => false
  | j + 1, s => mA L k B S j s || (fq L j && decide (kp k B S j = s))
def cC (L : Ld) (k : Nat) (B : Nat → Nat) (S : Nat → Bool) : Nat → Nat → Bool
  | 0, s => mA L k B S (msk L + 1) s
  | i + 1, s => cC L k B S i s || (!s.testBit i && cC L k B S i (s ^^^ 2 ^ i))
def cD (L : Ld) (k : Nat) (B : Nat → Nat) (S : Nat → Bool) (i j s : Nat) : Bool := cC L k B S i s || ((!s.testBit i && decide (s ^^^ 2 ^ i < j)) && cC L k B S i (s ^^^ 2 ^ i))
theorem mA_iff {L : Ld} {k : Nat} {B : Nat → Nat} {S : Nat → Bool} {s : Nat} : ∀ j, mA L k B S j s = true ↔ ∃ w, w < j ∧ fq L w = true ∧ kp k B S w = s
  | 0 => by
    constructor
    · intro h; cases h
    · rintro ⟨w, h, _⟩; omega
  | j + 1 => by
    have ih := mA_iff (L := L) (k := k) (B := B) (S := S) (s := s) j
    show (mA L k B S j s || (fq L j && decide (kp k B S j = s))) = true ↔ _
    rw [Bool.or_eq_true, ih, Bool.and_eq_true, decide_eq_true_iff]
    constructor
    · rintro (⟨w, h1, h2⟩ | h2)
      · exact ⟨w, by omega, h2⟩
      · exact ⟨j, by omega, h2⟩
    · rintro ⟨w, h1, h2⟩
      by_cases hw : w = j
      · subst hw; exact Or.inr h2
      · exact Or.inl ⟨w, by omega, h2⟩
theorem x_bit (s i t : Nat) : (s ^^^ 2 ^ i).testBit t = (s.testBit t ^^ decide (i = t)) := by rw [Nat.testBit_xor, Nat.testBit_two_pow]
theorem x_lt {s i k : Nat} (hs : s < 2 ^ k) (hi : i < k) : s ^^^ 2 ^ i < 2 ^ k := Nat.xor_lt_two_pow hs (Nat.pow_lt_pow_right (by decide) hi)
theorem cC_iff {L : Ld} {k : Nat} {B : Nat → Nat} {S : Nat → Bool} : ∀ i, i ≤ k → ∀ s, s < 2 ^ k → (cC L k B S i s = true ↔ ∃ w, w < msk L + 1 ∧ fq L w = true ∧ ∀ t, t < k → (t < i → s.testBit t = true → (kp k B S w).testBit t = true) ∧ (i ≤ t → s.testBit t = (kp k B S w).testBit t))
  | 0, _, s, hs => by
    show mA L k B S (msk L + 1) s = true ↔ _
    rw [mA_iff]
    constructor
    · rintro ⟨w, h1, h2, h3⟩
      exact ⟨w, h1, h2, fun t ht => ⟨fun h => absurd h (Nat.not_lt_zero t), fun _ => by rw [h3]⟩⟩
    · rintro ⟨w, h1, h2, h3⟩
      refine ⟨w, h1, h2, ?_⟩
      apply Nat.eq_of_testBit_eq
      intro t
      by_cases ht : t < k
      · exact ((h3 t ht).2 (Nat.zero_le t)).symm
      · have hp : 2 ^ k ≤ 2 ^ t := Nat.pow_le_pow_right (by decide) (by omega)
        rw [Nat.testBit_lt_two_pow (Nat.lt_of_lt_of_le (kp_lt k B S w) hp), Nat.testBit_lt_two_pow (Nat.lt_of_lt_of_le hs hp)]
  | i + 1, hi, s, hs => by
    have ih1 := cC_iff (L := L) (k := k) (B := B) (S := S) i (by omega) s hs
    have ih2 := cC_iff (L := L) (k := k) (B := B) (S := S) i (by omega) (s ^^^ 2 ^ i) (x_lt hs (by omega))
    show (cC L k B S i s || (!s.testBit i && cC L k B S i (s ^^^ 2 ^ i))) = true ↔ _
    rw [Bool.or_eq_true, Bool.and_eq_true, ih1, ih2, Bool.not_eq_true']
    constructor
    · rintro (⟨w, h1, h2, h3⟩ | ⟨h0, w, h1, h2, h3⟩)
      · refine ⟨w, h1, h2, fun t ht => ⟨fun h4 h5 => ?_, fun h4 => (h3 t ht).2 (by omega)⟩⟩
        by_cases hti : t < i
        · exact (h3 t ht).1 hti h5
        · rw [← (h3 t ht).2 (by omega)]; exact h5
      · refine ⟨w, h1, h2, fun t ht => ⟨fun h4 h5 => ?_, fun h4 => ?_⟩⟩
        · by_cases hti : t = i
          · subst hti; rw [h0] at h5; cases h5
          · refine (h3 t ht).1 (by omega) ?_
            rw [x_bit, h5, decide_eq_false (show ¬ i = t by omega)]
            rfl
        · have := (h3 t ht).2 (by omega)
          rw [x_bit, decide_eq_false (show ¬ i = t by omega), Bool.xor_false] at this
          exact this
    · rintro ⟨w, h1, h2, h3⟩
      by_cases he : s.testBit i = (kp k B S w).testBit i
      · refine Or.inl ⟨w, h1, h2, fun t ht => ⟨fun h4 h5 => (h3 t ht).1 (by omega) h5, fun h4 => ?_⟩⟩
        by_cases hti : t = i
        · subst hti; exact he
        · exact (h3 t ht).2 (by omega)
      · have h6 := (h3 i (by omega)).1 (by omega)
        have h7 : s.testBit i = false := by
          cases h8 : s.testBit i with
          | false => rfl
          | true => rw [h8] at he h6; exact absurd (h6 rfl).symm he
        have h8 : (kp k B S w).testBit i = true := by
          cases h9 : (kp k B S w).testBit i with
          | true => rfl
          | false => rw [h7, h9] at he; exact absurd rfl he
        refine Or.inr ⟨h7, w, h1, h2, fun t ht => ⟨fun h4 h5 => ?_, fun h4 => ?_⟩⟩
        · rw [x_bit, decide_eq_false (show ¬ i = t by omega), Bool.xor_false] at h5
          exact (h3 t ht).1 (by omega) h5
        · by_cases hti : t = i
          · subst hti; rw [x_bit, h7, h8, decide_eq_true rfl]; rfl
          · rw [x_bit, decide_eq_false (show ¬ i = t by omega), Bool.xor_false]
            exact (h3 t ht).2 (by omega)
def cA (c : Nat → Bool) (n : Nat) (a : Nat → Int32) : Nat → Int32 := fun s => if s < n then b2i (c s) else a s
theorem cA_cong {c d : Nat → Bool} {n : Nat} {a : Nat → Int32} (h : ∀ s, s < n → c s = d s) : cA c n a = cA d n a := by
  funext s
  unfold cA
  by_cases hs : s < n
  · rw [if_pos hs, if_pos hs, h s hs]
  · rw [if_neg hs, if_neg hs]
theorem cA_set {c : Nat → Bool} {n : Nat} {a : Nat → Int32} {j : Nat} (hj : j < n) : upd (cA c n a) j 1 = cA (fun s => c s || decide (j = s)) n a := by
  funext s
  unfold upd cA
  dsimp only
  by_cases hs : s = j
  · subst hs
    rw [if_pos rfl, if_pos hj, decide_eq_true rfl, Bool.or_true]
    rfl
  · rw [if_neg hs, decide_eq_false (fun z => hs z.symm), Bool.or_false]
theorem c_mark {σ : St} {L : Ld} (ok : LdOK L) (hR : RK σ L) {k : Nat} {B : Nat → Nat} {S : Nat → Bool} (hF : FC σ k B S) : fX1_markSetsThatCanBe 36 33 27 (nI (2 ^ k - 1)) (mk σ) = some (mk (wS σ 37 (cA (cC L k B S k) (2 ^ k) (σ.2.1 37)))) := by
  have hml := msk_lt ok
  have hk12 := hF.2.1
  have hpw : 2 ^ k ≤ 4096 := Nat.pow_le_pow_right (n := 2) (by decide) hk12
  have hp0 : 0 < 2 ^ k := Nat.two_pow_pos k
  unfold fX1_markSetsThatCanBe
  refine lp_b (fun j => (nI j, mk (wS σ 37 (fun s => if s < j then 0 else σ.2.1 37 s)))) (2 ^ k) (r := (nI (2 ^ k - 1), mk (wS σ 37 (cA (mA L k B S 0) (2 ^ k) (σ.2.1 37))))) ?_ ?_ ?_ ?_
  · have e : (fun s => if s < 0 then (0 : Int32) else σ.2.1 37 s) = σ.2.1 37 := by funext s; simp
    rw [e, wS_self]
    rfl
  · intro j hj
    have hj4 : j < 4096 := by omega
    dsimp only
    simp only [c_R, c_S, hj4, o_b]
    rw [if_neg (nI_nlt (by omega) (by omega)), show nI j + 1 = nI (j + 1) from nI_1 j, aS_wS]
    have e : upd (fun s => if s < j then (0 : Int32) else σ.2.1 37 s) j ((0 : Int32) &&& 1) = (fun s => if s < j + 1 then (0 : Int32) else σ.2.1 37 s) := by
      funext s
      unfold upd
      by_cases h1 : s = j
      · subst h1
        rw [if_pos rfl, if_pos (by omega)]
        rfl
      · rw [if_neg h1]
        dsimp only
        by_cases h2 : s < j
        · rw [if_pos h2, if_pos (by omega)]
        · rw [if_neg h2, if_neg (by omega)]
    rw [e]
  · dsimp only
    rw [if_pos (nI_lt (by omega) (by omega))]
    rfl
  · refine lp_b (fun j => (nI j, mk (wS σ 37 (cA (mA L k B S j) (2 ^ k) (σ.2.1 37))))) (msk L + 1) (r := mk (wS σ 37 (cA (cC L k B S 0) (2 ^ k) (σ.2.1 37)))) rfl ?_ ?_ ?_
    · intro j hj
      have hkp := kp_lt k B S j
      have hkp4 : kp k B S j < 4096 := by omega
      generalize hT : wS σ 37 (cA (mA L k B S j) (2 ^ k) (σ.2.1 37)) = τ
      have tR : RK τ L := by rw [← hT]; exact hR
      have tF : FC τ k B S := by rw [← hT]; exact hF
      have e1 : nI (kp k B S j) &&& nI (2 ^ k - 1) = nI (kp k B S j) := by
        rw [n_and, Nat.and_two_pow_sub_one_eq_mod, Nat.mod_eq_of_lt hkp]
      dsimp only
      simp only [c_I, c_O, o_b, tR.1, c_fit ok tR, isWx_n (show j < 2 ^ 31 by omega), nI_clamp (show j < 2 ^ 31 by omega), c_R, c_kept tF (show j < 2 ^ 31 by omega), e1, c_S, hkp4]
      rw [if_neg (show ¬ nI (msk L) < nI j from nI_nlt (by omega) (by omega)), show nI j + 1 = nI (j + 1) from nI_1 j]
      have e2 : mA L k B S (j + 1) = fun s => mA L k B S j s || (fq L j && decide (kp k B S j = s)) := rfl
      have e3 : (isW L j && decide (wr L j = 0)) = fq L j := rfl
      rw [e2, e3]
      cases fq L j with
      | false =>
        rw [if_pos b2i_f, o_b]
        have e4 : (fun s => mA L k B S j s || (false && decide (kp k B S j = s))) = mA L k B S j := by funext s; simp
        rw [e4, hT]
      | true =>
        rw [if_neg (show ¬ b2i true = 0 from hne), o_b]
        have e4 : (fun s => mA L k B S j s || (true && decide (kp k B S j = s))) = fun s => mA L k B S j s || decide (kp k B S j = s) := by funext s; simp
        rw [e4, ← cA_set hkp, ← aS_wS, hT]
        rfl
    · have h0 : (wS σ 37 (cA (mA L k B S (msk L + 1)) (2 ^ k) (σ.2.1 37))).1 33 0 = nI (msk L) := hR.1
      dsimp only
      simp only [c_I, o_b, h0]
      rw [if_pos (show nI (msk L) < nI (msk L + 1) from nI_lt (by omega) (by omega))]
      rfl
    · refine lp_b (fun i => (nI i, mk (wS σ 37 (cA (cC L k B S i) (2 ^ k) (σ.2.1 37))))) k (r := mk (wS σ 37 (cA (cC L k B S k) (2 ^ k) (σ.2.1 37)))) rfl ?_ ?_ rfl
      · intro i hi
        have h0 : (wS σ 37 (cA (cC L k B S i) (2 ^ k) (σ.2.1 37))).1 27 0 = nI k := hF.1
        dsimp only
        simp only [c_I, o_b, h0]
        rw [if_neg (nI_ge hi (by omega)), show nI i + 1 = nI (i + 1) from nI_1 i]
        refine lp_b (fun j => (nI j, mk (wS σ 37 (cA (cD L k B S i j) (2 ^ k) (σ.2.1 37))))) (2 ^ k) (r := mk (wS σ 37 (cA (cC L k B S (i + 1)) (2 ^ k) (σ.2.1 37)))) ?_ ?_ ?_ rfl
        · have e : cD L k B S i 0 = cC L k B S i := by
            funext s
            unfold cD
            simp
          rw [e]
          rfl
        · intro j hj
          have hj4 : j < 4096 := by omega
          have hx := x_lt hj hi
          have hx4 : j ^^^ 2 ^ i < 4096 := by omega
          generalize hT : wS σ 37 (cA (cD L k B S i j) (2 ^ k) (σ.2.1 37)) = τ
          have tA : τ.2.1 37 j = b2i (cD L k B S i j j) := by
            rw [← hT, wS_a, if_pos rfl]
            unfold cA
            rw [if_pos hj]
          dsimp only
          simp only [c_R, c_A, hj4, o_b, tA, n_has (show j < 2 ^ 31 by omega) (show i < 32 by omega), n_shl1 i (show i < 31 by omega), n_xor, c_S, hx4]
          rw [if_neg (nI_nlt (by omega) (by omega)), show nI j + 1 = nI (j + 1) from nI_1 j]
          have same : (j.testBit i = false ∨ cD L k B S i j j = false) → cA (cD L k B S i (j + 1)) (2 ^ k) (σ.2.1 37) = cA (cD L k B S i j) (2 ^ k) (σ.2.1 37) := by
            intro h
            refine cA_cong (fun s hs => ?_)
            unfold cD
            by_cases hsj : s ^^^ 2 ^ i = j
            · have hsb : s.testBit i = !j.testBit i := by rw [← hsj, x_bit, decide_eq_true rfl]; simp
              rw [hsj]
              rcases h with h | h
              · rw [hsb, h]; rfl
              · unfold cD at h
                rw [Bool.or_eq_false_iff] at h
                rw [h.1, Bool.and_false, Bool.and_false]
            · have e : decide (s ^^^ 2 ^ i < j + 1) = decide (s ^^^ 2 ^ i < j) := by
                by_cases h5 : s ^^^ 2 ^ i < j
                · rw [decide_eq_true h5, decide_eq_true (by omega)]
                · rw [decide_eq_false h5, decide_eq_false (by omega)]
              rw [e]
          cases h1 : j.testBit i with
          | false =>
            rw [if_pos b2i_f, o_b, same (Or.inl h1), hT]
          | true =>
            rw [if_neg (show ¬ b2i true = 0 from hne)]
            cases h2 : cD L k B S i j j with
            | false => rw [if_pos b2i_f, o_b, same (Or.inr h2), hT]
            | true =>
              rw [if_neg (show ¬ b2i true = 0 from hne), o_b]
              have e5 : cA (cD L k B S i (j + 1)) (2 ^ k) (σ.2.1 37) = cA (fun s => cD L k B S i j s || decide (j ^^^ 2 ^ i = s)) (2 ^ k) (σ.2.1 37) := by
                refine cA_cong (fun s hs => ?_)
                have hcj : cC L k B S i j = true := by
                  unfold cD at h2
                  rw [h1] at h2
                  simpa using h2
                unfold cD
                by_cases hsj : s ^^^ 2 ^ i = j
                · have hsb : s.testBit i = false := by
                    have : (s ^^^ 2 ^ i).testBit i = true := by rw [hsj]; exact h1
                    rw [x_bit, decide_eq_true rfl] at this
                    simpa using this
                  have hs2 : j ^^^ 2 ^ i = s := by rw [← hsj, Nat.xor_assoc, Nat.xor_self, Nat.xor_zero]
                  rw [hsj, hsb, hcj, decide_eq_true hs2, decide_eq_true (show j < j + 1 by omega)]
                  simp
                · have e : decide (s ^^^ 2 ^ i < j + 1) = decide (s ^^^ 2 ^ i < j) := by
                    by_cases h5 : s ^^^ 2 ^ i < j
                    · rw [decide_eq_true h5, decide_eq_true (by omega)]
                    · rw [decide_eq_false h5, decide_eq_false (by omega)]
                  have hs2 : ¬ j ^^^ 2 ^ i = s := fun z => hsj (by rw [← z, Nat.xor_assoc, Nat.xor_self, Nat.xor_zero])
                  rw [e, decide_eq_false hs2, Bool.or_false]
              rw [e5, ← cA_set hx, ← aS_wS, hT]
              rfl
        · dsimp only
          rw [if_pos (nI_lt (by omega) (by omega))]
          have e : cA (cD L k B S i (2 ^ k)) (2 ^ k) (σ.2.1 37) = cA (cC L k B S (i + 1)) (2 ^ k) (σ.2.1 37) := by
            refine cA_cong (fun s hs => ?_)
            unfold cD
            rw [decide_eq_true (x_lt hs hi), Bool.and_true]
            rfl
          rw [e]
      · have h0 : (wS σ 37 (cA (cC L k B S k) (2 ^ k) (σ.2.1 37))).1 27 0 = nI k := hF.1
        dsimp only
        simp only [c_I, o_b, h0]
        rw [if_pos (nI_le (Nat.le_refl _) (by omega))]
