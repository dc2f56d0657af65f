/-! ===== 34: found things; good worlds as a list ===== -/
/-- the first place below n of which p holds; n if there is none -/
def fi (p : Nat → Bool) : Nat → Nat
  | 0 => 0
  | n + 1 => if fi p n < n then fi p n else if p n then n else n + 1
theorem fi_le (p : Nat → Bool) : ∀ n, fi p n ≤ n
  | 0 => Nat.le_refl 0
  | n + 1 => by
    have ih := fi_le p n
    show (if fi p n < n then fi p n else if p n then n else n + 1) ≤ n + 1
    split
    · omega
    · split <;> omega
theorem fi_no (p : Nat → Bool) : ∀ n k, k < fi p n → p k = false
  | 0, k, h => absurd h (Nat.not_lt_zero k)
  | n + 1, k, h => by
    have ih := fi_no p n
    have hl := fi_le p n
    have h : k < (if fi p n < n then fi p n else if p n then n else n + 1) := h
    split at h
    · exact ih k h
    · rename_i q
      have e : fi p n = n := by omega
      split at h
      · exact ih k (by omega)
      · rename_i q2
        by_cases hk : k = n
        · subst hk; simpa using q2
        · exact ih k (by omega)
theorem fi_yes (p : Nat → Bool) : ∀ n, fi p n < n → p (fi p n) = true
  | 0, h => absurd h (Nat.not_lt_zero _)
  | n + 1, h => by
    have ih := fi_yes p n
    have h : (if fi p n < n then fi p n else if p n then n else n + 1) < n + 1 := h
    show p (if fi p n < n then fi p n else if p n then n else n + 1) = true
    split
    · rename_i q; exact ih q
    · rename_i q
      rw [if_neg q] at h
      split
      · assumption
      · rename_i q2; rw [if_neg q2] at h; omega
theorem fi_all {p : Nat → Bool} {n : Nat} : fi p n < n ↔ ∃ k, k < n ∧ p k = true := by
  constructor
  · intro h
    exact ⟨_, h, fi_yes p n h⟩
  · rintro ⟨k, hk, hp⟩
    rcases Nat.lt_or_ge (fi p n) n with q | q
    · exact q
    · have := fi_no p n k (by omega)
      rw [this] at hp; cases hp
/-- a loop that may end early -/
theorem lp_f {σ ρ : Type} {body : σ → Option (σ ⊕ ρ)} {s : σ} (f : Nat → σ) (n : Nat) (p : Nat → Bool) (R : Nat → ρ) (re : ρ) (h0 : s = f 0) (h1 : ∀ j, j < n → p j = false → body (f j) = some (.inl (f (j + 1)))) (h2 : ∀ j, j < n → p j = true → body (f j) = some (.inr (R j))) (he : body (f n) = some (.inr re)) : qv_loop body s = some (if fi p n < n then R (fi p n) else re) := by
  by_cases h : fi p n < n
  · rw [if_pos h]
    exact lp_up f (fi p n) h0 (fun j hj => h1 j (by omega) (fi_no p n j hj)) (h2 _ h (fi_yes p n h))
  · rw [if_neg h]
    have e : fi p n = n := by have := fi_le p n; omega
    exact lp_up f n h0 (fun j hj => h1 j hj (fi_no p n j (by omega))) he
def FdA (n : Int32) (a b : Nat → Int32) (k : Nat) (B : Nat → Nat) (S : Nat → Bool) : Prop := n = nI k ∧ k ≤ 12 ∧ ∀ i, i < k → a i = nI (B i) ∧ b i = b2i (S i) ∧ B i < 10
abbrev FC (σ : St) (k : Nat) (B : Nat → Nat) (S : Nat → Bool) : Prop := FdA (σ.1 27 0) (σ.2.1 28) (σ.2.1 29) k B S
abbrev FM (σ : St) (k : Nat) (B : Nat → Nat) (S : Nat → Bool) : Prop := FdA (σ.1 45 17) (σ.2.1 54) (σ.2.1 55) k B S
/-- those of a set of found things are so in a world -/
def fokS (k : Nat) (B : Nat → Nat) (S : Nat → Bool) (set w : Nat) : Bool := decide (∀ i, i < k → set.testBit i = true → w.testBit (B i) = S i)
def fok (k : Nat) (B : Nat → Nat) (S : Nat → Bool) (w : Nat) : Bool := decide (∀ i, i < k → w.testBit (B i) = S i)
theorem m_foundSo {σ : St} (hz : σ.2.2 = true) {k : Nat} {B : Nat → Nat} {S : Nat → Bool} (hF : FM σ k B S) {i w : Nat} (hi : i < k) (hw : w < 2 ^ 31) : fX9_isFoundSo 45 (nI i) (nI w) (mk σ) = some (b2i (w.testBit (B i) == S i)) := by
  obtain ⟨h1, h2, h3⟩ := hF
  obtain ⟨a1, a2, a3⟩ := h3 i hi
  have hi12 : i < 12 := by omega
  unfold fX9_isFoundSo
  simp only [m_R hz, m_A hz, hi12, o_b, a1, a2, n_bit hw (show B i < 32 by omega)]
  cases w.testBit (B i) <;> cases S i <;> rfl
theorem m_areFound {σ : St} (hz : σ.2.2 = true) {k : Nat} {B : Nat → Nat} {S : Nat → Bool} (hF : FM σ k B S) {set w : Nat} (hs : set < 2 ^ 31) (hw : w < 2 ^ 31) : fX9_areFoundSo 45 (nI set) (nI w) (mk σ) = some (b2i (fokS k B S set w)) := by
  have h1 := hF.1
  have h2 := hF.2.1
  unfold fX9_areFoundSo
  have key := lp_f (ρ := Unit ⊕ Int32) (body := fun x1 => (qv_gI (mk σ) 8 45 17).bind fun v2 => if v2 ≤ x1 then some (.inr (.inl ())) else if ((nI set >>> (x1 &&& 31)) &&& (1 : Int32)) = (1 : Int32) then (qv_ob (mk σ) 8 45).bind fun _ => (fX9_isFoundSo 45 x1 (nI w) (mk σ)).bind fun v4 => if v4 = 0 then some (.inr (.inr (0 : Int32))) else some (.inl (x1 + (1 : Int32))) else some (.inl (x1 + (1 : Int32)))) (s := (0 : Int32)) (fun j => nI j) k (fun i => set.testBit i && (w.testBit (B i) != S i)) (fun _ => .inr 0) (.inl ()) rfl (by
      intro j hj hp
      simp only [m_I hz, h1, o_b, m_O hz, m_foundSo hz hF hj hw, n_bit hs (show j < 32 by omega)]
      rw [if_neg (nI_ge hj (by omega))]
      cases ht : set.testBit j with
      | false => rw [if_neg (by decide)]; exact congrArg (fun z => some (Sum.inl z)) (nI_1 j)
      | true =>
        rw [ht] at hp
        rw [if_pos (by decide)]
        have e : (w.testBit (B j) == S j) = true := by
          cases h5 : w.testBit (B j) <;> cases h6 : S j <;> rw [h5, h6] at hp <;> first | rfl | (exact absurd hp (by decide))
        rw [e, if_neg (by decide)]
        exact congrArg (fun z => some (Sum.inl z)) (nI_1 j)) (by
      intro j hj hp
      simp only [m_I hz, h1, o_b, m_O hz, m_foundSo hz hF hj hw, n_bit hs (show j < 32 by omega)]
      rw [if_neg (nI_ge hj (by omega))]
      cases ht : set.testBit j with
      | false => rw [ht] at hp; exact absurd hp (by simp)
      | true =>
        rw [ht] at hp
        rw [if_pos (by decide)]
        have e : (w.testBit (B j) == S j) = false := by
          cases h5 : w.testBit (B j) <;> cases h6 : S j <;> rw [h5, h6] at hp <;> first | rfl | (exact absurd hp (by decide))
        rw [e, if_pos (by decide)]) (by
      simp only [m_I hz, h1, o_b]
      rw [if_pos (nI_le (Nat.le_refl _) (by omega))])
  rw [key]
  have e1 : (fi (fun i => set.testBit i && (w.testBit (B i) != S i)) k < k) ↔ fokS k B S set w = false := by
    rw [fi_all]
    unfold fokS
    constructor
    · rintro ⟨i, h3, h4⟩
      simp only [Bool.and_eq_true, bne_iff_ne, ne_eq] at h4
      exact decide_eq_false (fun q => h4.2 (q i h3 h4.1))
    · intro h
      have h5 := of_decide_eq_false h
      simp only [Classical.not_forall] at h5
      obtain ⟨i, h6, h7, h8⟩ := h5
      exact ⟨i, h6, by simp [h7, h8]⟩
  by_cases hq : fi (fun i => set.testBit i && (w.testBit (B i) != S i)) k < k
  · rw [if_pos hq, e1.mp hq]; rfl
  · rw [if_neg hq]
    have : fokS k B S set w = true := by
      cases h9 : fokS k B S set w with
      | true => rfl
      | false => exact absurd (e1.mpr h9) hq
    rw [this]; rfl
theorem fokS_all {k : Nat} {B : Nat → Nat} {S : Nat → Bool} {w : Nat} : fokS k B S (2 ^ k - 1) w = fok k B S w := by
  unfold fokS fok
  congr 1
  apply propext
  constructor
  · intro h i hi
    exact h i hi (by rw [Nat.testBit_two_pow_sub_one]; simpa using hi)
  · intro h i hi _
    exact h i hi
theorem m_allFound {σ : St} (hz : σ.2.2 = true) {k : Nat} {B : Nat → Nat} {S : Nat → Bool} (hF : FM σ k B S) : fX9_allFound 45 (mk σ) = some (nI (2 ^ k - 1)) := by
  have h1 := hF.1
  have h2 := hF.2.1
  unfold fX9_allFound
  simp only [m_I hz, o_b, h1, p_1 k (by omega)]
theorem p12 {k : Nat} (h : k ≤ 12) : 2 ^ k - 1 < 2 ^ 31 := by
  have : 2 ^ k ≤ 2 ^ 12 := Nat.pow_le_pow_right (by decide) h
  omega
theorem m_fok {σ : St} (hz : σ.2.2 = true) {k : Nat} {B : Nat → Nat} {S : Nat → Bool} (hF : FM σ k B S) {w : Nat} (hw : w < 2 ^ 31) : fX9_areFoundSo 45 (nI (2 ^ k - 1)) (nI w) (mk σ) = some (b2i (fok k B S w)) := by
  rw [m_areFound hz hF (p12 hF.2.1) hw, fokS_all]
/-- the found bits, so or not -/
def orb (p : Nat → Bool) (B : Nat → Nat) : Nat → Nat
  | 0 => 0
  | n + 1 => if p n then orb p B n ||| 2 ^ B n else orb p B n
theorem orb_bit (p : Nat → Bool) (B : Nat → Nat) : ∀ n i, (orb p B n).testBit i = true ↔ ∃ j, j < n ∧ p j = true ∧ B j = i
  | 0, i => by
    show (0 : Nat).testBit i = true ↔ _
    rw [Nat.zero_testBit]
    constructor
    · intro h; cases h
    · rintro ⟨j, h, _⟩; omega
  | n + 1, i => by
    have ih := orb_bit p B n i
    show (if p n then orb p B n ||| 2 ^ B n else orb p B n).testBit i = true ↔ _
    by_cases hp : p n = true
    · rw [if_pos hp, Nat.testBit_or, Bool.or_eq_true, ih, Nat.testBit_two_pow]
      constructor
      · rintro (⟨j, h1, h2⟩ | h)
        · exact ⟨j, by omega, h2⟩
        · exact ⟨n, by omega, hp, by simpa using h⟩
      · rintro ⟨j, h1, h2, h3⟩
        by_cases hj : j = n
        · subst hj; right; simpa using h3
        · left; exact ⟨j, by omega, h2, h3⟩
    · rw [if_neg hp, ih]
      constructor
      · rintro ⟨j, h1, h2⟩
        exact ⟨j, by omega, h2⟩
      · rintro ⟨j, h1, h2, h3⟩
        by_cases hj : j = n
        · subst hj; exact absurd h2 hp
        · exact ⟨j, by omega, h2, h3⟩
theorem orb_lt {p : Nat → Bool} {B : Nat → Nat} {n : Nat} (h : ∀ i, i < n → B i < 10) : orb p B n < 1024 :=
  lt_of_bits (n := 10) (fun i hi => by
    obtain ⟨j, h1, h2, h3⟩ := (orb_bit p B n i).mp hi
    rw [← h3]; exact h j h1)
theorem c_bits {σ : St} {k : Nat} {B : Nat → Nat} {S : Nat → Bool} (hF : FC σ k B S) (q : Bool) : fX2_bitsFound 27 (b2i q) (mk σ) = some (nI (orb (fun i => S i == q) B k)) := by
  have h1 := hF.1
  have h2 := hF.2.1
  unfold fX2_bitsFound
  refine lp_b (fun j => (nI (orb (fun i => S i == q) B j), nI j)) k (r := nI (orb (fun i => S i == q) B k)) rfl ?_ ?_ rfl
  · intro j hj
    obtain ⟨a1, a2, a3⟩ := hF.2.2 j hj
    have hj12 : j < 12 := by omega
    dsimp only
    simp only [c_I, c_R, c_A, hj12, h1, o_b, a1, a2]
    rw [if_neg (nI_ge hj (by omega))]
    show Option.bind _ (fun m8 => some (Sum.inl (m8, nI j + 1))) = some (Sum.inl (nI (if (S j == q) = true then orb (fun i => S i == q) B j ||| 2 ^ B j else orb (fun i => S i == q) B j), nI (j + 1)))
    rw [show nI j + 1 = nI (j + 1) from nI_1 j]
    by_cases hq : S j = q
    · rw [if_pos (by rw [hq]), n_shl1 (B j) (by omega), n_or, if_pos (by simp [hq])]
      rfl
    · rw [if_neg (fun z => hq (b2i_inj.mp z)), if_neg (by simp [hq])]
      rfl
  · dsimp only
    simp only [c_I, h1, o_b]
    rw [if_pos (nI_le (Nat.le_refl _) (by omega))]
theorem c_asFound {σ : St} {k : Nat} {B : Nat → Nat} {S : Nat → Bool} (hB : ∀ i, i < k → B i < 10) (h4 : σ.1 33 4 = nI (orb (fun i => S i == true) B k)) (h5 : σ.1 33 5 = nI (orb (fun i => S i == false) B k)) {w : Nat} (hw : w < 2 ^ 31) : fX7_isAsFound 33 (nI w) (mk σ) = some (b2i (fok k B S w)) := by
  have l1 := orb_lt (p := fun i => S i == true) (n := k) hB
  have l2 := orb_lt (p := fun i => S i == false) (n := k) hB
  unfold fX7_isAsFound fX0_allow
  simp only [c_I, o_b, h4, h5, n_and]
  have e1 : (nI (w &&& orb (fun i => S i == true) B k) = nI (orb (fun i => S i == true) B k)) ↔ ∀ i, i < k → S i = true → w.testBit (B i) = true := by
    rw [nI_eq (Nat.lt_of_le_of_lt Nat.and_le_left hw) (by omega), Nat.and_comm, sub_iff]
    constructor
    · intro h i hi hs
      exact h (B i) ((orb_bit _ _ _ _).mpr ⟨i, hi, by simp [hs], rfl⟩)
    · intro h i hi
      obtain ⟨j, a1, a2, a3⟩ := (orb_bit _ _ _ _).mp hi
      rw [← a3]
      exact h j a1 (by simpa using a2)
  have e0 : (0 : Int32) = nI 0 := rfl
  have e2 : (nI (w &&& orb (fun i => S i == false) B k) = 0) ↔ ∀ i, i < k → S i = false → w.testBit (B i) = false := by
    rw [e0, nI_eq (Nat.lt_of_le_of_lt Nat.and_le_left hw) (by decide)]
    constructor
    · intro h i hi hs
      have h1 : (w &&& orb (fun i => S i == false) B k).testBit (B i) = false := by rw [h]; exact Nat.zero_testBit _
      rw [Nat.testBit_and, (orb_bit _ _ _ _).mpr ⟨i, hi, by simp [hs], rfl⟩, Bool.and_true] at h1
      exact h1
    · intro h
      apply Nat.eq_of_testBit_eq
      intro i
      rw [Nat.testBit_and, Nat.zero_testBit]
      cases hq : (orb (fun i => S i == false) B k).testBit i with
      | false => simp
      | true =>
        obtain ⟨j, a1, a2, a3⟩ := (orb_bit _ _ _ _).mp hq
        rw [← a3, h j a1 (by simpa using a2)]
        rfl
  have e3 : fok k B S w = true ↔ (∀ i, i < k → S i = true → w.testBit (B i) = true) ∧ (∀ i, i < k → S i = false → w.testBit (B i) = false) := by
    unfold fok
    rw [decide_eq_true_iff]
    constructor
    · intro h
      exact ⟨fun i hi hs => by rw [h i hi, hs], fun i hi hs => by rw [h i hi, hs]⟩
    · rintro ⟨h1, h2⟩ i hi
      cases hs : S i with
      | true => exact h1 i hi hs
      | false => exact h2 i hi hs
  by_cases a1 : ∀ i, i < k → S i = true → w.testBit (B i) = true
  · rw [if_pos (e1.mpr a1)]
    by_cases a2 : ∀ i, i < k → S i = false → w.testBit (B i) = false
    · rw [if_pos (e2.mpr a2), e3.mpr ⟨a1, a2⟩]; rfl
    · rw [if_neg (fun z => a2 (e2.mp z))]
      have : fok k B S w = false := by
        cases h9 : fok k B S w with
        | false => rfl
        | true => exact absurd (e3.mp h9).2 a2
      rw [this]; rfl
  · rw [if_neg (fun z => a1 (e1.mp z))]
    have : fok k B S w = false := by
      cases h9 : fok k B S w with
      | false => rfl
      | true => exact absurd (e3.mp h9).1 a1
    rw [this]; rfl
